def rm_X7_product_f1 : Room := { frames := 2, cells := 0, slots := 0, locals := 42 }
theorem hd_X7_product : k_hd1 yX7_product RX7 3 := by decide +kernel
set_option maxHeartbeats 4000000 in
set_option maxRecDepth 100000 in
theorem c_X7_product_f1 (l : Launch) (E : ke_E) (o : Nat) (z : Nat → Int32) (w : md_w) (x : Int32) (y : Int32) (y2 : Int32) (hI : iv z) (h1 : ¬ inR x 6) : Met l yX7_product wsX7_product rm_X7_product_f1 (kp E [.ref o, .int x, .int y, .int y2] (md E o z w)) (qm (some (.int (nI 0))) (bl o 6) (md E o z (w_th w (nI 1)))) 0 0 (bl o 6) := by
  refine k_hd (cc := cX7_product) (maxL := 5) (ret := (some .int)) (by decide) rfl (Nat.le_of_ble_eq_true rfl) ?_
  intro p e s m below meth c ls S hr hlk hnm hK hP hl
  have hx := S.1
  have hb := S.2.1
  have hts := S.2.2.2.2
  have hP : md E o z w s.heap := hP
  have hl : lv_has ls 5 [(0, .ref o), (1, .int x), (2, .int y), (3, .int y2)] := hl
  have hS : va_S (bl o 6) s.heap s.heap [] := va_S.rf
  have hcn := iv_c hI
  refine lv_aload_n hx hb dX7_product_0 rfl (lv_at hl 0 rfl) ?_
  refine lv_iconst (v := nI 0) hx hb dX7_product_1 (by decide) ?_
  refine md_put (w' := w_th w (nI 0)) S hK hP (fun _ h => List.mem_cons_of_mem _ (List.mem_append_right _ (h))) 6 (by decide) (List.mem_cons_of_mem _ (List.mem_append_left _ (List.mem_of_getElem? (i := 0) rfl))) rfl rfl rfl rfl rfl rfl rfl rfl rfl hS (fun _ h => h) dX7_product_2 (fun H locs hP zH fH hS => ?_)
  refine lv_iload_n hx hb dX7_product_5 rfl (lv_at hl 1 rfl) ?_
  refine k_S (As := [.int x]) (rest := []) S hK (c_X7_isProduct l E x) gX7_product_X7_isProduct rfl hd_X7_isProduct ⟨rfl, rfl⟩ ⟨Nat.le_of_ble_eq_true rfl, Nat.le_of_ble_eq_true rfl⟩ trivial rfl hl.1 rfl (Nat.le_of_ble_eq_true rfl) dX7_product_6 ⟨Nat.le_of_ble_eq_true rfl, Nat.le_of_ble_eq_true rfl⟩ ?_
  refine b_eq (tgt := 19) hx hb dX7_product_9 (by decide) (fun c9 => ?_) (fun h => absurd h (fun q => h1 ((inR_iff (by decide)).mp q)))
  refine lv_aload_n hx hb dX7_product_19 rfl (lv_at hl 0 rfl) ?_
  refine lv_iconst (v := nI 1) hx hb dX7_product_20 (by decide) ?_
  refine k_VM (As := [.int (nI 1)]) (rest := []) S hK (c_X7_fails l E o z (w_th w (nI 0)) (nI 1)) gX7_product_X7_fails rfl hd_X7_fails ⟨rfl, rfl⟩ ⟨Nat.le_of_ble_eq_true rfl, Nat.le_of_ble_eq_true rfl⟩ (k_recv hK hP.1 rfl) hP rfl hl.1 rfl (Nat.le_of_ble_eq_true rfl) dX7_product_21 ⟨Nat.le_of_ble_eq_true rfl, Nat.le_of_ble_eq_true rfl⟩ hS (fun q h => h) (fun q h => h) (fun H locs hQ zH fH hS => ?_)
  have hP := hQ
  exact k_iretM hx hb hr hlk dX7_product_24 hS (show md E o z (w_th w (nI 1)) _ from hP) (rfl)
def rm_X7_product_f2 : Room := { frames := 2, cells := 0, slots := 0, locals := 42 }
set_option maxHeartbeats 4000000 in
set_option maxRecDepth 100000 in
theorem c_X7_product_f2 (l : Launch) (E : ke_E) (o : Nat) (z : Nat → Int32) (w : md_w) (q : Nat) (y : Int32) (x : Int32) (hI : iv z) (hq6 : q < 6) (h1 : ¬ inR x 4) : Met l yX7_product wsX7_product rm_X7_product_f2 (kp E [.ref o, .int (nI q), .int y, .int x] (md E o z w)) (qm (some (.int (nI 0))) (bl o 6) (md E o z (w_th w (nI 1)))) 0 0 (bl o 6) := by
  refine k_hd (cc := cX7_product) (maxL := 5) (ret := (some .int)) (by decide) rfl (Nat.le_of_ble_eq_true rfl) ?_
  intro p e s m below meth c ls S hr hlk hnm hK hP hl
  have hx := S.1
  have hb := S.2.1
  have hts := S.2.2.2.2
  have hP : md E o z w s.heap := hP
  have hl : lv_has ls 5 [(0, .ref o), (1, .int (nI q)), (2, .int y), (3, .int x)] := hl
  have hS : va_S (bl o 6) s.heap s.heap [] := va_S.rf
  have hcn := iv_c hI
  refine lv_aload_n hx hb dX7_product_0 rfl (lv_at hl 0 rfl) ?_
  refine lv_iconst (v := nI 0) hx hb dX7_product_1 (by decide) ?_
  refine md_put (w' := w_th w (nI 0)) S hK hP (fun _ h => List.mem_cons_of_mem _ (List.mem_append_right _ (h))) 6 (by decide) (List.mem_cons_of_mem _ (List.mem_append_left _ (List.mem_of_getElem? (i := 0) rfl))) rfl rfl rfl rfl rfl rfl rfl rfl rfl hS (fun _ h => h) dX7_product_2 (fun H locs hP zH fH hS => ?_)
  refine lv_iload_n hx hb dX7_product_5 rfl (lv_at hl 1 rfl) ?_
  refine k_S (As := [.int (nI q)]) (rest := []) S hK (c_X7_isProduct l E (nI q)) gX7_product_X7_isProduct rfl hd_X7_isProduct ⟨rfl, rfl⟩ ⟨Nat.le_of_ble_eq_true rfl, Nat.le_of_ble_eq_true rfl⟩ trivial rfl hl.1 rfl (Nat.le_of_ble_eq_true rfl) dX7_product_6 ⟨Nat.le_of_ble_eq_true rfl, Nat.le_of_ble_eq_true rfl⟩ ?_
  refine b_eq (tgt := 19) hx hb dX7_product_9 (by decide) (fun h => absurd (in_n (Nat.zero_le _) (by omega) (by decide)) h) (fun c9 => ?_)
  refine lv_iload_n hx hb dX7_product_12 rfl (lv_at hl 3 rfl) ?_
  refine k_S (As := [.int x]) (rest := []) S hK (c_X7_isVendor l E x) gX7_product_X7_isVendor rfl hd_X7_isVendor ⟨rfl, rfl⟩ ⟨Nat.le_of_ble_eq_true rfl, Nat.le_of_ble_eq_true rfl⟩ trivial rfl hl.1 rfl (Nat.le_of_ble_eq_true rfl) dX7_product_13 ⟨Nat.le_of_ble_eq_true rfl, Nat.le_of_ble_eq_true rfl⟩ ?_
  refine b_ne (tgt := 25) hx hb dX7_product_16 (by decide) (fun h => absurd h (fun q => h1 ((inR_iff (by decide)).mp q))) (fun c16 => ?_)
  refine lv_aload_n hx hb dX7_product_19 rfl (lv_at hl 0 rfl) ?_
  refine lv_iconst (v := nI 1) hx hb dX7_product_20 (by decide) ?_
  refine k_VM (As := [.int (nI 1)]) (rest := []) S hK (c_X7_fails l E o z (w_th w (nI 0)) (nI 1)) gX7_product_X7_fails rfl hd_X7_fails ⟨rfl, rfl⟩ ⟨Nat.le_of_ble_eq_true rfl, Nat.le_of_ble_eq_true rfl⟩ (k_recv hK hP.1 rfl) hP rfl hl.1 rfl (Nat.le_of_ble_eq_true rfl) dX7_product_21 ⟨Nat.le_of_ble_eq_true rfl, Nat.le_of_ble_eq_true rfl⟩ hS (fun q h => h) (fun q h => h) (fun H locs hQ zH fH hS => ?_)
  have hP := hQ
  exact k_iretM hx hb hr hlk dX7_product_24 hS (show md E o z (w_th w (nI 1)) _ from hP) (rfl)
def rm_X7_product_f3 : Room := { frames := 2, cells := 0, slots := 0, locals := 42 }
set_option maxHeartbeats 4000000 in
set_option maxRecDepth 100000 in
theorem c_X7_product_f3 (l : Launch) (E : ke_E) (o : Nat) (z : Nat → Int32) (w : md_w) (q : Nat) (y : Int32) (v : Nat) (hI : iv z) (hq6 : q < 6) (hv4 : v < 4) (h1 : ¬ (nI 1 ≤ y ∧ y ≤ nI 9999)) : Met l yX7_product wsX7_product rm_X7_product_f3 (kp E [.ref o, .int (nI q), .int y, .int (nI v)] (md E o z w)) (qm (some (.int (nI 0))) (bl o 6) (md E o z (w_th w (nI 2)))) 0 0 (bl o 6) := by
  refine k_hd (cc := cX7_product) (maxL := 5) (ret := (some .int)) (by decide) rfl (Nat.le_of_ble_eq_true rfl) ?_
  intro p e s m below meth c ls S hr hlk hnm hK hP hl
  have hx := S.1
  have hb := S.2.1
  have hts := S.2.2.2.2
  have hP : md E o z w s.heap := hP
  have hl : lv_has ls 5 [(0, .ref o), (1, .int (nI q)), (2, .int y), (3, .int (nI v))] := hl
  have hS : va_S (bl o 6) s.heap s.heap [] := va_S.rf
  have hcn := iv_c hI
  refine lv_aload_n hx hb dX7_product_0 rfl (lv_at hl 0 rfl) ?_
  refine lv_iconst (v := nI 0) hx hb dX7_product_1 (by decide) ?_
  refine md_put (w' := w_th w (nI 0)) S hK hP (fun _ h => List.mem_cons_of_mem _ (List.mem_append_right _ (h))) 6 (by decide) (List.mem_cons_of_mem _ (List.mem_append_left _ (List.mem_of_getElem? (i := 0) rfl))) rfl rfl rfl rfl rfl rfl rfl rfl rfl hS (fun _ h => h) dX7_product_2 (fun H locs hP zH fH hS => ?_)
  refine lv_iload_n hx hb dX7_product_5 rfl (lv_at hl 1 rfl) ?_
  refine k_S (As := [.int (nI q)]) (rest := []) S hK (c_X7_isProduct l E (nI q)) gX7_product_X7_isProduct rfl hd_X7_isProduct ⟨rfl, rfl⟩ ⟨Nat.le_of_ble_eq_true rfl, Nat.le_of_ble_eq_true rfl⟩ trivial rfl hl.1 rfl (Nat.le_of_ble_eq_true rfl) dX7_product_6 ⟨Nat.le_of_ble_eq_true rfl, Nat.le_of_ble_eq_true rfl⟩ ?_
  refine b_eq (tgt := 19) hx hb dX7_product_9 (by decide) (fun h => absurd (in_n (Nat.zero_le _) (by omega) (by decide)) h) (fun c9 => ?_)
  refine lv_iload_n hx hb dX7_product_12 rfl (lv_at hl 3 rfl) ?_
  refine k_S (As := [.int (nI v)]) (rest := []) S hK (c_X7_isVendor l E (nI v)) gX7_product_X7_isVendor rfl hd_X7_isVendor ⟨rfl, rfl⟩ ⟨Nat.le_of_ble_eq_true rfl, Nat.le_of_ble_eq_true rfl⟩ trivial rfl hl.1 rfl (Nat.le_of_ble_eq_true rfl) dX7_product_13 ⟨Nat.le_of_ble_eq_true rfl, Nat.le_of_ble_eq_true rfl⟩ ?_
  refine b_ne (tgt := 25) hx hb dX7_product_16 (by decide) (fun c16 => ?_) (fun h => absurd (in_n (Nat.zero_le _) (by omega) (by decide)) h)
  refine lv_iload_n hx hb dX7_product_25 rfl (lv_at hl 2 rfl) ?_
  refine lv_iconst (v := nI 1) hx hb dX7_product_26 (by decide) ?_
  refine lv_sipush (v := nI 9999) hx hb dX7_product_27 (by decide) ?_
  refine k_S (As := [.int y, .int (nI 1), .int (nI 9999)]) (rest := []) S hK (c_X7_in l E y (nI 1) (nI 9999)) gX7_product_X7_in rfl hd_X7_in ⟨rfl, rfl⟩ ⟨Nat.le_of_ble_eq_true rfl, Nat.le_of_ble_eq_true rfl⟩ trivial rfl hl.1 rfl (Nat.le_of_ble_eq_true rfl) dX7_product_30 ⟨Nat.le_of_ble_eq_true rfl, Nat.le_of_ble_eq_true rfl⟩ ?_
  refine b_ne (tgt := 42) hx hb dX7_product_33 (by decide) (fun h => absurd h h1) (fun c33 => ?_)
  refine lv_aload_n hx hb dX7_product_36 rfl (lv_at hl 0 rfl) ?_
  refine lv_iconst (v := nI 2) hx hb dX7_product_37 (by decide) ?_
  refine k_VM (As := [.int (nI 2)]) (rest := []) S hK (c_X7_fails l E o z (w_th w (nI 0)) (nI 2)) gX7_product_X7_fails rfl hd_X7_fails ⟨rfl, rfl⟩ ⟨Nat.le_of_ble_eq_true rfl, Nat.le_of_ble_eq_true rfl⟩ (k_recv hK hP.1 rfl) hP rfl hl.1 rfl (Nat.le_of_ble_eq_true rfl) dX7_product_38 ⟨Nat.le_of_ble_eq_true rfl, Nat.le_of_ble_eq_true rfl⟩ hS (fun q h => h) (fun q h => h) (fun H locs hQ zH fH hS => ?_)
  have hP := hQ
  exact k_iretM hx hb hr hlk dX7_product_41 hS (show md E o z (w_th w (nI 2)) _ from hP) (rfl)
def rm_X7_product : Room := { frames := 2, cells := 0, slots := 0, locals := 42 }
set_option maxHeartbeats 4000000 in
set_option maxRecDepth 100000 in
theorem c_X7_product (l : Launch) (E : ke_E) (o : Nat) (z : Nat → Int32) (w : md_w) (q : Nat) (y : Int32) (v : Nat) (sn : Nat) (hI : iv z) (hq6 : q < 6) (hv4 : v < 4) (h1 : nI 1 ≤ y ∧ y ≤ nI 9999) (hs : q_sm w = nI sn) (hn : sn ≤ 6) : Met l yX7_product wsX7_product rm_X7_product (kp E [.ref o, .int (nI q), .int y, .int (nI v)] (md E o z w)) (qm (some (.int (z (3*q + 12)))) (bl o 6) (md E o (pdZ z q y v) (svW z (w_th w (nI 0)) sn))) 0 0 (bl o 6) := by
  refine k_hd (cc := cX7_product) (maxL := 5) (ret := (some .int)) (by decide) rfl (Nat.le_of_ble_eq_true rfl) ?_
  intro p e s m below meth c ls S hr hlk hnm hK hP hl
  have hx := S.1
  have hb := S.2.1
  have hts := S.2.2.2.2
  have hP : md E o z w s.heap := hP
  have hl : lv_has ls 5 [(0, .ref o), (1, .int (nI q)), (2, .int y), (3, .int (nI v))] := hl
  have hS : va_S (bl o 6) s.heap s.heap [] := va_S.rf
  have hcn := iv_c hI
  refine lv_aload_n hx hb dX7_product_0 rfl (lv_at hl 0 rfl) ?_
  refine lv_iconst (v := nI 0) hx hb dX7_product_1 (by decide) ?_
  refine md_put (w' := w_th w (nI 0)) S hK hP (fun _ h => List.mem_cons_of_mem _ (List.mem_append_right _ (h))) 6 (by decide) (List.mem_cons_of_mem _ (List.mem_append_left _ (List.mem_of_getElem? (i := 0) rfl))) rfl rfl rfl rfl rfl rfl rfl rfl rfl hS (fun _ h => h) dX7_product_2 (fun H locs hP zH fH hS => ?_)
  refine lv_iload_n hx hb dX7_product_5 rfl (lv_at hl 1 rfl) ?_
  refine k_S (As := [.int (nI q)]) (rest := []) S hK (c_X7_isProduct l E (nI q)) gX7_product_X7_isProduct rfl hd_X7_isProduct ⟨rfl, rfl⟩ ⟨Nat.le_of_ble_eq_true rfl, Nat.le_of_ble_eq_true rfl⟩ trivial rfl hl.1 rfl (Nat.le_of_ble_eq_true rfl) dX7_product_6 ⟨Nat.le_of_ble_eq_true rfl, Nat.le_of_ble_eq_true rfl⟩ ?_
  refine b_eq (tgt := 19) hx hb dX7_product_9 (by decide) (fun h => absurd (in_n (Nat.zero_le _) (by omega) (by decide)) h) (fun c9 => ?_)
  refine lv_iload_n hx hb dX7_product_12 rfl (lv_at hl 3 rfl) ?_
  refine k_S (As := [.int (nI v)]) (rest := []) S hK (c_X7_isVendor l E (nI v)) gX7_product_X7_isVendor rfl hd_X7_isVendor ⟨rfl, rfl⟩ ⟨Nat.le_of_ble_eq_true rfl, Nat.le_of_ble_eq_true rfl⟩ trivial rfl hl.1 rfl (Nat.le_of_ble_eq_true rfl) dX7_product_13 ⟨Nat.le_of_ble_eq_true rfl, Nat.le_of_ble_eq_true rfl⟩ ?_
  refine b_ne (tgt := 25) hx hb dX7_product_16 (by decide) (fun c16 => ?_) (fun h => absurd (in_n (Nat.zero_le _) (by omega) (by decide)) h)
  refine lv_iload_n hx hb dX7_product_25 rfl (lv_at hl 2 rfl) ?_
  refine lv_iconst (v := nI 1) hx hb dX7_product_26 (by decide) ?_
  refine lv_sipush (v := nI 9999) hx hb dX7_product_27 (by decide) ?_
  refine k_S (As := [.int y, .int (nI 1), .int (nI 9999)]) (rest := []) S hK (c_X7_in l E y (nI 1) (nI 9999)) gX7_product_X7_in rfl hd_X7_in ⟨rfl, rfl⟩ ⟨Nat.le_of_ble_eq_true rfl, Nat.le_of_ble_eq_true rfl⟩ trivial rfl hl.1 rfl (Nat.le_of_ble_eq_true rfl) dX7_product_30 ⟨Nat.le_of_ble_eq_true rfl, Nat.le_of_ble_eq_true rfl⟩ ?_
  refine b_ne (tgt := 42) hx hb dX7_product_33 (by decide) (fun c33 => ?_) (fun h => absurd h1 h)
  refine lv_aload_n hx hb dX7_product_42 rfl (lv_at hl 0 rfl) ?_
  refine k_VM (As := []) (rest := []) S hK (c_X7_save l E o z (w_th w (nI 0)) sn hs hn) gX7_product_X7_save rfl hd_X7_save ⟨rfl, rfl⟩ ⟨Nat.le_of_ble_eq_true rfl, Nat.le_of_ble_eq_true rfl⟩ (k_recv hK hP.1 rfl) hP rfl hl.1 rfl (Nat.le_of_ble_eq_true rfl) dX7_product_43 ⟨Nat.le_of_ble_eq_true rfl, Nat.le_of_ble_eq_true rfl⟩ hS (fun q h => h) (fun q h => h) (fun H locs hQ zH fH hS => ?_)
  have hP := hQ
  refine lv_aload_n hx hb dX7_product_46 rfl (lv_at hl 0 rfl) ?_
  refine k_get S hK hP.1 rfl (fun _ h => List.mem_cons_of_mem _ (List.mem_append_right _ (h))) 0 (by decide) (List.mem_cons_of_mem _ (List.mem_append_left _ (List.mem_of_getElem? (i := 1) rfl))) rfl (v := .ref (o + 1)) rfl dX7_product_47 ?_
  refine lv_bipush (v := nI 12) hx hb dX7_product_50 (by decide) ?_
  refine lv_iconst (v := nI 3) hx hb dX7_product_52 (by decide) ?_
  refine lv_iload_n hx hb dX7_product_53 rfl (lv_at hl 1 rfl) ?_
  refine n_imul (n := 3*q) hx hb dX7_product_54 (by omega) ?_
  refine n_iadd (n := 3*q + 12) hx hb dX7_product_55 (by omega) ?_
  refine k_iald hx hb hK hP.2.1 (by omega) (by decide) (v := z (3*q + 12)) rfl dX7_product_56 ?_
  refine lv_istore (lv' := [(4, .int (z (3*q + 12))), (0, .ref o), (1, .int (nI q)), (2, .int y), (3, .int (nI v))]) hx hb dX7_product_57 hl (by decide) rfl (fun ls hl => ?_)
  refine lv_aload_n hx hb dX7_product_59 rfl (lv_at hl 1 rfl) ?_
  refine k_get S hK hP.1 rfl (fun _ h => List.mem_cons_of_mem _ (List.mem_append_right _ (h))) 0 (by decide) (List.mem_cons_of_mem _ (List.mem_append_left _ (List.mem_of_getElem? (i := 1) rfl))) rfl (v := .ref (o + 1)) rfl dX7_product_60 ?_
  refine lv_bipush (v := nI 12) hx hb dX7_product_63 (by decide) ?_
  refine lv_iconst (v := nI 3) hx hb dX7_product_65 (by decide) ?_
  refine lv_iload_n hx hb dX7_product_66 rfl (lv_at hl 2 rfl) ?_
  refine n_imul (n := 3*q) hx hb dX7_product_67 (by omega) ?_
  refine n_iadd (n := 3*q + 12) hx hb dX7_product_68 (by omega) ?_
  refine lv_iload_n hx hb dX7_product_69 rfl (lv_at hl 3 rfl) ?_
  refine md_ast_z hx hb hK hP (by omega) hS (fun _ h => h) dX7_product_70 (fun H locs hP zH fH hS => ?_)
  refine lv_aload_n hx hb dX7_product_71 rfl (lv_at hl 1 rfl) ?_
  refine k_get S hK hP.1 rfl (fun _ h => List.mem_cons_of_mem _ (List.mem_append_right _ (h))) 0 (by decide) (List.mem_cons_of_mem _ (List.mem_append_left _ (List.mem_of_getElem? (i := 1) rfl))) rfl (v := .ref (o + 1)) rfl dX7_product_72 ?_
  refine lv_bipush (v := nI 12) hx hb dX7_product_75 (by decide) ?_
  refine lv_iconst (v := nI 3) hx hb dX7_product_77 (by decide) ?_
  refine lv_iload_n hx hb dX7_product_78 rfl (lv_at hl 2 rfl) ?_
  refine n_imul (n := 3*q) hx hb dX7_product_79 (by omega) ?_
  refine n_iadd (n := 3*q + 12) hx hb dX7_product_80 (by omega) ?_
  refine lv_iconst (v := nI 1) hx hb dX7_product_81 (by decide) ?_
  refine n_iadd (n := 3*q + 13) hx hb dX7_product_82 (by omega) ?_
  refine lv_iload_n hx hb dX7_product_83 rfl (lv_at hl 4 rfl) ?_
  refine md_ast_z hx hb hK hP (by omega) hS (fun _ h => h) dX7_product_84 (fun H locs hP zH fH hS => ?_)
  refine lv_iload hx hb dX7_product_85 (lv_at hl 0 rfl) ?_
  exact k_iretM hx hb hr hlk dX7_product_87 hS (show md E o (pdZ z q y v) (svW z (w_th w (nI 0)) sn) _ from hP) (rfl)
def rm_X7_recall_f1 : Room := { frames := 2, cells := 0, slots := 0, locals := 42 }
theorem hd_X7_recall : k_hd1 yX7_recall RX7 2 := by decide +kernel
set_option maxHeartbeats 4000000 in
set_option maxRecDepth 100000 in
theorem c_X7_recall_f1 (l : Launch) (E : ke_E) (o : Nat) (z : Nat → Int32) (w : md_w) (x : Int32) (k : Int32) (hI : iv z) (h1 : ¬ inR x 6) : Met l yX7_recall wsX7_recall rm_X7_recall_f1 (kp E [.ref o, .int x, .int k] (md E o z w)) (qm (some (.int (nI 0))) (bl o 6) (md E o z (w_th w (nI 1)))) 0 0 (bl o 6) := by
  refine k_hd (cc := cX7_recall) (maxL := 3) (ret := (some .int)) (by decide) rfl (Nat.le_of_ble_eq_true rfl) ?_
  intro p e s m below meth c ls S hr hlk hnm hK hP hl
  have hx := S.1
  have hb := S.2.1
  have hts := S.2.2.2.2
  have hP : md E o z w s.heap := hP
  have hl : lv_has ls 3 [(0, .ref o), (1, .int x), (2, .int k)] := hl
  have hS : va_S (bl o 6) s.heap s.heap [] := va_S.rf
  have hcn := iv_c hI
  refine lv_aload_n hx hb dX7_recall_0 rfl (lv_at hl 0 rfl) ?_
  refine lv_iconst (v := nI 0) hx hb dX7_recall_1 (by decide) ?_
  refine md_put (w' := w_th w (nI 0)) S hK hP (fun _ h => List.mem_cons_of_mem _ (List.mem_append_right _ (h))) 6 (by decide) (List.mem_cons_of_mem _ (List.mem_append_left _ (List.mem_append_left _ (List.mem_of_getElem? (i := 0) rfl)))) rfl rfl rfl rfl rfl rfl rfl rfl rfl hS (fun _ h => h) dX7_recall_2 (fun H locs hP zH fH hS => ?_)
  refine lv_iload_n hx hb dX7_recall_5 rfl (lv_at hl 1 rfl) ?_
  refine k_S (As := [.int x]) (rest := []) S hK (c_X7_isProduct l E x) gX7_recall_X7_isProduct rfl hd_X7_isProduct ⟨rfl, rfl⟩ ⟨Nat.le_of_ble_eq_true rfl, Nat.le_of_ble_eq_true rfl⟩ trivial rfl hl.1 rfl (Nat.le_of_ble_eq_true rfl) dX7_recall_6 ⟨Nat.le_of_ble_eq_true rfl, Nat.le_of_ble_eq_true rfl⟩ ?_
  refine b_ne (tgt := 18) hx hb dX7_recall_9 (by decide) (fun h => absurd h (fun q => h1 ((inR_iff (by decide)).mp q))) (fun c9 => ?_)
  refine lv_aload_n hx hb dX7_recall_12 rfl (lv_at hl 0 rfl) ?_
  refine lv_iconst (v := nI 1) hx hb dX7_recall_13 (by decide) ?_
  refine k_VM (As := [.int (nI 1)]) (rest := []) S hK (c_X7_fails l E o z (w_th w (nI 0)) (nI 1)) gX7_recall_X7_fails rfl hd_X7_fails ⟨rfl, rfl⟩ ⟨Nat.le_of_ble_eq_true rfl, Nat.le_of_ble_eq_true rfl⟩ (k_recv hK hP.1 rfl) hP rfl hl.1 rfl (Nat.le_of_ble_eq_true rfl) dX7_recall_14 ⟨Nat.le_of_ble_eq_true rfl, Nat.le_of_ble_eq_true rfl⟩ hS (fun q h => h) (fun q h => h) (fun H locs hQ zH fH hS => ?_)
  have hP := hQ
  exact k_iretM hx hb hr hlk dX7_recall_17 hS (show md E o z (w_th w (nI 1)) _ from hP) (rfl)
def rm_X7_recall_0 : Room := { frames := 3, cells := 0, slots := 0, locals := 63 }
set_option maxHeartbeats 4000000 in
set_option maxRecDepth 100000 in
theorem c_X7_recall_0 (l : Launch) (E : ke_E) (o : Nat) (z : Nat → Int32) (w : md_w) (q : Nat) (sn : Nat) (hI : iv z) (hq6 : q < 6) (hs : q_sm w = nI sn) (hn : sn ≤ 6) : Met l yX7_recall wsX7_recall rm_X7_recall_0 (kp E [.ref o, .int (nI q), .int (nI 0)] (md E o z w)) (qm (some (.int (hlN (rcZ z q 0) (cn z)))) (bl o 6) (md E o (rcZ z q 0) (svW z (w_th w (nI 0)) sn))) 0 0 (bl o 6) := by
  refine k_hd (cc := cX7_recall) (maxL := 3) (ret := (some .int)) (by decide) rfl (Nat.le_of_ble_eq_true rfl) ?_
  intro p e s m below meth c ls S hr hlk hnm hK hP hl
  have hx := S.1
  have hb := S.2.1
  have hts := S.2.2.2.2
  have hP : md E o z w s.heap := hP
  have hl : lv_has ls 3 [(0, .ref o), (1, .int (nI q)), (2, .int (nI 0))] := hl
  have hS : va_S (bl o 6) s.heap s.heap [] := va_S.rf
  have hcn := iv_c hI
  refine lv_aload_n hx hb dX7_recall_0 rfl (lv_at hl 0 rfl) ?_
  refine lv_iconst (v := nI 0) hx hb dX7_recall_1 (by decide) ?_
  refine md_put (w' := w_th w (nI 0)) S hK hP (fun _ h => List.mem_cons_of_mem _ (List.mem_append_right _ (h))) 6 (by decide) (List.mem_cons_of_mem _ (List.mem_append_left _ (List.mem_append_left _ (List.mem_of_getElem? (i := 0) rfl)))) rfl rfl rfl rfl rfl rfl rfl rfl rfl hS (fun _ h => h) dX7_recall_2 (fun H locs hP zH fH hS => ?_)
  refine lv_iload_n hx hb dX7_recall_5 rfl (lv_at hl 1 rfl) ?_
  refine k_S (As := [.int (nI q)]) (rest := []) S hK (c_X7_isProduct l E (nI q)) gX7_recall_X7_isProduct rfl hd_X7_isProduct ⟨rfl, rfl⟩ ⟨Nat.le_of_ble_eq_true rfl, Nat.le_of_ble_eq_true rfl⟩ trivial rfl hl.1 rfl (Nat.le_of_ble_eq_true rfl) dX7_recall_6 ⟨Nat.le_of_ble_eq_true rfl, Nat.le_of_ble_eq_true rfl⟩ ?_
  refine b_ne (tgt := 18) hx hb dX7_recall_9 (by decide) (fun c9 => ?_) (fun h => absurd (in_n (Nat.zero_le _) (by omega) (by decide)) h)
  refine lv_aload_n hx hb dX7_recall_18 rfl (lv_at hl 0 rfl) ?_
  refine k_VM (As := []) (rest := []) S hK (c_X7_save l E o z (w_th w (nI 0)) sn hs hn) gX7_recall_X7_save rfl hd_X7_save ⟨rfl, rfl⟩ ⟨Nat.le_of_ble_eq_true rfl, Nat.le_of_ble_eq_true rfl⟩ (k_recv hK hP.1 rfl) hP rfl hl.1 rfl (Nat.le_of_ble_eq_true rfl) dX7_recall_19 ⟨Nat.le_of_ble_eq_true rfl, Nat.le_of_ble_eq_true rfl⟩ hS (fun q h => h) (fun q h => h) (fun H locs hQ zH fH hS => ?_)
  have hP := hQ
  refine lv_aload_n hx hb dX7_recall_22 rfl (lv_at hl 0 rfl) ?_
  refine k_get S hK hP.1 rfl (fun _ h => List.mem_cons_of_mem _ (List.mem_append_right _ (h))) 0 (by decide) (List.mem_cons_of_mem _ (List.mem_append_left _ (List.mem_append_left _ (List.mem_of_getElem? (i := 1) rfl)))) rfl (v := .ref (o + 1)) rfl dX7_recall_23 ?_
  refine lv_bipush (v := nI 12) hx hb dX7_recall_26 (by decide) ?_
  refine lv_iconst (v := nI 3) hx hb dX7_recall_28 (by decide) ?_
  refine lv_iload_n hx hb dX7_recall_29 rfl (lv_at hl 1 rfl) ?_
  refine n_imul (n := 3*q) hx hb dX7_recall_30 (by omega) ?_
  refine n_iadd (n := 3*q + 12) hx hb dX7_recall_31 (by omega) ?_
  refine lv_iconst (v := nI 2) hx hb dX7_recall_32 (by decide) ?_
  refine n_iadd (n := 3*q + 14) hx hb dX7_recall_33 (by omega) ?_
  refine lv_iload_n hx hb dX7_recall_34 rfl (lv_at hl 2 rfl) ?_
  refine lv_if_eq (tgt := 42) hx hb dX7_recall_35 (by decide) (fun c35 => ?_) (fun h => absurd h (by decide))
  refine lv_iconst (v := nI 0) hx hb dX7_recall_42 (by decide) ?_
  refine md_ast_z hx hb hK hP (by omega) hS (fun _ h => h) dX7_recall_43 (fun H locs hP zH fH hS => ?_)
  refine lv_aload_n hx hb dX7_recall_44 rfl (lv_at hl 0 rfl) ?_
  refine k_V (As := []) (rest := []) S hK (c_X7_heldMany l E o (upd z (3*q + 14) (nI 0)) (svW z (w_th w (nI 0)) sn) (iv_rc9 (b := 0) hI hq6 (by decide))) gX7_recall_X7_heldMany rfl hd_X7_heldMany ⟨rfl, rfl⟩ ⟨Nat.le_of_ble_eq_true rfl, Nat.le_of_ble_eq_true rfl⟩ (k_recv hK hP.1 rfl) hP rfl hl.1 rfl (Nat.le_of_ble_eq_true rfl) dX7_recall_45 ⟨Nat.le_of_ble_eq_true rfl, Nat.le_of_ble_eq_true rfl⟩ ?_
  exact k_iretM hx hb hr hlk dX7_recall_48 hS (show md E o (rcZ z q 0) (svW z (w_th w (nI 0)) sn) _ from hP) (by unfold rcZ; rw [cn_u (by omega)])
def rm_X7_recall_1 : Room := { frames := 3, cells := 0, slots := 0, locals := 63 }
set_option maxHeartbeats 4000000 in
set_option maxRecDepth 100000 in
theorem c_X7_recall_1 (l : Launch) (E : ke_E) (o : Nat) (z : Nat → Int32) (w : md_w) (q : Nat) (sn : Nat) (hI : iv z) (hq6 : q < 6) (hs : q_sm w = nI sn) (hn : sn ≤ 6) : Met l yX7_recall wsX7_recall rm_X7_recall_1 (kp E [.ref o, .int (nI q), .int (nI 1)] (md E o z w)) (qm (some (.int (hlN (rcZ z q 1) (cn z)))) (bl o 6) (md E o (rcZ z q 1) (svW z (w_th w (nI 0)) sn))) 0 0 (bl o 6) := by
  refine k_hd (cc := cX7_recall) (maxL := 3) (ret := (some .int)) (by decide) rfl (Nat.le_of_ble_eq_true rfl) ?_
  intro p e s m below meth c ls S hr hlk hnm hK hP hl
  have hx := S.1
  have hb := S.2.1
  have hts := S.2.2.2.2
  have hP : md E o z w s.heap := hP
  have hl : lv_has ls 3 [(0, .ref o), (1, .int (nI q)), (2, .int (nI 1))] := hl
  have hS : va_S (bl o 6) s.heap s.heap [] := va_S.rf
  have hcn := iv_c hI
  refine lv_aload_n hx hb dX7_recall_0 rfl (lv_at hl 0 rfl) ?_
  refine lv_iconst (v := nI 0) hx hb dX7_recall_1 (by decide) ?_
  refine md_put (w' := w_th w (nI 0)) S hK hP (fun _ h => List.mem_cons_of_mem _ (List.mem_append_right _ (h))) 6 (by decide) (List.mem_cons_of_mem _ (List.mem_append_left _ (List.mem_append_left _ (List.mem_of_getElem? (i := 0) rfl)))) rfl rfl rfl rfl rfl rfl rfl rfl rfl hS (fun _ h => h) dX7_recall_2 (fun H locs hP zH fH hS => ?_)
  refine lv_iload_n hx hb dX7_recall_5 rfl (lv_at hl 1 rfl) ?_
  refine k_S (As := [.int (nI q)]) (rest := []) S hK (c_X7_isProduct l E (nI q)) gX7_recall_X7_isProduct rfl hd_X7_isProduct ⟨rfl, rfl⟩ ⟨Nat.le_of_ble_eq_true rfl, Nat.le_of_ble_eq_true rfl⟩ trivial rfl hl.1 rfl (Nat.le_of_ble_eq_true rfl) dX7_recall_6 ⟨Nat.le_of_ble_eq_true rfl, Nat.le_of_ble_eq_true rfl⟩ ?_
  refine b_ne (tgt := 18) hx hb dX7_recall_9 (by decide) (fun c9 => ?_) (fun h => absurd (in_n (Nat.zero_le _) (by omega) (by decide)) h)
  refine lv_aload_n hx hb dX7_recall_18 rfl (lv_at hl 0 rfl) ?_
  refine k_VM (As := []) (rest := []) S hK (c_X7_save l E o z (w_th w (nI 0)) sn hs hn) gX7_recall_X7_save rfl hd_X7_save ⟨rfl, rfl⟩ ⟨Nat.le_of_ble_eq_true rfl, Nat.le_of_ble_eq_true rfl⟩ (k_recv hK hP.1 rfl) hP rfl hl.1 rfl (Nat.le_of_ble_eq_true rfl) dX7_recall_19 ⟨Nat.le_of_ble_eq_true rfl, Nat.le_of_ble_eq_true rfl⟩ hS (fun q h => h) (fun q h => h) (fun H locs hQ zH fH hS => ?_)
  have hP := hQ
  refine lv_aload_n hx hb dX7_recall_22 rfl (lv_at hl 0 rfl) ?_
  refine k_get S hK hP.1 rfl (fun _ h => List.mem_cons_of_mem _ (List.mem_append_right _ (h))) 0 (by decide) (List.mem_cons_of_mem _ (List.mem_append_left _ (List.mem_append_left _ (List.mem_of_getElem? (i := 1) rfl)))) rfl (v := .ref (o + 1)) rfl dX7_recall_23 ?_
  refine lv_bipush (v := nI 12) hx hb dX7_recall_26 (by decide) ?_
  refine lv_iconst (v := nI 3) hx hb dX7_recall_28 (by decide) ?_
  refine lv_iload_n hx hb dX7_recall_29 rfl (lv_at hl 1 rfl) ?_
  refine n_imul (n := 3*q) hx hb dX7_recall_30 (by omega) ?_
  refine n_iadd (n := 3*q + 12) hx hb dX7_recall_31 (by omega) ?_
  refine lv_iconst (v := nI 2) hx hb dX7_recall_32 (by decide) ?_
  refine n_iadd (n := 3*q + 14) hx hb dX7_recall_33 (by omega) ?_
  refine lv_iload_n hx hb dX7_recall_34 rfl (lv_at hl 2 rfl) ?_
  refine lv_if_eq (tgt := 42) hx hb dX7_recall_35 (by decide) (fun h => absurd h (by decide)) (fun c35 => ?_)
  refine lv_iconst (v := nI 1) hx hb dX7_recall_38 (by decide) ?_
  refine lv_goto (tgt := 43) hx hb dX7_recall_39 (by decide) ?_
  refine md_ast_z hx hb hK hP (by omega) hS (fun _ h => h) dX7_recall_43 (fun H locs hP zH fH hS => ?_)
  refine lv_aload_n hx hb dX7_recall_44 rfl (lv_at hl 0 rfl) ?_
  refine k_V (As := []) (rest := []) S hK (c_X7_heldMany l E o (upd z (3*q + 14) (nI 1)) (svW z (w_th w (nI 0)) sn) (iv_rc9 (b := 1) hI hq6 (by decide))) gX7_recall_X7_heldMany rfl hd_X7_heldMany ⟨rfl, rfl⟩ ⟨Nat.le_of_ble_eq_true rfl, Nat.le_of_ble_eq_true rfl⟩ (k_recv hK hP.1 rfl) hP rfl hl.1 rfl (Nat.le_of_ble_eq_true rfl) dX7_recall_45 ⟨Nat.le_of_ble_eq_true rfl, Nat.le_of_ble_eq_true rfl⟩ ?_
  exact k_iretM hx hb hr hlk dX7_recall_48 hS (show md E o (rcZ z q 1) (svW z (w_th w (nI 0)) sn) _ from hP) (by unfold rcZ; rw [cn_u (by omega)])
def rm_X7_agree_f1 : Room := { frames := 2, cells := 0, slots := 0, locals := 42 }
theorem hd_X7_agree : k_hd1 yX7_agree RX7 3 := by decide +kernel
set_option maxHeartbeats 4000000 in
set_option maxRecDepth 100000 in
theorem c_X7_agree_f1 (l : Launch) (E : ke_E) (o : Nat) (z : Nat → Int32) (w : md_w) (x : Int32) (y : Int32) (y2 : Int32) (hI : iv z) (h1 : ¬ inR x 4) : Met l yX7_agree wsX7_agree rm_X7_agree_f1 (kp E [.ref o, .int x, .int y, .int y2] (md E o z w)) (qm (some (.int (nI 0))) (bl o 6) (md E o z (w_th w (nI 1)))) 0 0 (bl o 6) := by
  refine k_hd (cc := cX7_agree) (maxL := 5) (ret := (some .int)) (by decide) rfl (Nat.le_of_ble_eq_true rfl) ?_
  intro p e s m below meth c ls S hr hlk hnm hK hP hl
  have hx := S.1
  have hb := S.2.1
  have hts := S.2.2.2.2
  have hP : md E o z w s.heap := hP
  have hl : lv_has ls 5 [(0, .ref o), (1, .int x), (2, .int y), (3, .int y2)] := hl
  have hS : va_S (bl o 6) s.heap s.heap [] := va_S.rf
  have hcn := iv_c hI
  refine lv_aload_n hx hb dX7_agree_0 rfl (lv_at hl 0 rfl) ?_
  refine lv_iconst (v := nI 0) hx hb dX7_agree_1 (by decide) ?_
  refine md_put (w' := w_th w (nI 0)) S hK hP (fun _ h => List.mem_cons_of_mem _ (List.mem_append_right _ (h))) 6 (by decide) (List.mem_cons_of_mem _ (List.mem_append_left _ (List.mem_append_left _ (List.mem_of_getElem? (i := 0) rfl)))) rfl rfl rfl rfl rfl rfl rfl rfl rfl hS (fun _ h => h) dX7_agree_2 (fun H locs hP zH fH hS => ?_)
  refine lv_iload_n hx hb dX7_agree_5 rfl (lv_at hl 1 rfl) ?_
  refine k_S (As := [.int x]) (rest := []) S hK (c_X7_isVendor l E x) gX7_agree_X7_isVendor rfl hd_X7_isVendor ⟨rfl, rfl⟩ ⟨Nat.le_of_ble_eq_true rfl, Nat.le_of_ble_eq_true rfl⟩ trivial rfl hl.1 rfl (Nat.le_of_ble_eq_true rfl) dX7_agree_6 ⟨Nat.le_of_ble_eq_true rfl, Nat.le_of_ble_eq_true rfl⟩ ?_
  refine b_eq (tgt := 19) hx hb dX7_agree_9 (by decide) (fun c9 => ?_) (fun h => absurd h (fun q => h1 ((inR_iff (by decide)).mp q)))
  refine lv_aload_n hx hb dX7_agree_19 rfl (lv_at hl 0 rfl) ?_
  refine lv_iconst (v := nI 1) hx hb dX7_agree_20 (by decide) ?_
  refine k_VM (As := [.int (nI 1)]) (rest := []) S hK (c_X7_fails l E o z (w_th w (nI 0)) (nI 1)) gX7_agree_X7_fails rfl hd_X7_fails ⟨rfl, rfl⟩ ⟨Nat.le_of_ble_eq_true rfl, Nat.le_of_ble_eq_true rfl⟩ (k_recv hK hP.1 rfl) hP rfl hl.1 rfl (Nat.le_of_ble_eq_true rfl) dX7_agree_21 ⟨Nat.le_of_ble_eq_true rfl, Nat.le_of_ble_eq_true rfl⟩ hS (fun q h => h) (fun q h => h) (fun H locs hQ zH fH hS => ?_)
  have hP := hQ
  exact k_iretM hx hb hr hlk dX7_agree_24 hS (show md E o z (w_th w (nI 1)) _ from hP) (rfl)
def rm_X7_agree_f2 : Room := { frames := 2, cells := 0, slots := 0, locals := 42 }
set_option maxHeartbeats 4000000 in
set_option maxRecDepth 100000 in
theorem c_X7_agree_f2 (l : Launch) (E : ke_E) (o : Nat) (z : Nat → Int32) (w : md_w) (v : Nat) (x : Int32) (y : Int32) (hI : iv z) (hv4 : v < 4) (h1 : ¬ inR x 4) : Met l yX7_agree wsX7_agree rm_X7_agree_f2 (kp E [.ref o, .int (nI v), .int x, .int y] (md E o z w)) (qm (some (.int (nI 0))) (bl o 6) (md E o z (w_th w (nI 1)))) 0 0 (bl o 6) := by
  refine k_hd (cc := cX7_agree) (maxL := 5) (ret := (some .int)) (by decide) rfl (Nat.le_of_ble_eq_true rfl) ?_
  intro p e s m below meth c ls S hr hlk hnm hK hP hl
  have hx := S.1
  have hb := S.2.1
  have hts := S.2.2.2.2
  have hP : md E o z w s.heap := hP
  have hl : lv_has ls 5 [(0, .ref o), (1, .int (nI v)), (2, .int x), (3, .int y)] := hl
  have hS : va_S (bl o 6) s.heap s.heap [] := va_S.rf
  have hcn := iv_c hI
  refine lv_aload_n hx hb dX7_agree_0 rfl (lv_at hl 0 rfl) ?_
  refine lv_iconst (v := nI 0) hx hb dX7_agree_1 (by decide) ?_
  refine md_put (w' := w_th w (nI 0)) S hK hP (fun _ h => List.mem_cons_of_mem _ (List.mem_append_right _ (h))) 6 (by decide) (List.mem_cons_of_mem _ (List.mem_append_left _ (List.mem_append_left _ (List.mem_of_getElem? (i := 0) rfl)))) rfl rfl rfl rfl rfl rfl rfl rfl rfl hS (fun _ h => h) dX7_agree_2 (fun H locs hP zH fH hS => ?_)
  refine lv_iload_n hx hb dX7_agree_5 rfl (lv_at hl 1 rfl) ?_
  refine k_S (As := [.int (nI v)]) (rest := []) S hK (c_X7_isVendor l E (nI v)) gX7_agree_X7_isVendor rfl hd_X7_isVendor ⟨rfl, rfl⟩ ⟨Nat.le_of_ble_eq_true rfl, Nat.le_of_ble_eq_true rfl⟩ trivial rfl hl.1 rfl (Nat.le_of_ble_eq_true rfl) dX7_agree_6 ⟨Nat.le_of_ble_eq_true rfl, Nat.le_of_ble_eq_true rfl⟩ ?_
  refine b_eq (tgt := 19) hx hb dX7_agree_9 (by decide) (fun h => absurd (in_n (Nat.zero_le _) (by omega) (by decide)) h) (fun c9 => ?_)
  refine lv_iload_n hx hb dX7_agree_12 rfl (lv_at hl 2 rfl) ?_
  refine k_S (As := [.int x]) (rest := []) S hK (c_X7_isReason l E x) gX7_agree_X7_isReason rfl hd_X7_isReason ⟨rfl, rfl⟩ ⟨Nat.le_of_ble_eq_true rfl, Nat.le_of_ble_eq_true rfl⟩ trivial rfl hl.1 rfl (Nat.le_of_ble_eq_true rfl) dX7_agree_13 ⟨Nat.le_of_ble_eq_true rfl, Nat.le_of_ble_eq_true rfl⟩ ?_
  refine b_ne (tgt := 25) hx hb dX7_agree_16 (by decide) (fun h => absurd h (fun q => h1 ((inR_iff (by decide)).mp q))) (fun c16 => ?_)
  refine lv_aload_n hx hb dX7_agree_19 rfl (lv_at hl 0 rfl) ?_
  refine lv_iconst (v := nI 1) hx hb dX7_agree_20 (by decide) ?_
  refine k_VM (As := [.int (nI 1)]) (rest := []) S hK (c_X7_fails l E o z (w_th w (nI 0)) (nI 1)) gX7_agree_X7_fails rfl hd_X7_fails ⟨rfl, rfl⟩ ⟨Nat.le_of_ble_eq_true rfl, Nat.le_of_ble_eq_true rfl⟩ (k_recv hK hP.1 rfl) hP rfl hl.1 rfl (Nat.le_of_ble_eq_true rfl) dX7_agree_21 ⟨Nat.le_of_ble_eq_true rfl, Nat.le_of_ble_eq_true rfl⟩ hS (fun q h => h) (fun q h => h) (fun H locs hQ zH fH hS => ?_)
  have hP := hQ
  exact k_iretM hx hb hr hlk dX7_agree_24 hS (show md E o z (w_th w (nI 1)) _ from hP) (rfl)
def rm_X7_agree_f3 : Room := { frames := 2, cells := 0, slots := 0, locals := 42 }
set_option maxHeartbeats 4000000 in
set_option maxRecDepth 100000 in
theorem c_X7_agree_f3 (l : Launch) (E : ke_E) (o : Nat) (z : Nat → Int32) (w : md_w) (v : Nat) (r : Nat) (y : Int32) (hI : iv z) (hv4 : v < 4) (hr4 : r < 4) (h1 : ¬ (nI 0 ≤ y ∧ y ≤ nI 100)) : Met l yX7_agree wsX7_agree rm_X7_agree_f3 (kp E [.ref o, .int (nI v), .int (nI r), .int y] (md E o z w)) (qm (some (.int (nI 0))) (bl o 6) (md E o z (w_th w (nI 2)))) 0 0 (bl o 6) := by
  refine k_hd (cc := cX7_agree) (maxL := 5) (ret := (some .int)) (by decide) rfl (Nat.le_of_ble_eq_true rfl) ?_
  intro p e s m below meth c ls S hr hlk hnm hK hP hl
  have hx := S.1
  have hb := S.2.1
  have hts := S.2.2.2.2
  have hP : md E o z w s.heap := hP
  have hl : lv_has ls 5 [(0, .ref o), (1, .int (nI v)), (2, .int (nI r)), (3, .int y)] := hl
  have hS : va_S (bl o 6) s.heap s.heap [] := va_S.rf
  have hcn := iv_c hI
  refine lv_aload_n hx hb dX7_agree_0 rfl (lv_at hl 0 rfl) ?_
  refine lv_iconst (v := nI 0) hx hb dX7_agree_1 (by decide) ?_
  refine md_put (w' := w_th w (nI 0)) S hK hP (fun _ h => List.mem_cons_of_mem _ (List.mem_append_right _ (h))) 6 (by decide) (List.mem_cons_of_mem _ (List.mem_append_left _ (List.mem_append_left _ (List.mem_of_getElem? (i := 0) rfl)))) rfl rfl rfl rfl rfl rfl rfl rfl rfl hS (fun _ h => h) dX7_agree_2 (fun H locs hP zH fH hS => ?_)
  refine lv_iload_n hx hb dX7_agree_5 rfl (lv_at hl 1 rfl) ?_
  refine k_S (As := [.int (nI v)]) (rest := []) S hK (c_X7_isVendor l E (nI v)) gX7_agree_X7_isVendor rfl hd_X7_isVendor ⟨rfl, rfl⟩ ⟨Nat.le_of_ble_eq_true rfl, Nat.le_of_ble_eq_true rfl⟩ trivial rfl hl.1 rfl (Nat.le_of_ble_eq_true rfl) dX7_agree_6 ⟨Nat.le_of_ble_eq_true rfl, Nat.le_of_ble_eq_true rfl⟩ ?_
  refine b_eq (tgt := 19) hx hb dX7_agree_9 (by decide) (fun h => absurd (in_n (Nat.zero_le _) (by omega) (by decide)) h) (fun c9 => ?_)
  refine lv_iload_n hx hb dX7_agree_12 rfl (lv_at hl 2 rfl) ?_
  refine k_S (As := [.int (nI r)]) (rest := []) S hK (c_X7_isReason l E (nI r)) gX7_agree_X7_isReason rfl hd_X7_isReason ⟨rfl, rfl⟩ ⟨Nat.le_of_ble_eq_true rfl, Nat.le_of_ble_eq_true rfl⟩ trivial rfl hl.1 rfl (Nat.le_of_ble_eq_true rfl) dX7_agree_13 ⟨Nat.le_of_ble_eq_true rfl, Nat.le_of_ble_eq_true rfl⟩ ?_
  refine b_ne (tgt := 25) hx hb dX7_agree_16 (by decide) (fun c16 => ?_) (fun h => absurd (in_n (Nat.zero_le _) (by omega) (by decide)) h)
  refine lv_iload_n hx hb dX7_agree_25 rfl (lv_at hl 3 rfl) ?_
  refine lv_iconst (v := nI 0) hx hb dX7_agree_26 (by decide) ?_
  refine lv_bipush (v := nI 100) hx hb dX7_agree_27 (by decide) ?_
  refine k_S (As := [.int y, .int (nI 0), .int (nI 100)]) (rest := []) S hK (c_X7_in l E y (nI 0) (nI 100)) gX7_agree_X7_in rfl hd_X7_in ⟨rfl, rfl⟩ ⟨Nat.le_of_ble_eq_true rfl, Nat.le_of_ble_eq_true rfl⟩ trivial rfl hl.1 rfl (Nat.le_of_ble_eq_true rfl) dX7_agree_29 ⟨Nat.le_of_ble_eq_true rfl, Nat.le_of_ble_eq_true rfl⟩ ?_
  refine b_ne (tgt := 41) hx hb dX7_agree_32 (by decide) (fun h => absurd h h1) (fun c32 => ?_)
  refine lv_aload_n hx hb dX7_agree_35 rfl (lv_at hl 0 rfl) ?_
  refine lv_iconst (v := nI 2) hx hb dX7_agree_36 (by decide) ?_
  refine k_VM (As := [.int (nI 2)]) (rest := []) S hK (c_X7_fails l E o z (w_th w (nI 0)) (nI 2)) gX7_agree_X7_fails rfl hd_X7_fails ⟨rfl, rfl⟩ ⟨Nat.le_of_ble_eq_true rfl, Nat.le_of_ble_eq_true rfl⟩ (k_recv hK hP.1 rfl) hP rfl hl.1 rfl (Nat.le_of_ble_eq_true rfl) dX7_agree_37 ⟨Nat.le_of_ble_eq_true rfl, Nat.le_of_ble_eq_true rfl⟩ hS (fun q h => h) (fun q h => h) (fun H locs hQ zH fH hS => ?_)
  have hP := hQ
  exact k_iretM hx hb hr hlk dX7_agree_40 hS (show md E o z (w_th w (nI 2)) _ from hP) (rfl)
def rm_X7_agree : Room := { frames := 2, cells := 0, slots := 0, locals := 42 }
set_option maxHeartbeats 4000000 in
set_option maxRecDepth 100000 in
theorem c_X7_agree (l : Launch) (E : ke_E) (o : Nat) (z : Nat → Int32) (w : md_w) (v : Nat) (r : Nat) (y : Int32) (sn : Nat) (hI : iv z) (hv4 : v < 4) (hr4 : r < 4) (h1 : nI 0 ≤ y ∧ y ≤ nI 100) (hs : q_sm w = nI sn) (hn : sn ≤ 6) : Met l yX7_agree wsX7_agree rm_X7_agree (kp E [.ref o, .int (nI v), .int (nI r), .int y] (md E o z w)) (qm (some (.int (z (8*v + r + 34)))) (bl o 6) (md E o (agZ z v r y) (svW z (w_th w (nI 0)) sn))) 0 0 (bl o 6) := by
  refine k_hd (cc := cX7_agree) (maxL := 5) (ret := (some .int)) (by decide) rfl (Nat.le_of_ble_eq_true rfl) ?_
  intro p e s m below meth c ls S hr hlk hnm hK hP hl
  have hx := S.1
  have hb := S.2.1
  have hts := S.2.2.2.2
  have hP : md E o z w s.heap := hP
  have hl : lv_has ls 5 [(0, .ref o), (1, .int (nI v)), (2, .int (nI r)), (3, .int y)] := hl
  have hS : va_S (bl o 6) s.heap s.heap [] := va_S.rf
  have hcn := iv_c hI
  refine lv_aload_n hx hb dX7_agree_0 rfl (lv_at hl 0 rfl) ?_
  refine lv_iconst (v := nI 0) hx hb dX7_agree_1 (by decide) ?_
  refine md_put (w' := w_th w (nI 0)) S hK hP (fun _ h => List.mem_cons_of_mem _ (List.mem_append_right _ (h))) 6 (by decide) (List.mem_cons_of_mem _ (List.mem_append_left _ (List.mem_append_left _ (List.mem_of_getElem? (i := 0) rfl)))) rfl rfl rfl rfl rfl rfl rfl rfl rfl hS (fun _ h => h) dX7_agree_2 (fun H locs hP zH fH hS => ?_)
  refine lv_iload_n hx hb dX7_agree_5 rfl (lv_at hl 1 rfl) ?_
  refine k_S (As := [.int (nI v)]) (rest := []) S hK (c_X7_isVendor l E (nI v)) gX7_agree_X7_isVendor rfl hd_X7_isVendor ⟨rfl, rfl⟩ ⟨Nat.le_of_ble_eq_true rfl, Nat.le_of_ble_eq_true rfl⟩ trivial rfl hl.1 rfl (Nat.le_of_ble_eq_true rfl) dX7_agree_6 ⟨Nat.le_of_ble_eq_true rfl, Nat.le_of_ble_eq_true rfl⟩ ?_
  refine b_eq (tgt := 19) hx hb dX7_agree_9 (by decide) (fun h => absurd (in_n (Nat.zero_le _) (by omega) (by decide)) h) (fun c9 => ?_)
  refine lv_iload_n hx hb dX7_agree_12 rfl (lv_at hl 2 rfl) ?_
  refine k_S (As := [.int (nI r)]) (rest := []) S hK (c_X7_isReason l E (nI r)) gX7_agree_X7_isReason rfl hd_X7_isReason ⟨rfl, rfl⟩ ⟨Nat.le_of_ble_eq_true rfl, Nat.le_of_ble_eq_true rfl⟩ trivial rfl hl.1 rfl (Nat.le_of_ble_eq_true rfl) dX7_agree_13 ⟨Nat.le_of_ble_eq_true rfl, Nat.le_of_ble_eq_true rfl⟩ ?_
  refine b_ne (tgt := 25) hx hb dX7_agree_16 (by decide) (fun c16 => ?_) (fun h => absurd (in_n (Nat.zero_le _) (by omega) (by decide)) h)
  refine lv_iload_n hx hb dX7_agree_25 rfl (lv_at hl 3 rfl) ?_
  refine lv_iconst (v := nI 0) hx hb dX7_agree_26 (by decide) ?_
  refine lv_bipush (v := nI 100) hx hb dX7_agree_27 (by decide) ?_
  refine k_S (As := [.int y, .int (nI 0), .int (nI 100)]) (rest := []) S hK (c_X7_in l E y (nI 0) (nI 100)) gX7_agree_X7_in rfl hd_X7_in ⟨rfl, rfl⟩ ⟨Nat.le_of_ble_eq_true rfl, Nat.le_of_ble_eq_true rfl⟩ trivial rfl hl.1 rfl (Nat.le_of_ble_eq_true rfl) dX7_agree_29 ⟨Nat.le_of_ble_eq_true rfl, Nat.le_of_ble_eq_true rfl⟩ ?_
  refine b_ne (tgt := 41) hx hb dX7_agree_32 (by decide) (fun c32 => ?_) (fun h => absurd h1 h)
  refine lv_aload_n hx hb dX7_agree_41 rfl (lv_at hl 0 rfl) ?_
  refine k_VM (As := []) (rest := []) S hK (c_X7_save l E o z (w_th w (nI 0)) sn hs hn) gX7_agree_X7_save rfl hd_X7_save ⟨rfl, rfl⟩ ⟨Nat.le_of_ble_eq_true rfl, Nat.le_of_ble_eq_true rfl⟩ (k_recv hK hP.1 rfl) hP rfl hl.1 rfl (Nat.le_of_ble_eq_true rfl) dX7_agree_42 ⟨Nat.le_of_ble_eq_true rfl, Nat.le_of_ble_eq_true rfl⟩ hS (fun q h => h) (fun q h => h) (fun H locs hQ zH fH hS => ?_)
  have hP := hQ
  refine lv_aload_n hx hb dX7_agree_45 rfl (lv_at hl 0 rfl) ?_
  refine k_get S hK hP.1 rfl (fun _ h => List.mem_cons_of_mem _ (List.mem_append_right _ (h))) 0 (by decide) (List.mem_cons_of_mem _ (List.mem_append_left _ (List.mem_append_left _ (List.mem_of_getElem? (i := 1) rfl)))) rfl (v := .ref (o + 1)) rfl dX7_agree_46 ?_
  refine lv_iload_n hx hb dX7_agree_49 rfl (lv_at hl 1 rfl) ?_
  refine k_S (As := [.int (nI v)]) (rest := [.ref (o + 1)]) S hK (c_X7_seller l E v) gX7_agree_X7_seller rfl hd_X7_seller ⟨rfl, rfl⟩ ⟨Nat.le_of_ble_eq_true rfl, Nat.le_of_ble_eq_true rfl⟩ trivial rfl hl.1 rfl (Nat.le_of_ble_eq_true rfl) dX7_agree_50 ⟨Nat.le_of_ble_eq_true rfl, Nat.le_of_ble_eq_true rfl⟩ ?_
  refine lv_iconst (v := nI 4) hx hb dX7_agree_53 (by decide) ?_
  refine n_iadd (n := 8*v + 34) hx hb dX7_agree_54 (by omega) ?_
  refine lv_iload_n hx hb dX7_agree_55 rfl (lv_at hl 2 rfl) ?_
  refine n_iadd (n := 8*v + r + 34) hx hb dX7_agree_56 (by omega) ?_
  refine k_iald hx hb hK hP.2.1 (by omega) (by decide) (v := z (8*v + r + 34)) rfl dX7_agree_57 ?_
  refine lv_istore (lv' := [(4, .int (z (8*v + r + 34))), (0, .ref o), (1, .int (nI v)), (2, .int (nI r)), (3, .int y)]) hx hb dX7_agree_58 hl (by decide) rfl (fun ls hl => ?_)
  refine lv_aload_n hx hb dX7_agree_60 rfl (lv_at hl 1 rfl) ?_
  refine k_get S hK hP.1 rfl (fun _ h => List.mem_cons_of_mem _ (List.mem_append_right _ (h))) 0 (by decide) (List.mem_cons_of_mem _ (List.mem_append_left _ (List.mem_append_left _ (List.mem_of_getElem? (i := 1) rfl)))) rfl (v := .ref (o + 1)) rfl dX7_agree_61 ?_
  refine lv_iload_n hx hb dX7_agree_64 rfl (lv_at hl 2 rfl) ?_
  refine k_S (As := [.int (nI v)]) (rest := [.ref (o + 1)]) S hK (c_X7_seller l E v) gX7_agree_X7_seller rfl hd_X7_seller ⟨rfl, rfl⟩ ⟨Nat.le_of_ble_eq_true rfl, Nat.le_of_ble_eq_true rfl⟩ trivial rfl hl.1 rfl (Nat.le_of_ble_eq_true rfl) dX7_agree_65 ⟨Nat.le_of_ble_eq_true rfl, Nat.le_of_ble_eq_true rfl⟩ ?_
  refine lv_iconst (v := nI 4) hx hb dX7_agree_68 (by decide) ?_
  refine n_iadd (n := 8*v + 34) hx hb dX7_agree_69 (by omega) ?_
  refine lv_iload_n hx hb dX7_agree_70 rfl (lv_at hl 3 rfl) ?_
  refine n_iadd (n := 8*v + r + 34) hx hb dX7_agree_71 (by omega) ?_
  refine lv_iload_n hx hb dX7_agree_72 rfl (lv_at hl 4 rfl) ?_
  refine md_ast_z hx hb hK hP (by omega) hS (fun _ h => h) dX7_agree_73 (fun H locs hP zH fH hS => ?_)
  refine lv_iload hx hb dX7_agree_74 (lv_at hl 0 rfl) ?_
  exact k_iretM hx hb hr hlk dX7_agree_76 hS (show md E o (agZ z v r y) (svW z (w_th w (nI 0)) sn) _ from hP) (rfl)
def rm_X7_limit_f1 : Room := { frames := 2, cells := 0, slots := 0, locals := 42 }
theorem hd_X7_limit : k_hd1 yX7_limit RX7 2 := by decide +kernel
set_option maxHeartbeats 4000000 in
set_option maxRecDepth 100000 in
theorem c_X7_limit_f1 (l : Launch) (E : ke_E) (o : Nat) (z : Nat → Int32) (w : md_w) (x : Int32) (y : Int32) (hI : iv z) (h1 : ¬ inR x 4) : Met l yX7_limit wsX7_limit rm_X7_limit_f1 (kp E [.ref o, .int x, .int y] (md E o z w)) (qm (some (.int (nI 0))) (bl o 6) (md E o z (w_th w (nI 1)))) 0 0 (bl o 6) := by
  refine k_hd (cc := cX7_limit) (maxL := 4) (ret := (some .int)) (by decide) rfl (Nat.le_of_ble_eq_true rfl) ?_
  intro p e s m below meth c ls S hr hlk hnm hK hP hl
  have hx := S.1
  have hb := S.2.1
  have hts := S.2.2.2.2
  have hP : md E o z w s.heap := hP
  have hl : lv_has ls 4 [(0, .ref o), (1, .int x), (2, .int y)] := hl
  have hS : va_S (bl o 6) s.heap s.heap [] := va_S.rf
  have hcn := iv_c hI
  refine lv_aload_n hx hb dX7_limit_0 rfl (lv_at hl 0 rfl) ?_
  refine lv_iconst (v := nI 0) hx hb dX7_limit_1 (by decide) ?_
  refine md_put (w' := w_th w (nI 0)) S hK hP (fun _ h => List.mem_cons_of_mem _ (List.mem_append_right _ (h))) 6 (by decide) (List.mem_cons_of_mem _ (List.mem_append_left _ (List.mem_of_getElem? (i := 0) rfl))) rfl rfl rfl rfl rfl rfl rfl rfl rfl hS (fun _ h => h) dX7_limit_2 (fun H locs hP zH fH hS => ?_)
  refine lv_iload_n hx hb dX7_limit_5 rfl (lv_at hl 1 rfl) ?_
  refine k_S (As := [.int x]) (rest := []) S hK (c_X7_isVendor l E x) gX7_limit_X7_isVendor rfl hd_X7_isVendor ⟨rfl, rfl⟩ ⟨Nat.le_of_ble_eq_true rfl, Nat.le_of_ble_eq_true rfl⟩ trivial rfl hl.1 rfl (Nat.le_of_ble_eq_true rfl) dX7_limit_6 ⟨Nat.le_of_ble_eq_true rfl, Nat.le_of_ble_eq_true rfl⟩ ?_
  refine b_ne (tgt := 18) hx hb dX7_limit_9 (by decide) (fun h => absurd h (fun q => h1 ((inR_iff (by decide)).mp q))) (fun c9 => ?_)
  refine lv_aload_n hx hb dX7_limit_12 rfl (lv_at hl 0 rfl) ?_
  refine lv_iconst (v := nI 1) hx hb dX7_limit_13 (by decide) ?_
  refine k_VM (As := [.int (nI 1)]) (rest := []) S hK (c_X7_fails l E o z (w_th w (nI 0)) (nI 1)) gX7_limit_X7_fails rfl hd_X7_fails ⟨rfl, rfl⟩ ⟨Nat.le_of_ble_eq_true rfl, Nat.le_of_ble_eq_true rfl⟩ (k_recv hK hP.1 rfl) hP rfl hl.1 rfl (Nat.le_of_ble_eq_true rfl) dX7_limit_14 ⟨Nat.le_of_ble_eq_true rfl, Nat.le_of_ble_eq_true rfl⟩ hS (fun q h => h) (fun q h => h) (fun H locs hQ zH fH hS => ?_)
  have hP := hQ
  exact k_iretM hx hb hr hlk dX7_limit_17 hS (show md E o z (w_th w (nI 1)) _ from hP) (rfl)
def rm_X7_limit_f2 : Room := { frames := 2, cells := 0, slots := 0, locals := 42 }
set_option maxHeartbeats 4000000 in
set_option maxRecDepth 100000 in
theorem c_X7_limit_f2 (l : Launch) (E : ke_E) (o : Nat) (z : Nat → Int32) (w : md_w) (v : Nat) (y : Int32) (hI : iv z) (hv4 : v < 4) (h1 : ¬ (nI 0 ≤ y ∧ y ≤ nI 99999)) : Met l yX7_limit wsX7_limit rm_X7_limit_f2 (kp E [.ref o, .int (nI v), .int y] (md E o z w)) (qm (some (.int (nI 0))) (bl o 6) (md E o z (w_th w (nI 2)))) 0 0 (bl o 6) := by
  refine k_hd (cc := cX7_limit) (maxL := 4) (ret := (some .int)) (by decide) rfl (Nat.le_of_ble_eq_true rfl) ?_
  intro p e s m below meth c ls S hr hlk hnm hK hP hl
  have hx := S.1
  have hb := S.2.1
  have hts := S.2.2.2.2
  have hP : md E o z w s.heap := hP
  have hl : lv_has ls 4 [(0, .ref o), (1, .int (nI v)), (2, .int y)] := hl
  have hS : va_S (bl o 6) s.heap s.heap [] := va_S.rf
  have hcn := iv_c hI
  refine lv_aload_n hx hb dX7_limit_0 rfl (lv_at hl 0 rfl) ?_
  refine lv_iconst (v := nI 0) hx hb dX7_limit_1 (by decide) ?_
  refine md_put (w' := w_th w (nI 0)) S hK hP (fun _ h => List.mem_cons_of_mem _ (List.mem_append_right _ (h))) 6 (by decide) (List.mem_cons_of_mem _ (List.mem_append_left _ (List.mem_of_getElem? (i := 0) rfl))) rfl rfl rfl rfl rfl rfl rfl rfl rfl hS (fun _ h => h) dX7_limit_2 (fun H locs hP zH fH hS => ?_)
  refine lv_iload_n hx hb dX7_limit_5 rfl (lv_at hl 1 rfl) ?_
  refine k_S (As := [.int (nI v)]) (rest := []) S hK (c_X7_isVendor l E (nI v)) gX7_limit_X7_isVendor rfl hd_X7_isVendor ⟨rfl, rfl⟩ ⟨Nat.le_of_ble_eq_true rfl, Nat.le_of_ble_eq_true rfl⟩ trivial rfl hl.1 rfl (Nat.le_of_ble_eq_true rfl) dX7_limit_6 ⟨Nat.le_of_ble_eq_true rfl, Nat.le_of_ble_eq_true rfl⟩ ?_
  refine b_ne (tgt := 18) hx hb dX7_limit_9 (by decide) (fun c9 => ?_) (fun h => absurd (in_n (Nat.zero_le _) (by omega) (by decide)) h)
  refine lv_iload_n hx hb dX7_limit_18 rfl (lv_at hl 2 rfl) ?_
  refine lv_iconst (v := nI 0) hx hb dX7_limit_19 (by decide) ?_
  refine lv_ldc (v := nI 99999) hx hb S.2.2.2.1 (hts _ (List.mem_cons_of_mem _ (List.mem_append_left _ (List.mem_of_getElem? (i := 1) rfl)))) dX7_limit_20 ?_
  refine k_S (As := [.int y, .int (nI 0), .int (nI 99999)]) (rest := []) S hK (c_X7_in l E y (nI 0) (nI 99999)) gX7_limit_X7_in rfl hd_X7_in ⟨rfl, rfl⟩ ⟨Nat.le_of_ble_eq_true rfl, Nat.le_of_ble_eq_true rfl⟩ trivial rfl hl.1 rfl (Nat.le_of_ble_eq_true rfl) dX7_limit_22 ⟨Nat.le_of_ble_eq_true rfl, Nat.le_of_ble_eq_true rfl⟩ ?_
  refine b_ne (tgt := 34) hx hb dX7_limit_25 (by decide) (fun h => absurd h h1) (fun c25 => ?_)
  refine lv_aload_n hx hb dX7_limit_28 rfl (lv_at hl 0 rfl) ?_
  refine lv_iconst (v := nI 2) hx hb dX7_limit_29 (by decide) ?_
  refine k_VM (As := [.int (nI 2)]) (rest := []) S hK (c_X7_fails l E o z (w_th w (nI 0)) (nI 2)) gX7_limit_X7_fails rfl hd_X7_fails ⟨rfl, rfl⟩ ⟨Nat.le_of_ble_eq_true rfl, Nat.le_of_ble_eq_true rfl⟩ (k_recv hK hP.1 rfl) hP rfl hl.1 rfl (Nat.le_of_ble_eq_true rfl) dX7_limit_30 ⟨Nat.le_of_ble_eq_true rfl, Nat.le_of_ble_eq_true rfl⟩ hS (fun q h => h) (fun q h => h) (fun H locs hQ zH fH hS => ?_)
  have hP := hQ
  exact k_iretM hx hb hr hlk dX7_limit_33 hS (show md E o z (w_th w (nI 2)) _ from hP) (rfl)
def rm_X7_limit : Room := { frames := 2, cells := 0, slots := 0, locals := 42 }
set_option maxHeartbeats 4000000 in
set_option maxRecDepth 100000 in
theorem c_X7_limit (l : Launch) (E : ke_E) (o : Nat) (z : Nat → Int32) (w : md_w) (v : Nat) (y : Int32) (sn : Nat) (hI : iv z) (hv4 : v < 4) (h1 : nI 0 ≤ y ∧ y ≤ nI 99999) (hs : q_sm w = nI sn) (hn : sn ≤ 6) : Met l yX7_limit wsX7_limit rm_X7_limit (kp E [.ref o, .int (nI v), .int y] (md E o z w)) (qm (some (.int (z (8*v + 30)))) (bl o 6) (md E o (liZ z v y) (svW z (w_th w (nI 0)) sn))) 0 0 (bl o 6) := by
  refine k_hd (cc := cX7_limit) (maxL := 4) (ret := (some .int)) (by decide) rfl (Nat.le_of_ble_eq_true rfl) ?_
  intro p e s m below meth c ls S hr hlk hnm hK hP hl
  have hx := S.1
  have hb := S.2.1
  have hts := S.2.2.2.2
  have hP : md E o z w s.heap := hP
  have hl : lv_has ls 4 [(0, .ref o), (1, .int (nI v)), (2, .int y)] := hl
  have hS : va_S (bl o 6) s.heap s.heap [] := va_S.rf
  have hcn := iv_c hI
  refine lv_aload_n hx hb dX7_limit_0 rfl (lv_at hl 0 rfl) ?_
  refine lv_iconst (v := nI 0) hx hb dX7_limit_1 (by decide) ?_
  refine md_put (w' := w_th w (nI 0)) S hK hP (fun _ h => List.mem_cons_of_mem _ (List.mem_append_right _ (h))) 6 (by decide) (List.mem_cons_of_mem _ (List.mem_append_left _ (List.mem_of_getElem? (i := 0) rfl))) rfl rfl rfl rfl rfl rfl rfl rfl rfl hS (fun _ h => h) dX7_limit_2 (fun H locs hP zH fH hS => ?_)
  refine lv_iload_n hx hb dX7_limit_5 rfl (lv_at hl 1 rfl) ?_
  refine k_S (As := [.int (nI v)]) (rest := []) S hK (c_X7_isVendor l E (nI v)) gX7_limit_X7_isVendor rfl hd_X7_isVendor ⟨rfl, rfl⟩ ⟨Nat.le_of_ble_eq_true rfl, Nat.le_of_ble_eq_true rfl⟩ trivial rfl hl.1 rfl (Nat.le_of_ble_eq_true rfl) dX7_limit_6 ⟨Nat.le_of_ble_eq_true rfl, Nat.le_of_ble_eq_true rfl⟩ ?_
  refine b_ne (tgt := 18) hx hb dX7_limit_9 (by decide) (fun c9 => ?_) (fun h => absurd (in_n (Nat.zero_le _) (by omega) (by decide)) h)
  refine lv_iload_n hx hb dX7_limit_18 rfl (lv_at hl 2 rfl) ?_
  refine lv_iconst (v := nI 0) hx hb dX7_limit_19 (by decide) ?_
  refine lv_ldc (v := nI 99999) hx hb S.2.2.2.1 (hts _ (List.mem_cons_of_mem _ (List.mem_append_left _ (List.mem_of_getElem? (i := 1) rfl)))) dX7_limit_20 ?_
  refine k_S (As := [.int y, .int (nI 0), .int (nI 99999)]) (rest := []) S hK (c_X7_in l E y (nI 0) (nI 99999)) gX7_limit_X7_in rfl hd_X7_in ⟨rfl, rfl⟩ ⟨Nat.le_of_ble_eq_true rfl, Nat.le_of_ble_eq_true rfl⟩ trivial rfl hl.1 rfl (Nat.le_of_ble_eq_true rfl) dX7_limit_22 ⟨Nat.le_of_ble_eq_true rfl, Nat.le_of_ble_eq_true rfl⟩ ?_
  refine b_ne (tgt := 34) hx hb dX7_limit_25 (by decide) (fun c25 => ?_) (fun h => absurd h1 h)
  refine lv_aload_n hx hb dX7_limit_34 rfl (lv_at hl 0 rfl) ?_
  refine k_VM (As := []) (rest := []) S hK (c_X7_save l E o z (w_th w (nI 0)) sn hs hn) gX7_limit_X7_save rfl hd_X7_save ⟨rfl, rfl⟩ ⟨Nat.le_of_ble_eq_true rfl, Nat.le_of_ble_eq_true rfl⟩ (k_recv hK hP.1 rfl) hP rfl hl.1 rfl (Nat.le_of_ble_eq_true rfl) dX7_limit_35 ⟨Nat.le_of_ble_eq_true rfl, Nat.le_of_ble_eq_true rfl⟩ hS (fun q h => h) (fun q h => h) (fun H locs hQ zH fH hS => ?_)
  have hP := hQ
  refine lv_aload_n hx hb dX7_limit_38 rfl (lv_at hl 0 rfl) ?_
  refine k_get S hK hP.1 rfl (fun _ h => List.mem_cons_of_mem _ (List.mem_append_right _ (h))) 0 (by decide) (List.mem_cons_of_mem _ (List.mem_append_left _ (List.mem_of_getElem? (i := 2) rfl))) rfl (v := .ref (o + 1)) rfl dX7_limit_39 ?_
  refine lv_iload_n hx hb dX7_limit_42 rfl (lv_at hl 1 rfl) ?_
  refine k_S (As := [.int (nI v)]) (rest := [.ref (o + 1)]) S hK (c_X7_seller l E v) gX7_limit_X7_seller rfl hd_X7_seller ⟨rfl, rfl⟩ ⟨Nat.le_of_ble_eq_true rfl, Nat.le_of_ble_eq_true rfl⟩ trivial rfl hl.1 rfl (Nat.le_of_ble_eq_true rfl) dX7_limit_43 ⟨Nat.le_of_ble_eq_true rfl, Nat.le_of_ble_eq_true rfl⟩ ?_
  refine k_iald hx hb hK hP.2.1 (by omega) (by decide) (v := z (8*v + 30)) rfl dX7_limit_46 ?_
  refine lv_istore_n (lv' := [(3, .int (z (8*v + 30))), (0, .ref o), (1, .int (nI v)), (2, .int y)]) hx hb dX7_limit_47 rfl hl (by decide) rfl (fun ls hl => ?_)
  refine lv_aload_n hx hb dX7_limit_48 rfl (lv_at hl 1 rfl) ?_
  refine k_get S hK hP.1 rfl (fun _ h => List.mem_cons_of_mem _ (List.mem_append_right _ (h))) 0 (by decide) (List.mem_cons_of_mem _ (List.mem_append_left _ (List.mem_of_getElem? (i := 2) rfl))) rfl (v := .ref (o + 1)) rfl dX7_limit_49 ?_
  refine lv_iload_n hx hb dX7_limit_52 rfl (lv_at hl 2 rfl) ?_
  refine k_S (As := [.int (nI v)]) (rest := [.ref (o + 1)]) S hK (c_X7_seller l E v) gX7_limit_X7_seller rfl hd_X7_seller ⟨rfl, rfl⟩ ⟨Nat.le_of_ble_eq_true rfl, Nat.le_of_ble_eq_true rfl⟩ trivial rfl hl.1 rfl (Nat.le_of_ble_eq_true rfl) dX7_limit_53 ⟨Nat.le_of_ble_eq_true rfl, Nat.le_of_ble_eq_true rfl⟩ ?_
  refine lv_iload_n hx hb dX7_limit_56 rfl (lv_at hl 3 rfl) ?_
  refine md_ast_z hx hb hK hP (by omega) hS (fun _ h => h) dX7_limit_57 (fun H locs hP zH fH hS => ?_)
  refine lv_iload_n hx hb dX7_limit_58 rfl (lv_at hl 0 rfl) ?_
  exact k_iretM hx hb hr hlk dX7_limit_59 hS (show md E o (liZ z v y) (svW z (w_th w (nI 0)) sn) _ from hP) (rfl)
def rm_X7_set_f1 : Room := { frames := 1, cells := 0, slots := 0, locals := 22 }
theorem hd_X7_set : k_hd1 yX7_set RX7 2 := by decide +kernel
set_option maxHeartbeats 4000000 in
set_option maxRecDepth 100000 in
theorem c_X7_set_f1 (l : Launch) (E : ke_E) (o : Nat) (z : Nat → Int32) (w : md_w) (x : Int32) (y : Int32) (hI : iv z) (h1 : ¬ inR x 5) : Met l yX7_set wsX7_set rm_X7_set_f1 (kp E [.ref o, .int x, .int y] (md E o z w)) (qm (some (.int (nI 0))) (bl o 6) (md E o z (w_th w (nI 1)))) 0 0 (bl o 6) := by
  refine k_hd (cc := cX7_set) (maxL := 4) (ret := (some .int)) (by decide) rfl (Nat.le_of_ble_eq_true rfl) ?_
  intro p e s m below meth c ls S hr hlk hnm hK hP hl
  have hx := S.1
  have hb := S.2.1
  have hts := S.2.2.2.2
  have hP : md E o z w s.heap := hP
  have hl : lv_has ls 4 [(0, .ref o), (1, .int x), (2, .int y)] := hl
  have hS : va_S (bl o 6) s.heap s.heap [] := va_S.rf
  have hcn := iv_c hI
  refine lv_aload_n hx hb dX7_set_0 rfl (lv_at hl 0 rfl) ?_
  refine lv_iconst (v := nI 0) hx hb dX7_set_1 (by decide) ?_
  refine md_put (w' := w_th w (nI 0)) S hK hP (fun _ h => List.mem_cons_of_mem _ (List.mem_append_right _ (h))) 6 (by decide) (List.mem_cons_of_mem _ (List.mem_append_left _ (List.mem_of_getElem? (i := 0) rfl))) rfl rfl rfl rfl rfl rfl rfl rfl rfl hS (fun _ h => h) dX7_set_2 (fun H locs hP zH fH hS => ?_)
  refine lv_iload_n hx hb dX7_set_5 rfl (lv_at hl 1 rfl) ?_
  refine lv_iconst (v := nI 0) hx hb dX7_set_6 (by decide) ?_
  refine lv_iconst (v := nI 4) hx hb dX7_set_7 (by decide) ?_
  refine k_S (As := [.int x, .int (nI 0), .int (nI 4)]) (rest := []) S hK (c_X7_in l E x (nI 0) (nI 4)) gX7_set_X7_in rfl hd_X7_in ⟨rfl, rfl⟩ ⟨Nat.le_of_ble_eq_true rfl, Nat.le_of_ble_eq_true rfl⟩ trivial rfl hl.1 rfl (Nat.le_of_ble_eq_true rfl) dX7_set_8 ⟨Nat.le_of_ble_eq_true rfl, Nat.le_of_ble_eq_true rfl⟩ ?_
  refine b_ne (tgt := 20) hx hb dX7_set_11 (by decide) (fun h => absurd h (fun q => h1 ((inR_iff (by decide)).mp q))) (fun c11 => ?_)
  refine lv_aload_n hx hb dX7_set_14 rfl (lv_at hl 0 rfl) ?_
  refine lv_iconst (v := nI 1) hx hb dX7_set_15 (by decide) ?_
  refine k_VM (As := [.int (nI 1)]) (rest := []) S hK (c_X7_fails l E o z (w_th w (nI 0)) (nI 1)) gX7_set_X7_fails rfl hd_X7_fails ⟨rfl, rfl⟩ ⟨Nat.le_of_ble_eq_true rfl, Nat.le_of_ble_eq_true rfl⟩ (k_recv hK hP.1 rfl) hP rfl hl.1 rfl (Nat.le_of_ble_eq_true rfl) dX7_set_16 ⟨Nat.le_of_ble_eq_true rfl, Nat.le_of_ble_eq_true rfl⟩ hS (fun q h => h) (fun q h => h) (fun H locs hQ zH fH hS => ?_)
  have hP := hQ
  exact k_iretM hx hb hr hlk dX7_set_19 hS (show md E o z (w_th w (nI 1)) _ from hP) (rfl)
def rm_X7_set_f2 : Room := { frames := 2, cells := 0, slots := 0, locals := 43 }
set_option maxHeartbeats 4000000 in
set_option maxRecDepth 100000 in
theorem c_X7_set_f2 (l : Launch) (E : ke_E) (o : Nat) (z : Nat → Int32) (w : md_w) (k : Nat) (y : Int32) (hI : iv z) (hk : k < 5) (h1 : ¬ ms k y) : Met l yX7_set wsX7_set rm_X7_set_f2 (kp E [.ref o, .int (nI k), .int y] (md E o z w)) (qm (some (.int (nI 0))) (bl o 6) (md E o z (w_th w (nI 2)))) 0 0 (bl o 6) := by
  refine k_hd (cc := cX7_set) (maxL := 4) (ret := (some .int)) (by decide) rfl (Nat.le_of_ble_eq_true rfl) ?_
  intro p e s m below meth c ls S hr hlk hnm hK hP hl
  have hx := S.1
  have hb := S.2.1
  have hts := S.2.2.2.2
  have hP : md E o z w s.heap := hP
  have hl : lv_has ls 4 [(0, .ref o), (1, .int (nI k)), (2, .int y)] := hl
  have hS : va_S (bl o 6) s.heap s.heap [] := va_S.rf
  have hcn := iv_c hI
  refine lv_aload_n hx hb dX7_set_0 rfl (lv_at hl 0 rfl) ?_
  refine lv_iconst (v := nI 0) hx hb dX7_set_1 (by decide) ?_
  refine md_put (w' := w_th w (nI 0)) S hK hP (fun _ h => List.mem_cons_of_mem _ (List.mem_append_right _ (h))) 6 (by decide) (List.mem_cons_of_mem _ (List.mem_append_left _ (List.mem_of_getElem? (i := 0) rfl))) rfl rfl rfl rfl rfl rfl rfl rfl rfl hS (fun _ h => h) dX7_set_2 (fun H locs hP zH fH hS => ?_)
  refine lv_iload_n hx hb dX7_set_5 rfl (lv_at hl 1 rfl) ?_
  refine lv_iconst (v := nI 0) hx hb dX7_set_6 (by decide) ?_
  refine lv_iconst (v := nI 4) hx hb dX7_set_7 (by decide) ?_
  refine k_S (As := [.int (nI k), .int (nI 0), .int (nI 4)]) (rest := []) S hK (c_X7_in l E (nI k) (nI 0) (nI 4)) gX7_set_X7_in rfl hd_X7_in ⟨rfl, rfl⟩ ⟨Nat.le_of_ble_eq_true rfl, Nat.le_of_ble_eq_true rfl⟩ trivial rfl hl.1 rfl (Nat.le_of_ble_eq_true rfl) dX7_set_8 ⟨Nat.le_of_ble_eq_true rfl, Nat.le_of_ble_eq_true rfl⟩ ?_
  refine b_ne (tgt := 20) hx hb dX7_set_11 (by decide) (fun c11 => ?_) (fun h => absurd (in_n (by omega) (by omega) (by decide)) h)
  refine lv_iload_n hx hb dX7_set_20 rfl (lv_at hl 1 rfl) ?_
  refine lv_iload_n hx hb dX7_set_21 rfl (lv_at hl 2 rfl) ?_
  refine k_S (As := [.int (nI k), .int y]) (rest := []) S hK (c_X7_maySet l E k y hk) gX7_set_X7_maySet rfl hd_X7_maySet ⟨rfl, rfl⟩ ⟨Nat.le_of_ble_eq_true rfl, Nat.le_of_ble_eq_true rfl⟩ trivial rfl hl.1 rfl (Nat.le_of_ble_eq_true rfl) dX7_set_22 ⟨Nat.le_of_ble_eq_true rfl, Nat.le_of_ble_eq_true rfl⟩ ?_
  refine b_ne (tgt := 34) hx hb dX7_set_25 (by decide) (fun h => absurd h h1) (fun c25 => ?_)
  refine lv_aload_n hx hb dX7_set_28 rfl (lv_at hl 0 rfl) ?_
  refine lv_iconst (v := nI 2) hx hb dX7_set_29 (by decide) ?_
  refine k_VM (As := [.int (nI 2)]) (rest := []) S hK (c_X7_fails l E o z (w_th w (nI 0)) (nI 2)) gX7_set_X7_fails rfl hd_X7_fails ⟨rfl, rfl⟩ ⟨Nat.le_of_ble_eq_true rfl, Nat.le_of_ble_eq_true rfl⟩ (k_recv hK hP.1 rfl) hP rfl hl.1 rfl (Nat.le_of_ble_eq_true rfl) dX7_set_30 ⟨Nat.le_of_ble_eq_true rfl, Nat.le_of_ble_eq_true rfl⟩ hS (fun q h => h) (fun q h => h) (fun H locs hQ zH fH hS => ?_)
  have hP := hQ
  exact k_iretM hx hb hr hlk dX7_set_33 hS (show md E o z (w_th w (nI 2)) _ from hP) (rfl)
def rm_X7_set : Room := { frames := 2, cells := 0, slots := 0, locals := 43 }
set_option maxHeartbeats 4000000 in
set_option maxRecDepth 100000 in
theorem c_X7_set (l : Launch) (E : ke_E) (o : Nat) (z : Nat → Int32) (w : md_w) (k : Nat) (y : Int32) (sn : Nat) (hI : iv z) (hk : k < 5) (h1 : ms k y) (hs : q_sm w = nI sn) (hn : sn ≤ 6) : Met l yX7_set wsX7_set rm_X7_set (kp E [.ref o, .int (nI k), .int y] (md E o z w)) (qm (some (.int (z (k + 7)))) (bl o 6) (md E o (seZ z k y) (svW z (w_th w (nI 0)) sn))) 0 0 (bl o 6) := by
  refine k_hd (cc := cX7_set) (maxL := 4) (ret := (some .int)) (by decide) rfl (Nat.le_of_ble_eq_true rfl) ?_
  intro p e s m below meth c ls S hr hlk hnm hK hP hl
  have hx := S.1
  have hb := S.2.1
  have hts := S.2.2.2.2
  have hP : md E o z w s.heap := hP
  have hl : lv_has ls 4 [(0, .ref o), (1, .int (nI k)), (2, .int y)] := hl
  have hS : va_S (bl o 6) s.heap s.heap [] := va_S.rf
  have hcn := iv_c hI
  refine lv_aload_n hx hb dX7_set_0 rfl (lv_at hl 0 rfl) ?_
  refine lv_iconst (v := nI 0) hx hb dX7_set_1 (by decide) ?_
  refine md_put (w' := w_th w (nI 0)) S hK hP (fun _ h => List.mem_cons_of_mem _ (List.mem_append_right _ (h))) 6 (by decide) (List.mem_cons_of_mem _ (List.mem_append_left _ (List.mem_of_getElem? (i := 0) rfl))) rfl rfl rfl rfl rfl rfl rfl rfl rfl hS (fun _ h => h) dX7_set_2 (fun H locs hP zH fH hS => ?_)
  refine lv_iload_n hx hb dX7_set_5 rfl (lv_at hl 1 rfl) ?_
  refine lv_iconst (v := nI 0) hx hb dX7_set_6 (by decide) ?_
  refine lv_iconst (v := nI 4) hx hb dX7_set_7 (by decide) ?_
  refine k_S (As := [.int (nI k), .int (nI 0), .int (nI 4)]) (rest := []) S hK (c_X7_in l E (nI k) (nI 0) (nI 4)) gX7_set_X7_in rfl hd_X7_in ⟨rfl, rfl⟩ ⟨Nat.le_of_ble_eq_true rfl, Nat.le_of_ble_eq_true rfl⟩ trivial rfl hl.1 rfl (Nat.le_of_ble_eq_true rfl) dX7_set_8 ⟨Nat.le_of_ble_eq_true rfl, Nat.le_of_ble_eq_true rfl⟩ ?_
  refine b_ne (tgt := 20) hx hb dX7_set_11 (by decide) (fun c11 => ?_) (fun h => absurd (in_n (by omega) (by omega) (by decide)) h)
  refine lv_iload_n hx hb dX7_set_20 rfl (lv_at hl 1 rfl) ?_
  refine lv_iload_n hx hb dX7_set_21 rfl (lv_at hl 2 rfl) ?_
  refine k_S (As := [.int (nI k), .int y]) (rest := []) S hK (c_X7_maySet l E k y hk) gX7_set_X7_maySet rfl hd_X7_maySet ⟨rfl, rfl⟩ ⟨Nat.le_of_ble_eq_true rfl, Nat.le_of_ble_eq_true rfl⟩ trivial rfl hl.1 rfl (Nat.le_of_ble_eq_true rfl) dX7_set_22 ⟨Nat.le_of_ble_eq_true rfl, Nat.le_of_ble_eq_true rfl⟩ ?_
  refine b_ne (tgt := 34) hx hb dX7_set_25 (by decide) (fun c25 => ?_) (fun h => absurd h1 h)
  refine lv_aload_n hx hb dX7_set_34 rfl (lv_at hl 0 rfl) ?_
  refine k_VM (As := []) (rest := []) S hK (c_X7_save l E o z (w_th w (nI 0)) sn hs hn) gX7_set_X7_save rfl hd_X7_save ⟨rfl, rfl⟩ ⟨Nat.le_of_ble_eq_true rfl, Nat.le_of_ble_eq_true rfl⟩ (k_recv hK hP.1 rfl) hP rfl hl.1 rfl (Nat.le_of_ble_eq_true rfl) dX7_set_35 ⟨Nat.le_of_ble_eq_true rfl, Nat.le_of_ble_eq_true rfl⟩ hS (fun q h => h) (fun q h => h) (fun H locs hQ zH fH hS => ?_)
  have hP := hQ
  refine lv_aload_n hx hb dX7_set_38 rfl (lv_at hl 0 rfl) ?_
  refine k_get S hK hP.1 rfl (fun _ h => List.mem_cons_of_mem _ (List.mem_append_right _ (h))) 0 (by decide) (List.mem_cons_of_mem _ (List.mem_append_left _ (List.mem_of_getElem? (i := 1) rfl))) rfl (v := .ref (o + 1)) rfl dX7_set_39 ?_
  refine lv_bipush (v := nI 7) hx hb dX7_set_42 (by decide) ?_
  refine lv_iload_n hx hb dX7_set_44 rfl (lv_at hl 1 rfl) ?_
  refine n_iadd (n := k + 7) hx hb dX7_set_45 (by omega) ?_
  refine k_iald hx hb hK hP.2.1 (by omega) (by decide) (v := z (k + 7)) rfl dX7_set_46 ?_
  refine lv_istore_n (lv' := [(3, .int (z (k + 7))), (0, .ref o), (1, .int (nI k)), (2, .int y)]) hx hb dX7_set_47 rfl hl (by decide) rfl (fun ls hl => ?_)
  refine lv_aload_n hx hb dX7_set_48 rfl (lv_at hl 1 rfl) ?_
  refine k_get S hK hP.1 rfl (fun _ h => List.mem_cons_of_mem _ (List.mem_append_right _ (h))) 0 (by decide) (List.mem_cons_of_mem _ (List.mem_append_left _ (List.mem_of_getElem? (i := 1) rfl))) rfl (v := .ref (o + 1)) rfl dX7_set_49 ?_
  refine lv_bipush (v := nI 7) hx hb dX7_set_52 (by decide) ?_
  refine lv_iload_n hx hb dX7_set_54 rfl (lv_at hl 2 rfl) ?_
  refine n_iadd (n := k + 7) hx hb dX7_set_55 (by omega) ?_
  refine lv_iload_n hx hb dX7_set_56 rfl (lv_at hl 3 rfl) ?_
  refine md_ast_z hx hb hK hP (by omega) hS (fun _ h => h) dX7_set_57 (fun H locs hP zH fH hS => ?_)
  refine lv_iload_n hx hb dX7_set_58 rfl (lv_at hl 0 rfl) ?_
  exact k_iretM hx hb hr hlk dX7_set_59 hS (show md E o (seZ z k y) (svW z (w_th w (nI 0)) sn) _ from hP) (rfl)
def rm_X7_receive_f1 : Room := { frames := 2, cells := 0, slots := 0, locals := 42 }
theorem hd_X7_receive : k_hd1 yX7_receive RX7 2 := by decide +kernel
set_option maxHeartbeats 4000000 in
set_option maxRecDepth 100000 in
theorem c_X7_receive_f1 (l : Launch) (E : ke_E) (o : Nat) (z : Nat → Int32) (w : md_w) (x : Int32) (y : Int32) (hI : iv z) (h1 : ¬ inR x 6) : Met l yX7_receive wsX7_receive rm_X7_receive_f1 (kp E [.ref o, .int x, .int y] (md E o z w)) (qm (some (.int (nI 0))) (bl o 6) (md E o z (w_th w (nI 1)))) 0 0 (bl o 6) := by
  refine k_hd (cc := cX7_receive) (maxL := 3) (ret := (some .int)) (by decide) rfl (Nat.le_of_ble_eq_true rfl) ?_
  intro p e s m below meth c ls S hr hlk hnm hK hP hl
  have hx := S.1
  have hb := S.2.1
  have hts := S.2.2.2.2
  have hP : md E o z w s.heap := hP
  have hl : lv_has ls 3 [(0, .ref o), (1, .int x), (2, .int y)] := hl
  have hS : va_S (bl o 6) s.heap s.heap [] := va_S.rf
  have hcn := iv_c hI
  refine lv_aload_n hx hb dX7_receive_0 rfl (lv_at hl 0 rfl) ?_
  refine lv_iconst (v := nI 0) hx hb dX7_receive_1 (by decide) ?_
  refine md_put (w' := w_th w (nI 0)) S hK hP (fun _ h => List.mem_cons_of_mem _ (List.mem_append_right _ (h))) 6 (by decide) (List.mem_cons_of_mem _ (List.mem_append_left _ (List.mem_append_left _ (List.mem_of_getElem? (i := 0) rfl)))) rfl rfl rfl rfl rfl rfl rfl rfl rfl hS (fun _ h => h) dX7_receive_2 (fun H locs hP zH fH hS => ?_)
  refine lv_iload_n hx hb dX7_receive_5 rfl (lv_at hl 1 rfl) ?_
  refine k_S (As := [.int x]) (rest := []) S hK (c_X7_isProduct l E x) gX7_receive_X7_isProduct rfl hd_X7_isProduct ⟨rfl, rfl⟩ ⟨Nat.le_of_ble_eq_true rfl, Nat.le_of_ble_eq_true rfl⟩ trivial rfl hl.1 rfl (Nat.le_of_ble_eq_true rfl) dX7_receive_6 ⟨Nat.le_of_ble_eq_true rfl, Nat.le_of_ble_eq_true rfl⟩ ?_
  refine b_eq (tgt := 19) hx hb dX7_receive_9 (by decide) (fun c9 => ?_) (fun h => absurd h (fun q => h1 ((inR_iff (by decide)).mp q)))
  refine lv_aload_n hx hb dX7_receive_19 rfl (lv_at hl 0 rfl) ?_
  refine lv_iconst (v := nI 1) hx hb dX7_receive_20 (by decide) ?_
  refine k_VM (As := [.int (nI 1)]) (rest := []) S hK (c_X7_fails l E o z (w_th w (nI 0)) (nI 1)) gX7_receive_X7_fails rfl hd_X7_fails ⟨rfl, rfl⟩ ⟨Nat.le_of_ble_eq_true rfl, Nat.le_of_ble_eq_true rfl⟩ (k_recv hK hP.1 rfl) hP rfl hl.1 rfl (Nat.le_of_ble_eq_true rfl) dX7_receive_21 ⟨Nat.le_of_ble_eq_true rfl, Nat.le_of_ble_eq_true rfl⟩ hS (fun q h => h) (fun q h => h) (fun H locs hQ zH fH hS => ?_)
  have hP := hQ
  exact k_iretM hx hb hr hlk dX7_receive_24 hS (show md E o z (w_th w (nI 1)) _ from hP) (rfl)
def rm_X7_receive_f2 : Room := { frames := 2, cells := 0, slots := 0, locals := 42 }
set_option maxHeartbeats 4000000 in
set_option maxRecDepth 100000 in
theorem c_X7_receive_f2 (l : Launch) (E : ke_E) (o : Nat) (z : Nat → Int32) (w : md_w) (q : Nat) (x : Int32) (hI : iv z) (hq6 : q < 6) (h1 : ¬ inR x 4) : Met l yX7_receive wsX7_receive rm_X7_receive_f2 (kp E [.ref o, .int (nI q), .int x] (md E o z w)) (qm (some (.int (nI 0))) (bl o 6) (md E o z (w_th w (nI 1)))) 0 0 (bl o 6) := by
  refine k_hd (cc := cX7_receive) (maxL := 3) (ret := (some .int)) (by decide) rfl (Nat.le_of_ble_eq_true rfl) ?_
  intro p e s m below meth c ls S hr hlk hnm hK hP hl
  have hx := S.1
  have hb := S.2.1
  have hts := S.2.2.2.2
  have hP : md E o z w s.heap := hP
  have hl : lv_has ls 3 [(0, .ref o), (1, .int (nI q)), (2, .int x)] := hl
  have hS : va_S (bl o 6) s.heap s.heap [] := va_S.rf
  have hcn := iv_c hI
  refine lv_aload_n hx hb dX7_receive_0 rfl (lv_at hl 0 rfl) ?_
  refine lv_iconst (v := nI 0) hx hb dX7_receive_1 (by decide) ?_
  refine md_put (w' := w_th w (nI 0)) S hK hP (fun _ h => List.mem_cons_of_mem _ (List.mem_append_right _ (h))) 6 (by decide) (List.mem_cons_of_mem _ (List.mem_append_left _ (List.mem_append_left _ (List.mem_of_getElem? (i := 0) rfl)))) rfl rfl rfl rfl rfl rfl rfl rfl rfl hS (fun _ h => h) dX7_receive_2 (fun H locs hP zH fH hS => ?_)
  refine lv_iload_n hx hb dX7_receive_5 rfl (lv_at hl 1 rfl) ?_
  refine k_S (As := [.int (nI q)]) (rest := []) S hK (c_X7_isProduct l E (nI q)) gX7_receive_X7_isProduct rfl hd_X7_isProduct ⟨rfl, rfl⟩ ⟨Nat.le_of_ble_eq_true rfl, Nat.le_of_ble_eq_true rfl⟩ trivial rfl hl.1 rfl (Nat.le_of_ble_eq_true rfl) dX7_receive_6 ⟨Nat.le_of_ble_eq_true rfl, Nat.le_of_ble_eq_true rfl⟩ ?_
  refine b_eq (tgt := 19) hx hb dX7_receive_9 (by decide) (fun h => absurd (in_n (Nat.zero_le _) (by omega) (by decide)) h) (fun c9 => ?_)
  refine lv_iload_n hx hb dX7_receive_12 rfl (lv_at hl 2 rfl) ?_
  refine k_S (As := [.int x]) (rest := []) S hK (c_X7_isReason l E x) gX7_receive_X7_isReason rfl hd_X7_isReason ⟨rfl, rfl⟩ ⟨Nat.le_of_ble_eq_true rfl, Nat.le_of_ble_eq_true rfl⟩ trivial rfl hl.1 rfl (Nat.le_of_ble_eq_true rfl) dX7_receive_13 ⟨Nat.le_of_ble_eq_true rfl, Nat.le_of_ble_eq_true rfl⟩ ?_
  refine b_ne (tgt := 25) hx hb dX7_receive_16 (by decide) (fun h => absurd h (fun q => h1 ((inR_iff (by decide)).mp q))) (fun c16 => ?_)
  refine lv_aload_n hx hb dX7_receive_19 rfl (lv_at hl 0 rfl) ?_
  refine lv_iconst (v := nI 1) hx hb dX7_receive_20 (by decide) ?_
  refine k_VM (As := [.int (nI 1)]) (rest := []) S hK (c_X7_fails l E o z (w_th w (nI 0)) (nI 1)) gX7_receive_X7_fails rfl hd_X7_fails ⟨rfl, rfl⟩ ⟨Nat.le_of_ble_eq_true rfl, Nat.le_of_ble_eq_true rfl⟩ (k_recv hK hP.1 rfl) hP rfl hl.1 rfl (Nat.le_of_ble_eq_true rfl) dX7_receive_21 ⟨Nat.le_of_ble_eq_true rfl, Nat.le_of_ble_eq_true rfl⟩ hS (fun q h => h) (fun q h => h) (fun H locs hQ zH fH hS => ?_)
  have hP := hQ
  exact k_iretM hx hb hr hlk dX7_receive_24 hS (show md E o z (w_th w (nI 1)) _ from hP) (rfl)
def rm_X7_receive_f3 : Room := { frames := 2, cells := 0, slots := 0, locals := 42 }
set_option maxHeartbeats 4000000 in
set_option maxRecDepth 100000 in
theorem c_X7_receive_f3 (l : Launch) (E : ke_E) (o : Nat) (z : Nat → Int32) (w : md_w) (q : Nat) (r : Nat) (hI : iv z) (hq6 : q < 6) (hr4 : r < 4) (h1 : cn z = 20) : Met l yX7_receive wsX7_receive rm_X7_receive_f3 (kp E [.ref o, .int (nI q), .int (nI r)] (md E o z w)) (qm (some (.int (nI 0))) (bl o 6) (md E o z (w_th w (nI 2)))) 0 0 (bl o 6) := by
  refine k_hd (cc := cX7_receive) (maxL := 3) (ret := (some .int)) (by decide) rfl (Nat.le_of_ble_eq_true rfl) ?_
  intro p e s m below meth c ls S hr hlk hnm hK hP hl
  have hx := S.1
  have hb := S.2.1
  have hts := S.2.2.2.2
  have hP : md E o z w s.heap := hP
  have hl : lv_has ls 3 [(0, .ref o), (1, .int (nI q)), (2, .int (nI r))] := hl
  have hS : va_S (bl o 6) s.heap s.heap [] := va_S.rf
  have hcn := iv_c hI
  refine lv_aload_n hx hb dX7_receive_0 rfl (lv_at hl 0 rfl) ?_
  refine lv_iconst (v := nI 0) hx hb dX7_receive_1 (by decide) ?_
  refine md_put (w' := w_th w (nI 0)) S hK hP (fun _ h => List.mem_cons_of_mem _ (List.mem_append_right _ (h))) 6 (by decide) (List.mem_cons_of_mem _ (List.mem_append_left _ (List.mem_append_left _ (List.mem_of_getElem? (i := 0) rfl)))) rfl rfl rfl rfl rfl rfl rfl rfl rfl hS (fun _ h => h) dX7_receive_2 (fun H locs hP zH fH hS => ?_)
  refine lv_iload_n hx hb dX7_receive_5 rfl (lv_at hl 1 rfl) ?_
  refine k_S (As := [.int (nI q)]) (rest := []) S hK (c_X7_isProduct l E (nI q)) gX7_receive_X7_isProduct rfl hd_X7_isProduct ⟨rfl, rfl⟩ ⟨Nat.le_of_ble_eq_true rfl, Nat.le_of_ble_eq_true rfl⟩ trivial rfl hl.1 rfl (Nat.le_of_ble_eq_true rfl) dX7_receive_6 ⟨Nat.le_of_ble_eq_true rfl, Nat.le_of_ble_eq_true rfl⟩ ?_
  refine b_eq (tgt := 19) hx hb dX7_receive_9 (by decide) (fun h => absurd (in_n (Nat.zero_le _) (by omega) (by decide)) h) (fun c9 => ?_)
  refine lv_iload_n hx hb dX7_receive_12 rfl (lv_at hl 2 rfl) ?_
  refine k_S (As := [.int (nI r)]) (rest := []) S hK (c_X7_isReason l E (nI r)) gX7_receive_X7_isReason rfl hd_X7_isReason ⟨rfl, rfl⟩ ⟨Nat.le_of_ble_eq_true rfl, Nat.le_of_ble_eq_true rfl⟩ trivial rfl hl.1 rfl (Nat.le_of_ble_eq_true rfl) dX7_receive_13 ⟨Nat.le_of_ble_eq_true rfl, Nat.le_of_ble_eq_true rfl⟩ ?_
  refine b_ne (tgt := 25) hx hb dX7_receive_16 (by decide) (fun c16 => ?_) (fun h => absurd (in_n (Nat.zero_le _) (by omega) (by decide)) h)
  refine lv_aload_n hx hb dX7_receive_25 rfl (lv_at hl 0 rfl) ?_
  refine k_get S hK hP.1 rfl (fun _ h => List.mem_cons_of_mem _ (List.mem_append_right _ (h))) 0 (by decide) (List.mem_cons_of_mem _ (List.mem_append_left _ (List.mem_append_left _ (List.mem_of_getElem? (i := 1) rfl)))) rfl (v := .ref (o + 1)) rfl dX7_receive_26 ?_
  refine lv_iconst (v := nI 0) hx hb dX7_receive_29 (by decide) ?_
  refine k_iald hx hb hK hP.2.1 (by omega) (by decide) (v := nI (cn z)) (iv_n hI) dX7_receive_30 ?_
  refine lv_bipush (v := nI 20) hx hb dX7_receive_31 (by decide) ?_
  refine n_ine (tgt := 42) hx hb dX7_receive_33 (by decide) (by omega) (by omega) (fun h => absurd h (by omega)) (fun c33 => ?_)
  refine lv_aload_n hx hb dX7_receive_36 rfl (lv_at hl 0 rfl) ?_
  refine lv_iconst (v := nI 2) hx hb dX7_receive_37 (by decide) ?_
  refine k_VM (As := [.int (nI 2)]) (rest := []) S hK (c_X7_fails l E o z (w_th w (nI 0)) (nI 2)) gX7_receive_X7_fails rfl hd_X7_fails ⟨rfl, rfl⟩ ⟨Nat.le_of_ble_eq_true rfl, Nat.le_of_ble_eq_true rfl⟩ (k_recv hK hP.1 rfl) hP rfl hl.1 rfl (Nat.le_of_ble_eq_true rfl) dX7_receive_38 ⟨Nat.le_of_ble_eq_true rfl, Nat.le_of_ble_eq_true rfl⟩ hS (fun q h => h) (fun q h => h) (fun H locs hQ zH fH hS => ?_)
  have hP := hQ
  exact k_iretM hx hb hr hlk dX7_receive_41 hS (show md E o z (w_th w (nI 2)) _ from hP) (rfl)
def rm_X7_receive : Room := { frames := 2, cells := 0, slots := 0, locals := 44 }
set_option maxHeartbeats 4000000 in
set_option maxRecDepth 100000 in
theorem c_X7_receive (l : Launch) (E : ke_E) (o : Nat) (z : Nat → Int32) (w : md_w) (q : Nat) (r : Nat) (sn : Nat) (hI : iv z) (hq6 : q < 6) (hr4 : r < 4) (h1 : ¬ cn z = 20) (hs : q_sm w = nI sn) (hn : sn ≤ 6) : Met l yX7_receive wsX7_receive rm_X7_receive (kp E [.ref o, .int (nI q), .int (nI r)] (md E o z w)) (qm (some (.int (nI (cn z)))) (bl o 6) (md E o (rcv z q r) (svW z (w_th w (nI 0)) sn))) 0 0 (bl o 6) := by
  refine k_hd (cc := cX7_receive) (maxL := 3) (ret := (some .int)) (by decide) rfl (Nat.le_of_ble_eq_true rfl) ?_
  intro p e s m below meth c ls S hr hlk hnm hK hP hl
  have hx := S.1
  have hb := S.2.1
  have hts := S.2.2.2.2
  have hP : md E o z w s.heap := hP
  have hl : lv_has ls 3 [(0, .ref o), (1, .int (nI q)), (2, .int (nI r))] := hl
  have hS : va_S (bl o 6) s.heap s.heap [] := va_S.rf
  have hcn := iv_c hI
  refine lv_aload_n hx hb dX7_receive_0 rfl (lv_at hl 0 rfl) ?_
  refine lv_iconst (v := nI 0) hx hb dX7_receive_1 (by decide) ?_
  refine md_put (w' := w_th w (nI 0)) S hK hP (fun _ h => List.mem_cons_of_mem _ (List.mem_append_right _ (h))) 6 (by decide) (List.mem_cons_of_mem _ (List.mem_append_left _ (List.mem_append_left _ (List.mem_of_getElem? (i := 0) rfl)))) rfl rfl rfl rfl rfl rfl rfl rfl rfl hS (fun _ h => h) dX7_receive_2 (fun H locs hP zH fH hS => ?_)
  refine lv_iload_n hx hb dX7_receive_5 rfl (lv_at hl 1 rfl) ?_
  refine k_S (As := [.int (nI q)]) (rest := []) S hK (c_X7_isProduct l E (nI q)) gX7_receive_X7_isProduct rfl hd_X7_isProduct ⟨rfl, rfl⟩ ⟨Nat.le_of_ble_eq_true rfl, Nat.le_of_ble_eq_true rfl⟩ trivial rfl hl.1 rfl (Nat.le_of_ble_eq_true rfl) dX7_receive_6 ⟨Nat.le_of_ble_eq_true rfl, Nat.le_of_ble_eq_true rfl⟩ ?_
  refine b_eq (tgt := 19) hx hb dX7_receive_9 (by decide) (fun h => absurd (in_n (Nat.zero_le _) (by omega) (by decide)) h) (fun c9 => ?_)
  refine lv_iload_n hx hb dX7_receive_12 rfl (lv_at hl 2 rfl) ?_
  refine k_S (As := [.int (nI r)]) (rest := []) S hK (c_X7_isReason l E (nI r)) gX7_receive_X7_isReason rfl hd_X7_isReason ⟨rfl, rfl⟩ ⟨Nat.le_of_ble_eq_true rfl, Nat.le_of_ble_eq_true rfl⟩ trivial rfl hl.1 rfl (Nat.le_of_ble_eq_true rfl) dX7_receive_13 ⟨Nat.le_of_ble_eq_true rfl, Nat.le_of_ble_eq_true rfl⟩ ?_
  refine b_ne (tgt := 25) hx hb dX7_receive_16 (by decide) (fun c16 => ?_) (fun h => absurd (in_n (Nat.zero_le _) (by omega) (by decide)) h)
  refine lv_aload_n hx hb dX7_receive_25 rfl (lv_at hl 0 rfl) ?_
  refine k_get S hK hP.1 rfl (fun _ h => List.mem_cons_of_mem _ (List.mem_append_right _ (h))) 0 (by decide) (List.mem_cons_of_mem _ (List.mem_append_left _ (List.mem_append_left _ (List.mem_of_getElem? (i := 1) rfl)))) rfl (v := .ref (o + 1)) rfl dX7_receive_26 ?_
  refine lv_iconst (v := nI 0) hx hb dX7_receive_29 (by decide) ?_
  refine k_iald hx hb hK hP.2.1 (by omega) (by decide) (v := nI (cn z)) (iv_n hI) dX7_receive_30 ?_
  refine lv_bipush (v := nI 20) hx hb dX7_receive_31 (by decide) ?_
  refine n_ine (tgt := 42) hx hb dX7_receive_33 (by decide) (by omega) (by omega) (fun c33 => ?_) (fun h => absurd h (by omega))
  refine lv_aload_n hx hb dX7_receive_42 rfl (lv_at hl 0 rfl) ?_
  refine k_VM (As := []) (rest := []) S hK (c_X7_save l E o z (w_th w (nI 0)) sn hs hn) gX7_receive_X7_save rfl hd_X7_save ⟨rfl, rfl⟩ ⟨Nat.le_of_ble_eq_true rfl, Nat.le_of_ble_eq_true rfl⟩ (k_recv hK hP.1 rfl) hP rfl hl.1 rfl (Nat.le_of_ble_eq_true rfl) dX7_receive_43 ⟨Nat.le_of_ble_eq_true rfl, Nat.le_of_ble_eq_true rfl⟩ hS (fun q h => h) (fun q h => h) (fun H locs hQ zH fH hS => ?_)
  have hP := hQ
  refine lv_aload_n hx hb dX7_receive_46 rfl (lv_at hl 0 rfl) ?_
  refine lv_iload_n hx hb dX7_receive_47 rfl (lv_at hl 1 rfl) ?_
  refine lv_iload_n hx hb dX7_receive_48 rfl (lv_at hl 2 rfl) ?_
  refine k_VM (As := [.int (nI q), .int (nI r)]) (rest := []) S hK (c_X7_receiveNow l E o z (svW z (w_th w (nI 0)) sn) q r hI (by omega)) gX7_receive_X7_receiveNow rfl hd_X7_receiveNow ⟨rfl, rfl⟩ ⟨Nat.le_of_ble_eq_true rfl, Nat.le_of_ble_eq_true rfl⟩ (k_recv hK hP.1 rfl) hP rfl hl.1 rfl (Nat.le_of_ble_eq_true rfl) dX7_receive_49 ⟨Nat.le_of_ble_eq_true rfl, Nat.le_of_ble_eq_true rfl⟩ hS (fun q h => h) (fun q h => h) (fun H locs hQ zH fH hS => ?_)
  have hP := hQ
  refine lv_aload_n hx hb dX7_receive_52 rfl (lv_at hl 0 rfl) ?_
  refine k_get S hK hP.1 rfl (fun _ h => List.mem_cons_of_mem _ (List.mem_append_right _ (h))) 0 (by decide) (List.mem_cons_of_mem _ (List.mem_append_left _ (List.mem_append_left _ (List.mem_of_getElem? (i := 1) rfl)))) rfl (v := .ref (o + 1)) rfl dX7_receive_53 ?_
  refine lv_iconst (v := nI 0) hx hb dX7_receive_56 (by decide) ?_
  refine k_iald hx hb hK hP.2.1 (by omega) (by decide) (v := nI (cn z + 1)) upd_s dX7_receive_57 ?_
  refine lv_iconst (v := nI 1) hx hb dX7_receive_58 (by decide) ?_
  refine n_isub (n := cn z) hx hb dX7_receive_59 (by omega) ?_
  exact k_iretM hx hb hr hlk dX7_receive_60 hS (show md E o (rcv z q r) (svW z (w_th w (nI 0)) sn) _ from hP) (rfl)
def rm_X7_test_f1 : Room := { frames := 2, cells := 0, slots := 0, locals := 43 }
theorem hd_X7_test : k_hd1 yX7_test RX7 3 := by decide +kernel
set_option maxHeartbeats 4000000 in
set_option maxRecDepth 100000 in
theorem c_X7_test_f1 (l : Launch) (E : ke_E) (o : Nat) (z : Nat → Int32) (w : md_w) (x : Int32) (y : Int32) (y2 : Int32) (hI : iv z) (h1 : ¬ inR x (cn z)) : Met l yX7_test wsX7_test rm_X7_test_f1 (kp E [.ref o, .int x, .int y, .int y2] (md E o z w)) (qm (some (.int (nI 0))) (bl o 6) (md E o z (w_th w (nI 1)))) 0 0 (bl o 6) := by
  refine k_hd (cc := cX7_test) (maxL := 4) (ret := (some .int)) (by decide) rfl (Nat.le_of_ble_eq_true rfl) ?_
  intro p e s m below meth c ls S hr hlk hnm hK hP hl
  have hx := S.1
  have hb := S.2.1
  have hts := S.2.2.2.2
  have hP : md E o z w s.heap := hP
  have hl : lv_has ls 4 [(0, .ref o), (1, .int x), (2, .int y), (3, .int y2)] := hl
  have hS : va_S (bl o 6) s.heap s.heap [] := va_S.rf
  have hcn := iv_c hI
  refine lv_aload_n hx hb dX7_test_0 rfl (lv_at hl 0 rfl) ?_
  refine lv_iconst (v := nI 0) hx hb dX7_test_1 (by decide) ?_
  refine md_put (w' := w_th w (nI 0)) S hK hP (fun _ h => List.mem_cons_of_mem _ (List.mem_append_right _ (h))) 6 (by decide) (List.mem_cons_of_mem _ (List.mem_append_left _ (List.mem_append_left _ (List.mem_of_getElem? (i := 0) rfl)))) rfl rfl rfl rfl rfl rfl rfl rfl rfl hS (fun _ h => h) dX7_test_2 (fun H locs hP zH fH hS => ?_)
  refine lv_aload_n hx hb dX7_test_5 rfl (lv_at hl 0 rfl) ?_
  refine lv_iload_n hx hb dX7_test_6 rfl (lv_at hl 1 rfl) ?_
  refine k_V (As := [.int x]) (rest := []) S hK (c_X7_isUnit l E o z (w_th w (nI 0)) x hI) gX7_test_X7_isUnit rfl hd_X7_isUnit ⟨rfl, rfl⟩ ⟨Nat.le_of_ble_eq_true rfl, Nat.le_of_ble_eq_true rfl⟩ (k_recv hK hP.1 rfl) hP rfl hl.1 rfl (Nat.le_of_ble_eq_true rfl) dX7_test_7 ⟨Nat.le_of_ble_eq_true rfl, Nat.le_of_ble_eq_true rfl⟩ ?_
  refine b_eq (tgt := 22) hx hb dX7_test_10 (by decide) (fun c10 => ?_) (fun h => absurd h (fun q => h1 ((isU_iff (by omega)).mp q)))
  refine lv_aload_n hx hb dX7_test_22 rfl (lv_at hl 0 rfl) ?_
  refine lv_iconst (v := nI 1) hx hb dX7_test_23 (by decide) ?_
  refine k_VM (As := [.int (nI 1)]) (rest := []) S hK (c_X7_fails l E o z (w_th w (nI 0)) (nI 1)) gX7_test_X7_fails rfl hd_X7_fails ⟨rfl, rfl⟩ ⟨Nat.le_of_ble_eq_true rfl, Nat.le_of_ble_eq_true rfl⟩ (k_recv hK hP.1 rfl) hP rfl hl.1 rfl (Nat.le_of_ble_eq_true rfl) dX7_test_24 ⟨Nat.le_of_ble_eq_true rfl, Nat.le_of_ble_eq_true rfl⟩ hS (fun q h => h) (fun q h => h) (fun H locs hQ zH fH hS => ?_)
  have hP := hQ
  exact k_iretM hx hb hr hlk dX7_test_27 hS (show md E o z (w_th w (nI 1)) _ from hP) (rfl)
def rm_X7_test_f2 : Room := { frames := 2, cells := 0, slots := 0, locals := 43 }
set_option maxHeartbeats 4000000 in
set_option maxRecDepth 100000 in
theorem c_X7_test_f2 (l : Launch) (E : ke_E) (o : Nat) (z : Nat → Int32) (w : md_w) (u : Nat) (x : Int32) (y : Int32) (hI : iv z) (hu : u < cn z) (h1 : ¬ inR x 4) : Met l yX7_test wsX7_test rm_X7_test_f2 (kp E [.ref o, .int (nI u), .int x, .int y] (md E o z w)) (qm (some (.int (nI 0))) (bl o 6) (md E o z (w_th w (nI 1)))) 0 0 (bl o 6) := by
  refine k_hd (cc := cX7_test) (maxL := 4) (ret := (some .int)) (by decide) rfl (Nat.le_of_ble_eq_true rfl) ?_
  intro p e s m below meth c ls S hr hlk hnm hK hP hl
  have hx := S.1
  have hb := S.2.1
  have hts := S.2.2.2.2
  have hP : md E o z w s.heap := hP
  have hl : lv_has ls 4 [(0, .ref o), (1, .int (nI u)), (2, .int x), (3, .int y)] := hl
  have hS : va_S (bl o 6) s.heap s.heap [] := va_S.rf
  have hcn := iv_c hI
  refine lv_aload_n hx hb dX7_test_0 rfl (lv_at hl 0 rfl) ?_
  refine lv_iconst (v := nI 0) hx hb dX7_test_1 (by decide) ?_
  refine md_put (w' := w_th w (nI 0)) S hK hP (fun _ h => List.mem_cons_of_mem _ (List.mem_append_right _ (h))) 6 (by decide) (List.mem_cons_of_mem _ (List.mem_append_left _ (List.mem_append_left _ (List.mem_of_getElem? (i := 0) rfl)))) rfl rfl rfl rfl rfl rfl rfl rfl rfl hS (fun _ h => h) dX7_test_2 (fun H locs hP zH fH hS => ?_)
  refine lv_aload_n hx hb dX7_test_5 rfl (lv_at hl 0 rfl) ?_
  refine lv_iload_n hx hb dX7_test_6 rfl (lv_at hl 1 rfl) ?_
  refine k_V (As := [.int (nI u)]) (rest := []) S hK (c_X7_isUnit l E o z (w_th w (nI 0)) (nI u) hI) gX7_test_X7_isUnit rfl hd_X7_isUnit ⟨rfl, rfl⟩ ⟨Nat.le_of_ble_eq_true rfl, Nat.le_of_ble_eq_true rfl⟩ (k_recv hK hP.1 rfl) hP rfl hl.1 rfl (Nat.le_of_ble_eq_true rfl) dX7_test_7 ⟨Nat.le_of_ble_eq_true rfl, Nat.le_of_ble_eq_true rfl⟩ ?_
  refine b_eq (tgt := 22) hx hb dX7_test_10 (by decide) (fun h => absurd (isU hu (by omega)) h) (fun c10 => ?_)
  refine lv_iload_n hx hb dX7_test_13 rfl (lv_at hl 2 rfl) ?_
  refine lv_iconst (v := nI 0) hx hb dX7_test_14 (by decide) ?_
  refine lv_iconst (v := nI 3) hx hb dX7_test_15 (by decide) ?_
  refine k_S (As := [.int x, .int (nI 0), .int (nI 3)]) (rest := []) S hK (c_X7_in l E x (nI 0) (nI 3)) gX7_test_X7_in rfl hd_X7_in ⟨rfl, rfl⟩ ⟨Nat.le_of_ble_eq_true rfl, Nat.le_of_ble_eq_true rfl⟩ trivial rfl hl.1 rfl (Nat.le_of_ble_eq_true rfl) dX7_test_16 ⟨Nat.le_of_ble_eq_true rfl, Nat.le_of_ble_eq_true rfl⟩ ?_
  refine b_ne (tgt := 28) hx hb dX7_test_19 (by decide) (fun h => absurd h (fun q => h1 ((inR_iff (by decide)).mp q))) (fun c19 => ?_)
  refine lv_aload_n hx hb dX7_test_22 rfl (lv_at hl 0 rfl) ?_
  refine lv_iconst (v := nI 1) hx hb dX7_test_23 (by decide) ?_
  refine k_VM (As := [.int (nI 1)]) (rest := []) S hK (c_X7_fails l E o z (w_th w (nI 0)) (nI 1)) gX7_test_X7_fails rfl hd_X7_fails ⟨rfl, rfl⟩ ⟨Nat.le_of_ble_eq_true rfl, Nat.le_of_ble_eq_true rfl⟩ (k_recv hK hP.1 rfl) hP rfl hl.1 rfl (Nat.le_of_ble_eq_true rfl) dX7_test_24 ⟨Nat.le_of_ble_eq_true rfl, Nat.le_of_ble_eq_true rfl⟩ hS (fun q h => h) (fun q h => h) (fun H locs hQ zH fH hS => ?_)
  have hP := hQ
  exact k_iretM hx hb hr hlk dX7_test_27 hS (show md E o z (w_th w (nI 1)) _ from hP) (rfl)
def rm_X7_test_f3 : Room := { frames := 2, cells := 0, slots := 0, locals := 43 }
set_option maxHeartbeats 4000000 in
set_option maxRecDepth 100000 in
theorem c_X7_test_f3 (l : Launch) (E : ke_E) (o : Nat) (z : Nat → Int32) (w : md_w) (u : Nat) (t : Nat) (y : Int32) (hI : iv z) (hu : u < cn z) (ht : t < 4) (h1 : ¬ (nI 0 ≤ y ∧ y ≤ nI 9)) : Met l yX7_test wsX7_test rm_X7_test_f3 (kp E [.ref o, .int (nI u), .int (nI t), .int y] (md E o z w)) (qm (some (.int (nI 0))) (bl o 6) (md E o z (w_th w (nI 2)))) 0 0 (bl o 6) := by
  refine k_hd (cc := cX7_test) (maxL := 4) (ret := (some .int)) (by decide) rfl (Nat.le_of_ble_eq_true rfl) ?_
  intro p e s m below meth c ls S hr hlk hnm hK hP hl
  have hx := S.1
  have hb := S.2.1
  have hts := S.2.2.2.2
  have hP : md E o z w s.heap := hP
  have hl : lv_has ls 4 [(0, .ref o), (1, .int (nI u)), (2, .int (nI t)), (3, .int y)] := hl
  have hS : va_S (bl o 6) s.heap s.heap [] := va_S.rf
  have hcn := iv_c hI
  refine lv_aload_n hx hb dX7_test_0 rfl (lv_at hl 0 rfl) ?_
  refine lv_iconst (v := nI 0) hx hb dX7_test_1 (by decide) ?_
  refine md_put (w' := w_th w (nI 0)) S hK hP (fun _ h => List.mem_cons_of_mem _ (List.mem_append_right _ (h))) 6 (by decide) (List.mem_cons_of_mem _ (List.mem_append_left _ (List.mem_append_left _ (List.mem_of_getElem? (i := 0) rfl)))) rfl rfl rfl rfl rfl rfl rfl rfl rfl hS (fun _ h => h) dX7_test_2 (fun H locs hP zH fH hS => ?_)
  refine lv_aload_n hx hb dX7_test_5 rfl (lv_at hl 0 rfl) ?_
  refine lv_iload_n hx hb dX7_test_6 rfl (lv_at hl 1 rfl) ?_
  refine k_V (As := [.int (nI u)]) (rest := []) S hK (c_X7_isUnit l E o z (w_th w (nI 0)) (nI u) hI) gX7_test_X7_isUnit rfl hd_X7_isUnit ⟨rfl, rfl⟩ ⟨Nat.le_of_ble_eq_true rfl, Nat.le_of_ble_eq_true rfl⟩ (k_recv hK hP.1 rfl) hP rfl hl.1 rfl (Nat.le_of_ble_eq_true rfl) dX7_test_7 ⟨Nat.le_of_ble_eq_true rfl, Nat.le_of_ble_eq_true rfl⟩ ?_
  refine b_eq (tgt := 22) hx hb dX7_test_10 (by decide) (fun h => absurd (isU hu (by omega)) h) (fun c10 => ?_)
  refine lv_iload_n hx hb dX7_test_13 rfl (lv_at hl 2 rfl) ?_
  refine lv_iconst (v := nI 0) hx hb dX7_test_14 (by decide) ?_
  refine lv_iconst (v := nI 3) hx hb dX7_test_15 (by decide) ?_
  refine k_S (As := [.int (nI t), .int (nI 0), .int (nI 3)]) (rest := []) S hK (c_X7_in l E (nI t) (nI 0) (nI 3)) gX7_test_X7_in rfl hd_X7_in ⟨rfl, rfl⟩ ⟨Nat.le_of_ble_eq_true rfl, Nat.le_of_ble_eq_true rfl⟩ trivial rfl hl.1 rfl (Nat.le_of_ble_eq_true rfl) dX7_test_16 ⟨Nat.le_of_ble_eq_true rfl, Nat.le_of_ble_eq_true rfl⟩ ?_
  refine b_ne (tgt := 28) hx hb dX7_test_19 (by decide) (fun c19 => ?_) (fun h => absurd (in_n (by omega) (by omega) (by decide)) h)
  refine lv_iload_n hx hb dX7_test_28 rfl (lv_at hl 3 rfl) ?_
  refine lv_iconst (v := nI 0) hx hb dX7_test_29 (by decide) ?_
  refine lv_bipush (v := nI 9) hx hb dX7_test_30 (by decide) ?_
  refine k_S (As := [.int y, .int (nI 0), .int (nI 9)]) (rest := []) S hK (c_X7_in l E y (nI 0) (nI 9)) gX7_test_X7_in rfl hd_X7_in ⟨rfl, rfl⟩ ⟨Nat.le_of_ble_eq_true rfl, Nat.le_of_ble_eq_true rfl⟩ trivial rfl hl.1 rfl (Nat.le_of_ble_eq_true rfl) dX7_test_32 ⟨Nat.le_of_ble_eq_true rfl, Nat.le_of_ble_eq_true rfl⟩ ?_
  refine b_ne (tgt := 44) hx hb dX7_test_35 (by decide) (fun h => absurd h h1) (fun c35 => ?_)
  refine lv_aload_n hx hb dX7_test_38 rfl (lv_at hl 0 rfl) ?_
  refine lv_iconst (v := nI 2) hx hb dX7_test_39 (by decide) ?_
  refine k_VM (As := [.int (nI 2)]) (rest := []) S hK (c_X7_fails l E o z (w_th w (nI 0)) (nI 2)) gX7_test_X7_fails rfl hd_X7_fails ⟨rfl, rfl⟩ ⟨Nat.le_of_ble_eq_true rfl, Nat.le_of_ble_eq_true rfl⟩ (k_recv hK hP.1 rfl) hP rfl hl.1 rfl (Nat.le_of_ble_eq_true rfl) dX7_test_40 ⟨Nat.le_of_ble_eq_true rfl, Nat.le_of_ble_eq_true rfl⟩ hS (fun q h => h) (fun q h => h) (fun H locs hQ zH fH hS => ?_)
  have hP := hQ
  exact k_iretM hx hb hr hlk dX7_test_43 hS (show md E o z (w_th w (nI 2)) _ from hP) (rfl)
def rm_X7_test_f4 : Room := { frames := 2, cells := 0, slots := 0, locals := 43 }
set_option maxHeartbeats 4000000 in
set_option maxRecDepth 100000 in
theorem c_X7_test_f4 (l : Launch) (E : ke_E) (o : Nat) (z : Nat → Int32) (w : md_w) (u : Nat) (t : Nat) (y : Int32) (hI : iv z) (hu : u < cn z) (ht : t < 4) (h1 : nI 0 ≤ y ∧ y ≤ nI 9) (h2 : ¬ z (13*u + 68) = 0) : Met l yX7_test wsX7_test rm_X7_test_f4 (kp E [.ref o, .int (nI u), .int (nI t), .int y] (md E o z w)) (qm (some (.int (nI 0))) (bl o 6) (md E o z (w_th w (nI 3)))) 0 0 (bl o 6) := by
  refine k_hd (cc := cX7_test) (maxL := 4) (ret := (some .int)) (by decide) rfl (Nat.le_of_ble_eq_true rfl) ?_
  intro p e s m below meth c ls S hr hlk hnm hK hP hl
  have hx := S.1
  have hb := S.2.1
  have hts := S.2.2.2.2
  have hP : md E o z w s.heap := hP
  have hl : lv_has ls 4 [(0, .ref o), (1, .int (nI u)), (2, .int (nI t)), (3, .int y)] := hl
  have hS : va_S (bl o 6) s.heap s.heap [] := va_S.rf
  have hcn := iv_c hI
  refine lv_aload_n hx hb dX7_test_0 rfl (lv_at hl 0 rfl) ?_
  refine lv_iconst (v := nI 0) hx hb dX7_test_1 (by decide) ?_
  refine md_put (w' := w_th w (nI 0)) S hK hP (fun _ h => List.mem_cons_of_mem _ (List.mem_append_right _ (h))) 6 (by decide) (List.mem_cons_of_mem _ (List.mem_append_left _ (List.mem_append_left _ (List.mem_of_getElem? (i := 0) rfl)))) rfl rfl rfl rfl rfl rfl rfl rfl rfl hS (fun _ h => h) dX7_test_2 (fun H locs hP zH fH hS => ?_)
  refine lv_aload_n hx hb dX7_test_5 rfl (lv_at hl 0 rfl) ?_
  refine lv_iload_n hx hb dX7_test_6 rfl (lv_at hl 1 rfl) ?_
  refine k_V (As := [.int (nI u)]) (rest := []) S hK (c_X7_isUnit l E o z (w_th w (nI 0)) (nI u) hI) gX7_test_X7_isUnit rfl hd_X7_isUnit ⟨rfl, rfl⟩ ⟨Nat.le_of_ble_eq_true rfl, Nat.le_of_ble_eq_true rfl⟩ (k_recv hK hP.1 rfl) hP rfl hl.1 rfl (Nat.le_of_ble_eq_true rfl) dX7_test_7 ⟨Nat.le_of_ble_eq_true rfl, Nat.le_of_ble_eq_true rfl⟩ ?_
  refine b_eq (tgt := 22) hx hb dX7_test_10 (by decide) (fun h => absurd (isU hu (by omega)) h) (fun c10 => ?_)
  refine lv_iload_n hx hb dX7_test_13 rfl (lv_at hl 2 rfl) ?_
  refine lv_iconst (v := nI 0) hx hb dX7_test_14 (by decide) ?_
  refine lv_iconst (v := nI 3) hx hb dX7_test_15 (by decide) ?_
  refine k_S (As := [.int (nI t), .int (nI 0), .int (nI 3)]) (rest := []) S hK (c_X7_in l E (nI t) (nI 0) (nI 3)) gX7_test_X7_in rfl hd_X7_in ⟨rfl, rfl⟩ ⟨Nat.le_of_ble_eq_true rfl, Nat.le_of_ble_eq_true rfl⟩ trivial rfl hl.1 rfl (Nat.le_of_ble_eq_true rfl) dX7_test_16 ⟨Nat.le_of_ble_eq_true rfl, Nat.le_of_ble_eq_true rfl⟩ ?_
  refine b_ne (tgt := 28) hx hb dX7_test_19 (by decide) (fun c19 => ?_) (fun h => absurd (in_n (by omega) (by omega) (by decide)) h)
  refine lv_iload_n hx hb dX7_test_28 rfl (lv_at hl 3 rfl) ?_
  refine lv_iconst (v := nI 0) hx hb dX7_test_29 (by decide) ?_
  refine lv_bipush (v := nI 9) hx hb dX7_test_30 (by decide) ?_
  refine k_S (As := [.int y, .int (nI 0), .int (nI 9)]) (rest := []) S hK (c_X7_in l E y (nI 0) (nI 9)) gX7_test_X7_in rfl hd_X7_in ⟨rfl, rfl⟩ ⟨Nat.le_of_ble_eq_true rfl, Nat.le_of_ble_eq_true rfl⟩ trivial rfl hl.1 rfl (Nat.le_of_ble_eq_true rfl) dX7_test_32 ⟨Nat.le_of_ble_eq_true rfl, Nat.le_of_ble_eq_true rfl⟩ ?_
  refine b_ne (tgt := 44) hx hb dX7_test_35 (by decide) (fun c35 => ?_) (fun h => absurd h1 h)
  refine lv_aload_n hx hb dX7_test_44 rfl (lv_at hl 0 rfl) ?_
  refine k_get S hK hP.1 rfl (fun _ h => List.mem_cons_of_mem _ (List.mem_append_right _ (h))) 0 (by decide) (List.mem_cons_of_mem _ (List.mem_append_left _ (List.mem_append_left _ (List.mem_of_getElem? (i := 1) rfl)))) rfl (v := .ref (o + 1)) rfl dX7_test_45 ?_
  refine lv_iload_n hx hb dX7_test_48 rfl (lv_at hl 1 rfl) ?_
  refine k_S (As := [.int (nI u)]) (rest := [.ref (o + 1)]) S hK (c_X7_at l E u) gX7_test_X7_at rfl hd_X7_at ⟨rfl, rfl⟩ ⟨Nat.le_of_ble_eq_true rfl, Nat.le_of_ble_eq_true rfl⟩ trivial rfl hl.1 rfl (Nat.le_of_ble_eq_true rfl) dX7_test_49 ⟨Nat.le_of_ble_eq_true rfl, Nat.le_of_ble_eq_true rfl⟩ ?_
  refine lv_bipush (v := nI 6) hx hb dX7_test_52 (by decide) ?_
  refine n_iadd (n := 13*u + 68) hx hb dX7_test_54 (by omega) ?_
  refine k_iald hx hb hK hP.2.1 (by omega) (by decide) (v := z (13*u + 68)) rfl dX7_test_55 ?_
  refine lv_if_eq (tgt := 65) hx hb dX7_test_56 (by decide) (fun h => absurd h h2) (fun c56 => ?_)
  refine lv_aload_n hx hb dX7_test_59 rfl (lv_at hl 0 rfl) ?_
  refine lv_iconst (v := nI 3) hx hb dX7_test_60 (by decide) ?_
  refine k_VM (As := [.int (nI 3)]) (rest := []) S hK (c_X7_fails l E o z (w_th w (nI 0)) (nI 3)) gX7_test_X7_fails rfl hd_X7_fails ⟨rfl, rfl⟩ ⟨Nat.le_of_ble_eq_true rfl, Nat.le_of_ble_eq_true rfl⟩ (k_recv hK hP.1 rfl) hP rfl hl.1 rfl (Nat.le_of_ble_eq_true rfl) dX7_test_61 ⟨Nat.le_of_ble_eq_true rfl, Nat.le_of_ble_eq_true rfl⟩ hS (fun q h => h) (fun q h => h) (fun H locs hQ zH fH hS => ?_)
  have hP := hQ
  exact k_iretM hx hb hr hlk dX7_test_64 hS (show md E o z (w_th w (nI 3)) _ from hP) (rfl)
def rm_X7_test : Room := { frames := 4, cells := 0, slots := 0, locals := 90 }
set_option maxHeartbeats 4000000 in
set_option maxRecDepth 100000 in
theorem c_X7_test (l : Launch) (E : ke_E) (o : Nat) (z : Nat → Int32) (w : md_w) (u : Nat) (t : Nat) (y : Int32) (sn : Nat) (hI : iv z) (hu : u < cn z) (ht : t < 4) (h1 : nI 0 ≤ y ∧ y ≤ nI 9) (h2 : z (13*u + 68) = 0) (hs : q_sm w = nI sn) (hn : sn ≤ 6) : Met l yX7_test wsX7_test rm_X7_test (kp E [.ref o, .int (nI u), .int (nI t), .int y] (md E o z w)) (qm (some (.int (grT (teZ z u t y) u))) (bl o 6) (md E o (teZ z u t y) (svW z (w_th w (nI 0)) sn))) 0 0 (bl o 6) := by
  refine k_hd (cc := cX7_test) (maxL := 4) (ret := (some .int)) (by decide) rfl (Nat.le_of_ble_eq_true rfl) ?_
  intro p e s m below meth c ls S hr hlk hnm hK hP hl
  have hx := S.1
  have hb := S.2.1
  have hts := S.2.2.2.2
  have hP : md E o z w s.heap := hP
  have hl : lv_has ls 4 [(0, .ref o), (1, .int (nI u)), (2, .int (nI t)), (3, .int y)] := hl
  have hS : va_S (bl o 6) s.heap s.heap [] := va_S.rf
  have hcn := iv_c hI
  refine lv_aload_n hx hb dX7_test_0 rfl (lv_at hl 0 rfl) ?_
  refine lv_iconst (v := nI 0) hx hb dX7_test_1 (by decide) ?_
  refine md_put (w' := w_th w (nI 0)) S hK hP (fun _ h => List.mem_cons_of_mem _ (List.mem_append_right _ (h))) 6 (by decide) (List.mem_cons_of_mem _ (List.mem_append_left _ (List.mem_append_left _ (List.mem_of_getElem? (i := 0) rfl)))) rfl rfl rfl rfl rfl rfl rfl rfl rfl hS (fun _ h => h) dX7_test_2 (fun H locs hP zH fH hS => ?_)
  refine lv_aload_n hx hb dX7_test_5 rfl (lv_at hl 0 rfl) ?_
  refine lv_iload_n hx hb dX7_test_6 rfl (lv_at hl 1 rfl) ?_
  refine k_V (As := [.int (nI u)]) (rest := []) S hK (c_X7_isUnit l E o z (w_th w (nI 0)) (nI u) hI) gX7_test_X7_isUnit rfl hd_X7_isUnit ⟨rfl, rfl⟩ ⟨Nat.le_of_ble_eq_true rfl, Nat.le_of_ble_eq_true rfl⟩ (k_recv hK hP.1 rfl) hP rfl hl.1 rfl (Nat.le_of_ble_eq_true rfl) dX7_test_7 ⟨Nat.le_of_ble_eq_true rfl, Nat.le_of_ble_eq_true rfl⟩ ?_
  refine b_eq (tgt := 22) hx hb dX7_test_10 (by decide) (fun h => absurd (isU hu (by omega)) h) (fun c10 => ?_)
  refine lv_iload_n hx hb dX7_test_13 rfl (lv_at hl 2 rfl) ?_
  refine lv_iconst (v := nI 0) hx hb dX7_test_14 (by decide) ?_
  refine lv_iconst (v := nI 3) hx hb dX7_test_15 (by decide) ?_
  refine k_S (As := [.int (nI t), .int (nI 0), .int (nI 3)]) (rest := []) S hK (c_X7_in l E (nI t) (nI 0) (nI 3)) gX7_test_X7_in rfl hd_X7_in ⟨rfl, rfl⟩ ⟨Nat.le_of_ble_eq_true rfl, Nat.le_of_ble_eq_true rfl⟩ trivial rfl hl.1 rfl (Nat.le_of_ble_eq_true rfl) dX7_test_16 ⟨Nat.le_of_ble_eq_true rfl, Nat.le_of_ble_eq_true rfl⟩ ?_
  refine b_ne (tgt := 28) hx hb dX7_test_19 (by decide) (fun c19 => ?_) (fun h => absurd (in_n (by omega) (by omega) (by decide)) h)
  refine lv_iload_n hx hb dX7_test_28 rfl (lv_at hl 3 rfl) ?_
  refine lv_iconst (v := nI 0) hx hb dX7_test_29 (by decide) ?_
  refine lv_bipush (v := nI 9) hx hb dX7_test_30 (by decide) ?_
  refine k_S (As := [.int y, .int (nI 0), .int (nI 9)]) (rest := []) S hK (c_X7_in l E y (nI 0) (nI 9)) gX7_test_X7_in rfl hd_X7_in ⟨rfl, rfl⟩ ⟨Nat.le_of_ble_eq_true rfl, Nat.le_of_ble_eq_true rfl⟩ trivial rfl hl.1 rfl (Nat.le_of_ble_eq_true rfl) dX7_test_32 ⟨Nat.le_of_ble_eq_true rfl, Nat.le_of_ble_eq_true rfl⟩ ?_
  refine b_ne (tgt := 44) hx hb dX7_test_35 (by decide) (fun c35 => ?_) (fun h => absurd h1 h)
  refine lv_aload_n hx hb dX7_test_44 rfl (lv_at hl 0 rfl) ?_
  refine k_get S hK hP.1 rfl (fun _ h => List.mem_cons_of_mem _ (List.mem_append_right _ (h))) 0 (by decide) (List.mem_cons_of_mem _ (List.mem_append_left _ (List.mem_append_left _ (List.mem_of_getElem? (i := 1) rfl)))) rfl (v := .ref (o + 1)) rfl dX7_test_45 ?_
  refine lv_iload_n hx hb dX7_test_48 rfl (lv_at hl 1 rfl) ?_
  refine k_S (As := [.int (nI u)]) (rest := [.ref (o + 1)]) S hK (c_X7_at l E u) gX7_test_X7_at rfl hd_X7_at ⟨rfl, rfl⟩ ⟨Nat.le_of_ble_eq_true rfl, Nat.le_of_ble_eq_true rfl⟩ trivial rfl hl.1 rfl (Nat.le_of_ble_eq_true rfl) dX7_test_49 ⟨Nat.le_of_ble_eq_true rfl, Nat.le_of_ble_eq_true rfl⟩ ?_
  refine lv_bipush (v := nI 6) hx hb dX7_test_52 (by decide) ?_
  refine n_iadd (n := 13*u + 68) hx hb dX7_test_54 (by omega) ?_
  refine k_iald hx hb hK hP.2.1 (by omega) (by decide) (v := z (13*u + 68)) rfl dX7_test_55 ?_
  refine lv_if_eq (tgt := 65) hx hb dX7_test_56 (by decide) (fun c56 => ?_) (fun h => absurd h2 h)
  refine lv_aload_n hx hb dX7_test_65 rfl (lv_at hl 0 rfl) ?_
  refine k_VM (As := []) (rest := []) S hK (c_X7_save l E o z (w_th w (nI 0)) sn hs hn) gX7_test_X7_save rfl hd_X7_save ⟨rfl, rfl⟩ ⟨Nat.le_of_ble_eq_true rfl, Nat.le_of_ble_eq_true rfl⟩ (k_recv hK hP.1 rfl) hP rfl hl.1 rfl (Nat.le_of_ble_eq_true rfl) dX7_test_66 ⟨Nat.le_of_ble_eq_true rfl, Nat.le_of_ble_eq_true rfl⟩ hS (fun q h => h) (fun q h => h) (fun H locs hQ zH fH hS => ?_)
  have hP := hQ
  refine lv_aload_n hx hb dX7_test_69 rfl (lv_at hl 0 rfl) ?_
  refine k_get S hK hP.1 rfl (fun _ h => List.mem_cons_of_mem _ (List.mem_append_right _ (h))) 0 (by decide) (List.mem_cons_of_mem _ (List.mem_append_left _ (List.mem_append_left _ (List.mem_of_getElem? (i := 1) rfl)))) rfl (v := .ref (o + 1)) rfl dX7_test_70 ?_
  refine lv_iload_n hx hb dX7_test_73 rfl (lv_at hl 1 rfl) ?_
  refine k_S (As := [.int (nI u)]) (rest := [.ref (o + 1)]) S hK (c_X7_at l E u) gX7_test_X7_at rfl hd_X7_at ⟨rfl, rfl⟩ ⟨Nat.le_of_ble_eq_true rfl, Nat.le_of_ble_eq_true rfl⟩ trivial rfl hl.1 rfl (Nat.le_of_ble_eq_true rfl) dX7_test_74 ⟨Nat.le_of_ble_eq_true rfl, Nat.le_of_ble_eq_true rfl⟩ ?_
  refine lv_iconst (v := nI 2) hx hb dX7_test_77 (by decide) ?_
  refine n_iadd (n := 13*u + 64) hx hb dX7_test_78 (by omega) ?_
  refine lv_iload_n hx hb dX7_test_79 rfl (lv_at hl 2 rfl) ?_
  refine n_iadd (n := 13*u + t + 64) hx hb dX7_test_80 (by omega) ?_
  refine lv_iload_n hx hb dX7_test_81 rfl (lv_at hl 3 rfl) ?_
  refine md_ast_z hx hb hK hP (by omega) hS (fun _ h => h) dX7_test_82 (fun H locs hP zH fH hS => ?_)
  refine lv_aload_n hx hb dX7_test_83 rfl (lv_at hl 0 rfl) ?_
  refine lv_iload_n hx hb dX7_test_84 rfl (lv_at hl 1 rfl) ?_
  refine k_V (As := [.int (nI u)]) (rest := []) S hK (c_X7_gradeTold l E o (upd z (13*u + t + 64) y) (svW z (w_th w (nI 0)) sn) u (iv_te9 hI ht h1) (by rw [cn_u (by omega)]; exact hu)) gX7_test_X7_gradeTold rfl hd_X7_gradeTold ⟨rfl, rfl⟩ ⟨Nat.le_of_ble_eq_true rfl, Nat.le_of_ble_eq_true rfl⟩ (k_recv hK hP.1 rfl) hP rfl hl.1 rfl (Nat.le_of_ble_eq_true rfl) dX7_test_85 ⟨Nat.le_of_ble_eq_true rfl, Nat.le_of_ble_eq_true rfl⟩ ?_
  exact k_iretM hx hb hr hlk dX7_test_88 hS (show md E o (teZ z u t y) (svW z (w_th w (nI 0)) sn) _ from hP) (rfl)
def rm_X7_send_f1 : Room := { frames := 2, cells := 0, slots := 0, locals := 43 }
theorem hd_X7_send : k_hd1 yX7_send RX7 2 := by decide +kernel
set_option maxHeartbeats 4000000 in
set_option maxRecDepth 100000 in
theorem c_X7_send_f1 (l : Launch) (E : ke_E) (o : Nat) (z : Nat → Int32) (w : md_w) (x : Int32) (y : Int32) (hI : iv z) (h1 : ¬ inR x (cn z)) : Met l yX7_send wsX7_send rm_X7_send_f1 (kp E [.ref o, .int x, .int y] (md E o z w)) (qm (some (.int (nI 0))) (bl o 6) (md E o z (w_th w (nI 1)))) 0 0 (bl o 6) := by
  refine k_hd (cc := cX7_send) (maxL := 4) (ret := (some .int)) (by decide) rfl (Nat.le_of_ble_eq_true rfl) ?_
  intro p e s m below meth c ls S hr hlk hnm hK hP hl
  have hx := S.1
  have hb := S.2.1
  have hts := S.2.2.2.2
  have hP : md E o z w s.heap := hP
  have hl : lv_has ls 4 [(0, .ref o), (1, .int x), (2, .int y)] := hl
  have hS : va_S (bl o 6) s.heap s.heap [] := va_S.rf
  have hcn := iv_c hI
  refine lv_aload_n hx hb dX7_send_0 rfl (lv_at hl 0 rfl) ?_
  refine lv_iconst (v := nI 0) hx hb dX7_send_1 (by decide) ?_
  refine md_put (w' := w_th w (nI 0)) S hK hP (fun _ h => List.mem_cons_of_mem _ (List.mem_append_right _ (h))) 6 (by decide) (List.mem_cons_of_mem _ (List.mem_append_left _ (List.mem_append_left _ (List.mem_of_getElem? (i := 0) rfl)))) rfl rfl rfl rfl rfl rfl rfl rfl rfl hS (fun _ h => h) dX7_send_2 (fun H locs hP zH fH hS => ?_)
  refine lv_aload_n hx hb dX7_send_5 rfl (lv_at hl 0 rfl) ?_
  refine lv_iload_n hx hb dX7_send_6 rfl (lv_at hl 1 rfl) ?_
  refine k_V (As := [.int x]) (rest := []) S hK (c_X7_isUnit l E o z (w_th w (nI 0)) x hI) gX7_send_X7_isUnit rfl hd_X7_isUnit ⟨rfl, rfl⟩ ⟨Nat.le_of_ble_eq_true rfl, Nat.le_of_ble_eq_true rfl⟩ (k_recv hK hP.1 rfl) hP rfl hl.1 rfl (Nat.le_of_ble_eq_true rfl) dX7_send_7 ⟨Nat.le_of_ble_eq_true rfl, Nat.le_of_ble_eq_true rfl⟩ ?_
  refine b_ne (tgt := 19) hx hb dX7_send_10 (by decide) (fun h => absurd h (fun q => h1 ((isU_iff (by omega)).mp q))) (fun c10 => ?_)
  refine lv_aload_n hx hb dX7_send_13 rfl (lv_at hl 0 rfl) ?_
  refine lv_iconst (v := nI 1) hx hb dX7_send_14 (by decide) ?_
  refine k_VM (As := [.int (nI 1)]) (rest := []) S hK (c_X7_fails l E o z (w_th w (nI 0)) (nI 1)) gX7_send_X7_fails rfl hd_X7_fails ⟨rfl, rfl⟩ ⟨Nat.le_of_ble_eq_true rfl, Nat.le_of_ble_eq_true rfl⟩ (k_recv hK hP.1 rfl) hP rfl hl.1 rfl (Nat.le_of_ble_eq_true rfl) dX7_send_15 ⟨Nat.le_of_ble_eq_true rfl, Nat.le_of_ble_eq_true rfl⟩ hS (fun q h => h) (fun q h => h) (fun H locs hQ zH fH hS => ?_)
  have hP := hQ
  exact k_iretM hx hb hr hlk dX7_send_18 hS (show md E o z (w_th w (nI 1)) _ from hP) (rfl)
def rm_X7_send_f2 : Room := { frames := 2, cells := 0, slots := 0, locals := 43 }
set_option maxHeartbeats 4000000 in
set_option maxRecDepth 100000 in
theorem c_X7_send_f2 (l : Launch) (E : ke_E) (o : Nat) (z : Nat → Int32) (w : md_w) (u : Nat) (y : Int32) (hI : iv z) (hu : u < cn z) (h1 : ¬ (nI 1 ≤ y ∧ y ≤ nI 4)) : Met l yX7_send wsX7_send rm_X7_send_f2 (kp E [.ref o, .int (nI u), .int y] (md E o z w)) (qm (some (.int (nI 0))) (bl o 6) (md E o z (w_th w (nI 2)))) 0 0 (bl o 6) := by
  refine k_hd (cc := cX7_send) (maxL := 4) (ret := (some .int)) (by decide) rfl (Nat.le_of_ble_eq_true rfl) ?_
  intro p e s m below meth c ls S hr hlk hnm hK hP hl
  have hx := S.1
  have hb := S.2.1
  have hts := S.2.2.2.2
  have hP : md E o z w s.heap := hP
  have hl : lv_has ls 4 [(0, .ref o), (1, .int (nI u)), (2, .int y)] := hl
  have hS : va_S (bl o 6) s.heap s.heap [] := va_S.rf
  have hcn := iv_c hI
  refine lv_aload_n hx hb dX7_send_0 rfl (lv_at hl 0 rfl) ?_
  refine lv_iconst (v := nI 0) hx hb dX7_send_1 (by decide) ?_
  refine md_put (w' := w_th w (nI 0)) S hK hP (fun _ h => List.mem_cons_of_mem _ (List.mem_append_right _ (h))) 6 (by decide) (List.mem_cons_of_mem _ (List.mem_append_left _ (List.mem_append_left _ (List.mem_of_getElem? (i := 0) rfl)))) rfl rfl rfl rfl rfl rfl rfl rfl rfl hS (fun _ h => h) dX7_send_2 (fun H locs hP zH fH hS => ?_)
  refine lv_aload_n hx hb dX7_send_5 rfl (lv_at hl 0 rfl) ?_
  refine lv_iload_n hx hb dX7_send_6 rfl (lv_at hl 1 rfl) ?_
  refine k_V (As := [.int (nI u)]) (rest := []) S hK (c_X7_isUnit l E o z (w_th w (nI 0)) (nI u) hI) gX7_send_X7_isUnit rfl hd_X7_isUnit ⟨rfl, rfl⟩ ⟨Nat.le_of_ble_eq_true rfl, Nat.le_of_ble_eq_true rfl⟩ (k_recv hK hP.1 rfl) hP rfl hl.1 rfl (Nat.le_of_ble_eq_true rfl) dX7_send_7 ⟨Nat.le_of_ble_eq_true rfl, Nat.le_of_ble_eq_true rfl⟩ ?_
  refine b_ne (tgt := 19) hx hb dX7_send_10 (by decide) (fun c10 => ?_) (fun h => absurd (isU hu (by omega)) h)
  refine lv_iload_n hx hb dX7_send_19 rfl (lv_at hl 2 rfl) ?_
  refine lv_iconst (v := nI 1) hx hb dX7_send_20 (by decide) ?_
  refine lv_iconst (v := nI 4) hx hb dX7_send_21 (by decide) ?_
  refine k_S (As := [.int y, .int (nI 1), .int (nI 4)]) (rest := []) S hK (c_X7_in l E y (nI 1) (nI 4)) gX7_send_X7_in rfl hd_X7_in ⟨rfl, rfl⟩ ⟨Nat.le_of_ble_eq_true rfl, Nat.le_of_ble_eq_true rfl⟩ trivial rfl hl.1 rfl (Nat.le_of_ble_eq_true rfl) dX7_send_22 ⟨Nat.le_of_ble_eq_true rfl, Nat.le_of_ble_eq_true rfl⟩ ?_
  refine b_ne (tgt := 34) hx hb dX7_send_25 (by decide) (fun h => absurd h h1) (fun c25 => ?_)
  refine lv_aload_n hx hb dX7_send_28 rfl (lv_at hl 0 rfl) ?_
  refine lv_iconst (v := nI 2) hx hb dX7_send_29 (by decide) ?_
  refine k_VM (As := [.int (nI 2)]) (rest := []) S hK (c_X7_fails l E o z (w_th w (nI 0)) (nI 2)) gX7_send_X7_fails rfl hd_X7_fails ⟨rfl, rfl⟩ ⟨Nat.le_of_ble_eq_true rfl, Nat.le_of_ble_eq_true rfl⟩ (k_recv hK hP.1 rfl) hP rfl hl.1 rfl (Nat.le_of_ble_eq_true rfl) dX7_send_30 ⟨Nat.le_of_ble_eq_true rfl, Nat.le_of_ble_eq_true rfl⟩ hS (fun q h => h) (fun q h => h) (fun H locs hQ zH fH hS => ?_)
  have hP := hQ
  exact k_iretM hx hb hr hlk dX7_send_33 hS (show md E o z (w_th w (nI 2)) _ from hP) (rfl)
def rm_X7_send_f3_1 : Room := { frames := 4, cells := 0, slots := 0, locals := 92 }
set_option maxHeartbeats 4000000 in
set_option maxRecDepth 100000 in
theorem c_X7_send_f3_1 (l : Launch) (E : ke_E) (o : Nat) (z : Nat → Int32) (w : md_w) (u : Nat) (hI : iv z) (hu : u < cn z) (h1 : ¬ wy1 z u = 0) : Met l yX7_send wsX7_send rm_X7_send_f3_1 (kp E [.ref o, .int (nI u), .int (nI 1)] (md E o z w)) (qm (some (.int (nI 0))) (bl o 6) (md E o z (w_th w (nI 3)))) 0 0 (bl o 6) := by
  refine k_hd (cc := cX7_send) (maxL := 4) (ret := (some .int)) (by decide) rfl (Nat.le_of_ble_eq_true rfl) ?_
  intro p e s m below meth c ls S hr hlk hnm hK hP hl
  have hx := S.1
  have hb := S.2.1
  have hts := S.2.2.2.2
  have hP : md E o z w s.heap := hP
  have hl : lv_has ls 4 [(0, .ref o), (1, .int (nI u)), (2, .int (nI 1))] := hl
  have hS : va_S (bl o 6) s.heap s.heap [] := va_S.rf
  have hcn := iv_c hI
  refine lv_aload_n hx hb dX7_send_0 rfl (lv_at hl 0 rfl) ?_
  refine lv_iconst (v := nI 0) hx hb dX7_send_1 (by decide) ?_
  refine md_put (w' := w_th w (nI 0)) S hK hP (fun _ h => List.mem_cons_of_mem _ (List.mem_append_right _ (h))) 6 (by decide) (List.mem_cons_of_mem _ (List.mem_append_left _ (List.mem_append_left _ (List.mem_of_getElem? (i := 0) rfl)))) rfl rfl rfl rfl rfl rfl rfl rfl rfl hS (fun _ h => h) dX7_send_2 (fun H locs hP zH fH hS => ?_)
  refine lv_aload_n hx hb dX7_send_5 rfl (lv_at hl 0 rfl) ?_
  refine lv_iload_n hx hb dX7_send_6 rfl (lv_at hl 1 rfl) ?_
  refine k_V (As := [.int (nI u)]) (rest := []) S hK (c_X7_isUnit l E o z (w_th w (nI 0)) (nI u) hI) gX7_send_X7_isUnit rfl hd_X7_isUnit ⟨rfl, rfl⟩ ⟨Nat.le_of_ble_eq_true rfl, Nat.le_of_ble_eq_true rfl⟩ (k_recv hK hP.1 rfl) hP rfl hl.1 rfl (Nat.le_of_ble_eq_true rfl) dX7_send_7 ⟨Nat.le_of_ble_eq_true rfl, Nat.le_of_ble_eq_true rfl⟩ ?_
  refine b_ne (tgt := 19) hx hb dX7_send_10 (by decide) (fun c10 => ?_) (fun h => absurd (isU hu (by omega)) h)
  refine lv_iload_n hx hb dX7_send_19 rfl (lv_at hl 2 rfl) ?_
  refine lv_iconst (v := nI 1) hx hb dX7_send_20 (by decide) ?_
  refine lv_iconst (v := nI 4) hx hb dX7_send_21 (by decide) ?_
  refine k_S (As := [.int (nI 1), .int (nI 1), .int (nI 4)]) (rest := []) S hK (c_X7_in l E (nI 1) (nI 1) (nI 4)) gX7_send_X7_in rfl hd_X7_in ⟨rfl, rfl⟩ ⟨Nat.le_of_ble_eq_true rfl, Nat.le_of_ble_eq_true rfl⟩ trivial rfl hl.1 rfl (Nat.le_of_ble_eq_true rfl) dX7_send_22 ⟨Nat.le_of_ble_eq_true rfl, Nat.le_of_ble_eq_true rfl⟩ ?_
  refine b_ne (tgt := 34) hx hb dX7_send_25 (by decide) (fun c25 => ?_) (fun h => absurd (in_n (by decide) (by decide) (by decide)) h)
  refine lv_aload_n hx hb dX7_send_34 rfl (lv_at hl 0 rfl) ?_
  refine lv_iload_n hx hb dX7_send_35 rfl (lv_at hl 1 rfl) ?_
  refine lv_iload_n hx hb dX7_send_36 rfl (lv_at hl 2 rfl) ?_
  refine k_V (As := [.int (nI u), .int (nI 1)]) (rest := []) S hK (c_X7_why_1 l E o z (w_th w (nI 0)) u hI hu) gX7_send_X7_why rfl hd_X7_why ⟨rfl, rfl⟩ ⟨Nat.le_of_ble_eq_true rfl, Nat.le_of_ble_eq_true rfl⟩ (k_recv hK hP.1 rfl) hP rfl hl.1 rfl (Nat.le_of_ble_eq_true rfl) dX7_send_37 ⟨Nat.le_of_ble_eq_true rfl, Nat.le_of_ble_eq_true rfl⟩ ?_
  refine lv_if_eq (tgt := 49) hx hb dX7_send_40 (by decide) (fun h => absurd h h1) (fun c40 => ?_)
  refine lv_aload_n hx hb dX7_send_43 rfl (lv_at hl 0 rfl) ?_
  refine lv_iconst (v := nI 3) hx hb dX7_send_44 (by decide) ?_
  refine k_VM (As := [.int (nI 3)]) (rest := []) S hK (c_X7_fails l E o z (w_th w (nI 0)) (nI 3)) gX7_send_X7_fails rfl hd_X7_fails ⟨rfl, rfl⟩ ⟨Nat.le_of_ble_eq_true rfl, Nat.le_of_ble_eq_true rfl⟩ (k_recv hK hP.1 rfl) hP rfl hl.1 rfl (Nat.le_of_ble_eq_true rfl) dX7_send_45 ⟨Nat.le_of_ble_eq_true rfl, Nat.le_of_ble_eq_true rfl⟩ hS (fun q h => h) (fun q h => h) (fun H locs hQ zH fH hS => ?_)
  have hP := hQ
  exact k_iretM hx hb hr hlk dX7_send_48 hS (show md E o z (w_th w (nI 3)) _ from hP) (rfl)
def rm_X7_send_1 : Room := { frames := 4, cells := 0, slots := 0, locals := 92 }
set_option maxHeartbeats 4000000 in
set_option maxRecDepth 100000 in
theorem c_X7_send_1 (l : Launch) (E : ke_E) (o : Nat) (z : Nat → Int32) (w : md_w) (u : Nat) (sn : Nat) (hI : iv z) (hu : u < cn z) (h1 : wy1 z u = 0) (hs : q_sm w = nI sn) (hn : sn ≤ 6) : Met l yX7_send wsX7_send rm_X7_send_1 (kp E [.ref o, .int (nI u), .int (nI 1)] (md E o z w)) (qm (some (.int (brg z u 1))) (bl o 6) (md E o (sdZ z u 1) (svW z (w_th w (nI 0)) sn))) 0 0 (bl o 6) := by
  refine k_hd (cc := cX7_send) (maxL := 4) (ret := (some .int)) (by decide) rfl (Nat.le_of_ble_eq_true rfl) ?_
  intro p e s m below meth c ls S hr hlk hnm hK hP hl
  have hx := S.1
  have hb := S.2.1
  have hts := S.2.2.2.2
  have hP : md E o z w s.heap := hP
  have hl : lv_has ls 4 [(0, .ref o), (1, .int (nI u)), (2, .int (nI 1))] := hl
  have hS : va_S (bl o 6) s.heap s.heap [] := va_S.rf
  have hcn := iv_c hI
  have ht1 : 1 = 1 → tst z u := fun _ => wy1_t h1
  have hpv4 := iv_pvl hI (iv_upl hI hu)
  refine lv_aload_n hx hb dX7_send_0 rfl (lv_at hl 0 rfl) ?_
  refine lv_iconst (v := nI 0) hx hb dX7_send_1 (by decide) ?_
  refine md_put (w' := w_th w (nI 0)) S hK hP (fun _ h => List.mem_cons_of_mem _ (List.mem_append_right _ (h))) 6 (by decide) (List.mem_cons_of_mem _ (List.mem_append_left _ (List.mem_append_left _ (List.mem_of_getElem? (i := 0) rfl)))) rfl rfl rfl rfl rfl rfl rfl rfl rfl hS (fun _ h => h) dX7_send_2 (fun H locs hP zH fH hS => ?_)
  refine lv_aload_n hx hb dX7_send_5 rfl (lv_at hl 0 rfl) ?_
  refine lv_iload_n hx hb dX7_send_6 rfl (lv_at hl 1 rfl) ?_
  refine k_V (As := [.int (nI u)]) (rest := []) S hK (c_X7_isUnit l E o z (w_th w (nI 0)) (nI u) hI) gX7_send_X7_isUnit rfl hd_X7_isUnit ⟨rfl, rfl⟩ ⟨Nat.le_of_ble_eq_true rfl, Nat.le_of_ble_eq_true rfl⟩ (k_recv hK hP.1 rfl) hP rfl hl.1 rfl (Nat.le_of_ble_eq_true rfl) dX7_send_7 ⟨Nat.le_of_ble_eq_true rfl, Nat.le_of_ble_eq_true rfl⟩ ?_
  refine b_ne (tgt := 19) hx hb dX7_send_10 (by decide) (fun c10 => ?_) (fun h => absurd (isU hu (by omega)) h)
  refine lv_iload_n hx hb dX7_send_19 rfl (lv_at hl 2 rfl) ?_
  refine lv_iconst (v := nI 1) hx hb dX7_send_20 (by decide) ?_
  refine lv_iconst (v := nI 4) hx hb dX7_send_21 (by decide) ?_
  refine k_S (As := [.int (nI 1), .int (nI 1), .int (nI 4)]) (rest := []) S hK (c_X7_in l E (nI 1) (nI 1) (nI 4)) gX7_send_X7_in rfl hd_X7_in ⟨rfl, rfl⟩ ⟨Nat.le_of_ble_eq_true rfl, Nat.le_of_ble_eq_true rfl⟩ trivial rfl hl.1 rfl (Nat.le_of_ble_eq_true rfl) dX7_send_22 ⟨Nat.le_of_ble_eq_true rfl, Nat.le_of_ble_eq_true rfl⟩ ?_
  refine b_ne (tgt := 34) hx hb dX7_send_25 (by decide) (fun c25 => ?_) (fun h => absurd (in_n (by decide) (by decide) (by decide)) h)
  refine lv_aload_n hx hb dX7_send_34 rfl (lv_at hl 0 rfl) ?_
  refine lv_iload_n hx hb dX7_send_35 rfl (lv_at hl 1 rfl) ?_
  refine lv_iload_n hx hb dX7_send_36 rfl (lv_at hl 2 rfl) ?_
  refine k_V (As := [.int (nI u), .int (nI 1)]) (rest := []) S hK (c_X7_why_1 l E o z (w_th w (nI 0)) u hI hu) gX7_send_X7_why rfl hd_X7_why ⟨rfl, rfl⟩ ⟨Nat.le_of_ble_eq_true rfl, Nat.le_of_ble_eq_true rfl⟩ (k_recv hK hP.1 rfl) hP rfl hl.1 rfl (Nat.le_of_ble_eq_true rfl) dX7_send_37 ⟨Nat.le_of_ble_eq_true rfl, Nat.le_of_ble_eq_true rfl⟩ ?_
  refine lv_if_eq (tgt := 49) hx hb dX7_send_40 (by decide) (fun c40 => ?_) (fun h => absurd h1 h)
  refine lv_aload_n hx hb dX7_send_49 rfl (lv_at hl 0 rfl) ?_
  refine k_VM (As := []) (rest := []) S hK (c_X7_save l E o z (w_th w (nI 0)) sn hs hn) gX7_send_X7_save rfl hd_X7_save ⟨rfl, rfl⟩ ⟨Nat.le_of_ble_eq_true rfl, Nat.le_of_ble_eq_true rfl⟩ (k_recv hK hP.1 rfl) hP rfl hl.1 rfl (Nat.le_of_ble_eq_true rfl) dX7_send_50 ⟨Nat.le_of_ble_eq_true rfl, Nat.le_of_ble_eq_true rfl⟩ hS (fun q h => h) (fun q h => h) (fun H locs hQ zH fH hS => ?_)
  have hP := hQ
  refine lv_aload_n hx hb dX7_send_53 rfl (lv_at hl 0 rfl) ?_
  refine lv_iload_n hx hb dX7_send_54 rfl (lv_at hl 1 rfl) ?_
  refine lv_iload_n hx hb dX7_send_55 rfl (lv_at hl 2 rfl) ?_
  refine k_V (As := [.int (nI u), .int (nI 1)]) (rest := []) S hK (c_X7_brings l E o z (svW z (w_th w (nI 0)) sn) u 1 hI hu (by omega)) gX7_send_X7_brings rfl hd_X7_brings ⟨rfl, rfl⟩ ⟨Nat.le_of_ble_eq_true rfl, Nat.le_of_ble_eq_true rfl⟩ (k_recv hK hP.1 rfl) hP rfl hl.1 rfl (Nat.le_of_ble_eq_true rfl) dX7_send_56 ⟨Nat.le_of_ble_eq_true rfl, Nat.le_of_ble_eq_true rfl⟩ ?_
  refine lv_istore_n (lv' := [(3, .int (brg z u 1)), (0, .ref o), (1, .int (nI u)), (2, .int (nI 1))]) hx hb dX7_send_59 rfl hl (by decide) rfl (fun ls hl => ?_)
  refine lv_aload_n hx hb dX7_send_60 rfl (lv_at hl 1 rfl) ?_
  refine k_get S hK hP.1 rfl (fun _ h => List.mem_cons_of_mem _ (List.mem_append_right _ (h))) 0 (by decide) (List.mem_cons_of_mem _ (List.mem_append_left _ (List.mem_append_left _ (List.mem_of_getElem? (i := 1) rfl)))) rfl (v := .ref (o + 1)) rfl dX7_send_61 ?_
  refine lv_iload_n hx hb dX7_send_64 rfl (lv_at hl 2 rfl) ?_
  refine k_S (As := [.int (nI u)]) (rest := [.ref (o + 1)]) S hK (c_X7_at l E u) gX7_send_X7_at rfl hd_X7_at ⟨rfl, rfl⟩ ⟨Nat.le_of_ble_eq_true rfl, Nat.le_of_ble_eq_true rfl⟩ trivial rfl hl.1 rfl (Nat.le_of_ble_eq_true rfl) dX7_send_65 ⟨Nat.le_of_ble_eq_true rfl, Nat.le_of_ble_eq_true rfl⟩ ?_
  refine lv_bipush (v := nI 6) hx hb dX7_send_68 (by decide) ?_
  refine n_iadd (n := 13*u + 68) hx hb dX7_send_70 (by omega) ?_
  refine lv_iload_n hx hb dX7_send_71 rfl (lv_at hl 3 rfl) ?_
  refine md_ast_z hx hb hK hP (by omega) hS (fun _ h => h) dX7_send_72 (fun H locs hP zH fH hS => ?_)
  refine lv_aload_n hx hb dX7_send_73 rfl (lv_at hl 1 rfl) ?_
  refine k_get S hK hP.1 rfl (fun _ h => List.mem_cons_of_mem _ (List.mem_append_right _ (h))) 0 (by decide) (List.mem_cons_of_mem _ (List.mem_append_left _ (List.mem_append_left _ (List.mem_of_getElem? (i := 1) rfl)))) rfl (v := .ref (o + 1)) rfl dX7_send_74 ?_
  refine lv_iload_n hx hb dX7_send_77 rfl (lv_at hl 2 rfl) ?_
  refine k_S (As := [.int (nI u)]) (rest := [.ref (o + 1)]) S hK (c_X7_at l E u) gX7_send_X7_at rfl hd_X7_at ⟨rfl, rfl⟩ ⟨Nat.le_of_ble_eq_true rfl, Nat.le_of_ble_eq_true rfl⟩ trivial rfl hl.1 rfl (Nat.le_of_ble_eq_true rfl) dX7_send_78 ⟨Nat.le_of_ble_eq_true rfl, Nat.le_of_ble_eq_true rfl⟩ ?_
  refine lv_bipush (v := nI 7) hx hb dX7_send_81 (by decide) ?_
  refine n_iadd (n := 13*u + 69) hx hb dX7_send_83 (by omega) ?_
  refine lv_dup2_11 hx hb dX7_send_84 rfl rfl ?_
  refine k_iald hx hb hK hP.2.1 (by omega) (by decide) (v := z (13*u + 69)) ((upd_n (by omega)).trans (rfl)) dX7_send_85 ?_
  refine lv_iload_n hx hb dX7_send_86 rfl (lv_at hl 3 rfl) ?_
  refine lv_iconst (v := nI 1) hx hb dX7_send_87 (by decide) ?_
  refine n_ine (tgt := 95) hx hb dX7_send_88 (by decide) (by omega) (by omega) (fun h => absurd h (by decide)) (fun c88 => ?_)
  refine lv_iconst (v := nI 1) hx hb dX7_send_91 (by decide) ?_
  refine lv_goto (tgt := 96) hx hb dX7_send_92 (by decide) ?_
  refine lv_iadd hx hb dX7_send_96 ?_
  refine md_ast_z hx hb hK hP (by omega) hS (fun _ h => h) dX7_send_97 (fun H locs hP zH fH hS => ?_)
  refine lv_aload_n hx hb dX7_send_98 rfl (lv_at hl 1 rfl) ?_
  refine k_get S hK hP.1 rfl (fun _ h => List.mem_cons_of_mem _ (List.mem_append_right _ (h))) 0 (by decide) (List.mem_cons_of_mem _ (List.mem_append_left _ (List.mem_append_left _ (List.mem_of_getElem? (i := 1) rfl)))) rfl (v := .ref (o + 1)) rfl dX7_send_99 ?_
  refine lv_iload_n hx hb dX7_send_102 rfl (lv_at hl 2 rfl) ?_
  refine k_S (As := [.int (nI u)]) (rest := [.ref (o + 1)]) S hK (c_X7_at l E u) gX7_send_X7_at rfl hd_X7_at ⟨rfl, rfl⟩ ⟨Nat.le_of_ble_eq_true rfl, Nat.le_of_ble_eq_true rfl⟩ trivial rfl hl.1 rfl (Nat.le_of_ble_eq_true rfl) dX7_send_103 ⟨Nat.le_of_ble_eq_true rfl, Nat.le_of_ble_eq_true rfl⟩ ?_
  refine lv_bipush (v := nI 11) hx hb dX7_send_106 (by decide) ?_
  refine n_iadd (n := 13*u + 73) hx hb dX7_send_108 (by omega) ?_
  refine lv_iload_n hx hb dX7_send_109 rfl (lv_at hl 0 rfl) ?_
  refine md_ast_z hx hb hK hP (by omega) hS (fun _ h => h) dX7_send_110 (fun H locs hP zH fH hS => ?_)
  refine lv_aload_n hx hb dX7_send_111 rfl (lv_at hl 1 rfl) ?_
  refine k_get S hK hP.1 rfl (fun _ h => List.mem_cons_of_mem _ (List.mem_append_right _ (h))) 0 (by decide) (List.mem_cons_of_mem _ (List.mem_append_left _ (List.mem_append_left _ (List.mem_of_getElem? (i := 1) rfl)))) rfl (v := .ref (o + 1)) rfl dX7_send_112 ?_
  refine lv_iconst (v := nI 2) hx hb dX7_send_115 (by decide) ?_
  refine lv_dup2_11 hx hb dX7_send_116 rfl rfl ?_
  refine k_iald hx hb hK hP.2.1 (by omega) (by decide) (v := z 2) ((upd_n (by omega)).trans ((upd_n (by omega)).trans ((upd_n (by omega)).trans (rfl)))) dX7_send_117 ?_
  refine lv_iload_n hx hb dX7_send_118 rfl (lv_at hl 3 rfl) ?_
  refine lv_iconst (v := nI 2) hx hb dX7_send_119 (by decide) ?_
  refine n_ine (tgt := 127) hx hb dX7_send_120 (by decide) (by omega) (by omega) (fun c120 => ?_) (fun h => absurd h (by decide))
  refine lv_iconst (v := nI 0) hx hb dX7_send_127 (by decide) ?_
  refine lv_iadd hx hb dX7_send_128 ?_
  refine md_ast_z hx hb hK hP (by omega) hS (fun _ h => h) dX7_send_129 (fun H locs hP zH fH hS => ?_)
  refine lv_aload_n hx hb dX7_send_130 rfl (lv_at hl 1 rfl) ?_
  refine k_get S hK hP.1 rfl (fun _ h => List.mem_cons_of_mem _ (List.mem_append_right _ (h))) 0 (by decide) (List.mem_cons_of_mem _ (List.mem_append_left _ (List.mem_append_left _ (List.mem_of_getElem? (i := 1) rfl)))) rfl (v := .ref (o + 1)) rfl dX7_send_131 ?_
  refine lv_iconst (v := nI 3) hx hb dX7_send_134 (by decide) ?_
  refine lv_dup2_11 hx hb dX7_send_135 rfl rfl ?_
  refine k_iald hx hb hK hP.2.1 (by omega) (by decide) (v := z 3) ((upd_n (by omega)).trans ((upd_n (by omega)).trans ((upd_n (by omega)).trans ((upd_n (by omega)).trans (rfl))))) dX7_send_136 ?_
  refine lv_iload_n hx hb dX7_send_137 rfl (lv_at hl 3 rfl) ?_
  refine lv_iconst (v := nI 4) hx hb dX7_send_138 (by decide) ?_
  refine n_ine (tgt := 146) hx hb dX7_send_139 (by decide) (by omega) (by omega) (fun c139 => ?_) (fun h => absurd h (by decide))
  refine lv_iconst (v := nI 0) hx hb dX7_send_146 (by decide) ?_
  refine lv_iadd hx hb dX7_send_147 ?_
  refine md_ast_z hx hb hK hP (by omega) hS (fun _ h => h) dX7_send_148 (fun H locs hP zH fH hS => ?_)
  refine lv_aload_n hx hb dX7_send_149 rfl (lv_at hl 1 rfl) ?_
  refine k_get S hK hP.1 rfl (fun _ h => List.mem_cons_of_mem _ (List.mem_append_right _ (h))) 0 (by decide) (List.mem_cons_of_mem _ (List.mem_append_left _ (List.mem_append_left _ (List.mem_of_getElem? (i := 1) rfl)))) rfl (v := .ref (o + 1)) rfl dX7_send_150 ?_
  refine lv_aload_n hx hb dX7_send_153 rfl (lv_at hl 1 rfl) ?_
  refine lv_iload_n hx hb dX7_send_154 rfl (lv_at hl 2 rfl) ?_
  refine k_V (As := [.int (nI u)]) (rest := [.ref (o + 1)]) S hK (c_X7_sellerOf l E o (upd (upd (upd (upd (upd z (13*u + 68) (nI 1)) (13*u + 69) ((z (13*u + 69)) + (nI 1))) (13*u + 73) (brg z u 1)) 2 ((z 2) + (nI 0))) 3 ((z 3) + (nI 0))) (svW z (w_th w (nI 0)) sn) u (iv_sn5 (r := 1) hI (by decide) ht1) (show u < cn (sn5 z u 1) by rw [cn_sn5]; exact hu)) gX7_send_X7_sellerOf rfl hd_X7_sellerOf ⟨rfl, rfl⟩ ⟨Nat.le_of_ble_eq_true rfl, Nat.le_of_ble_eq_true rfl⟩ (k_recv hK hP.1 rfl) hP rfl hl.1 rfl (Nat.le_of_ble_eq_true rfl) dX7_send_155 ⟨Nat.le_of_ble_eq_true rfl, Nat.le_of_ble_eq_true rfl⟩ ?_
  have hq1 : pv (upd (upd (upd (upd (upd z (13*u + 68) (nI 1)) (13*u + 69) ((z (13*u + 69)) + (nI 1))) (13*u + 73) (brg z u 1)) 2 ((z 2) + (nI 0))) 3 ((z 3) + (nI 0))) (up (upd (upd (upd (upd (upd z (13*u + 68) (nI 1)) (13*u + 69) ((z (13*u + 69)) + (nI 1))) (13*u + 73) (brg z u 1)) 2 ((z 2) + (nI 0))) 3 ((z 3) + (nI 0))) u) < 4 := iv_pvl (iv_sn5 (r := 1) hI (by decide) ht1) (iv_upl (iv_sn5 (r := 1) hI (by decide) ht1) (show u < cn (sn5 z u 1) by rw [cn_sn5]; exact hu))
  refine k_top (y := nI (pv z (up z u))) (pvn_sn5 (r := 1) hI hu) ?_
  refine k_S (As := [.int (nI (pv z (up z u)))]) (rest := [.ref (o + 1)]) S hK (c_X7_seller l E (pv z (up z u))) gX7_send_X7_seller rfl hd_X7_seller ⟨rfl, rfl⟩ ⟨Nat.le_of_ble_eq_true rfl, Nat.le_of_ble_eq_true rfl⟩ trivial rfl hl.1 rfl (Nat.le_of_ble_eq_true rfl) dX7_send_158 ⟨Nat.le_of_ble_eq_true rfl, Nat.le_of_ble_eq_true rfl⟩ ?_
  refine lv_iconst (v := nI 3) hx hb dX7_send_161 (by decide) ?_
  refine n_iadd (n := 8*pv z (up z u) + 33) hx hb dX7_send_162 (by omega) ?_
  refine lv_dup2_11 hx hb dX7_send_163 rfl rfl ?_
  refine k_iald hx hb hK hP.2.1 (by omega) (by decide) (v := z (8*pv z (up z u) + 33)) ((upd_n (by omega)).trans ((upd_n (by omega)).trans ((upd_n (by omega)).trans ((upd_n (by omega)).trans ((upd_n (by omega)).trans (rfl)))))) dX7_send_164 ?_
  refine lv_iload_n hx hb dX7_send_165 rfl (lv_at hl 3 rfl) ?_
  refine lv_iconst (v := nI 4) hx hb dX7_send_166 (by decide) ?_
  refine n_ine (tgt := 174) hx hb dX7_send_167 (by decide) (by omega) (by omega) (fun c167 => ?_) (fun h => absurd h (by decide))
  refine lv_iconst (v := nI 0) hx hb dX7_send_174 (by decide) ?_
  refine lv_iadd hx hb dX7_send_175 ?_
  refine md_ast_z hx hb hK hP (by omega) hS (fun _ h => h) dX7_send_176 (fun H locs hP zH fH hS => ?_)
  refine lv_iload_n hx hb dX7_send_177 rfl (lv_at hl 0 rfl) ?_
  exact k_iretM hx hb hr hlk dX7_send_178 hS (show md E o (sdZ z u 1) (svW z (w_th w (nI 0)) sn) _ from hP) (rfl)
def rm_X7_send_f3_2 : Room := { frames := 4, cells := 0, slots := 0, locals := 92 }
set_option maxHeartbeats 4000000 in
set_option maxRecDepth 100000 in
theorem c_X7_send_f3_2 (l : Launch) (E : ke_E) (o : Nat) (z : Nat → Int32) (w : md_w) (u : Nat) (hI : iv z) (hu : u < cn z) (h1 : ¬ wy2 z u = 0) : Met l yX7_send wsX7_send rm_X7_send_f3_2 (kp E [.ref o, .int (nI u), .int (nI 2)] (md E o z w)) (qm (some (.int (nI 0))) (bl o 6) (md E o z (w_th w (nI 3)))) 0 0 (bl o 6) := by
  refine k_hd (cc := cX7_send) (maxL := 4) (ret := (some .int)) (by decide) rfl (Nat.le_of_ble_eq_true rfl) ?_
  intro p e s m below meth c ls S hr hlk hnm hK hP hl
  have hx := S.1
  have hb := S.2.1
  have hts := S.2.2.2.2
  have hP : md E o z w s.heap := hP
  have hl : lv_has ls 4 [(0, .ref o), (1, .int (nI u)), (2, .int (nI 2))] := hl
  have hS : va_S (bl o 6) s.heap s.heap [] := va_S.rf
  have hcn := iv_c hI
  refine lv_aload_n hx hb dX7_send_0 rfl (lv_at hl 0 rfl) ?_
  refine lv_iconst (v := nI 0) hx hb dX7_send_1 (by decide) ?_
  refine md_put (w' := w_th w (nI 0)) S hK hP (fun _ h => List.mem_cons_of_mem _ (List.mem_append_right _ (h))) 6 (by decide) (List.mem_cons_of_mem _ (List.mem_append_left _ (List.mem_append_left _ (List.mem_of_getElem? (i := 0) rfl)))) rfl rfl rfl rfl rfl rfl rfl rfl rfl hS (fun _ h => h) dX7_send_2 (fun H locs hP zH fH hS => ?_)
  refine lv_aload_n hx hb dX7_send_5 rfl (lv_at hl 0 rfl) ?_
  refine lv_iload_n hx hb dX7_send_6 rfl (lv_at hl 1 rfl) ?_
  refine k_V (As := [.int (nI u)]) (rest := []) S hK (c_X7_isUnit l E o z (w_th w (nI 0)) (nI u) hI) gX7_send_X7_isUnit rfl hd_X7_isUnit ⟨rfl, rfl⟩ ⟨Nat.le_of_ble_eq_true rfl, Nat.le_of_ble_eq_true rfl⟩ (k_recv hK hP.1 rfl) hP rfl hl.1 rfl (Nat.le_of_ble_eq_true rfl) dX7_send_7 ⟨Nat.le_of_ble_eq_true rfl, Nat.le_of_ble_eq_true rfl⟩ ?_
  refine b_ne (tgt := 19) hx hb dX7_send_10 (by decide) (fun c10 => ?_) (fun h => absurd (isU hu (by omega)) h)
  refine lv_iload_n hx hb dX7_send_19 rfl (lv_at hl 2 rfl) ?_
  refine lv_iconst (v := nI 1) hx hb dX7_send_20 (by decide) ?_
  refine lv_iconst (v := nI 4) hx hb dX7_send_21 (by decide) ?_
  refine k_S (As := [.int (nI 2), .int (nI 1), .int (nI 4)]) (rest := []) S hK (c_X7_in l E (nI 2) (nI 1) (nI 4)) gX7_send_X7_in rfl hd_X7_in ⟨rfl, rfl⟩ ⟨Nat.le_of_ble_eq_true rfl, Nat.le_of_ble_eq_true rfl⟩ trivial rfl hl.1 rfl (Nat.le_of_ble_eq_true rfl) dX7_send_22 ⟨Nat.le_of_ble_eq_true rfl, Nat.le_of_ble_eq_true rfl⟩ ?_
  refine b_ne (tgt := 34) hx hb dX7_send_25 (by decide) (fun c25 => ?_) (fun h => absurd (in_n (by decide) (by decide) (by decide)) h)
  refine lv_aload_n hx hb dX7_send_34 rfl (lv_at hl 0 rfl) ?_
  refine lv_iload_n hx hb dX7_send_35 rfl (lv_at hl 1 rfl) ?_
  refine lv_iload_n hx hb dX7_send_36 rfl (lv_at hl 2 rfl) ?_
  refine k_V (As := [.int (nI u), .int (nI 2)]) (rest := []) S hK (c_X7_why_2 l E o z (w_th w (nI 0)) u hI hu) gX7_send_X7_why rfl hd_X7_why ⟨rfl, rfl⟩ ⟨Nat.le_of_ble_eq_true rfl, Nat.le_of_ble_eq_true rfl⟩ (k_recv hK hP.1 rfl) hP rfl hl.1 rfl (Nat.le_of_ble_eq_true rfl) dX7_send_37 ⟨Nat.le_of_ble_eq_true rfl, Nat.le_of_ble_eq_true rfl⟩ ?_
  refine lv_if_eq (tgt := 49) hx hb dX7_send_40 (by decide) (fun h => absurd h h1) (fun c40 => ?_)
  refine lv_aload_n hx hb dX7_send_43 rfl (lv_at hl 0 rfl) ?_
  refine lv_iconst (v := nI 3) hx hb dX7_send_44 (by decide) ?_
  refine k_VM (As := [.int (nI 3)]) (rest := []) S hK (c_X7_fails l E o z (w_th w (nI 0)) (nI 3)) gX7_send_X7_fails rfl hd_X7_fails ⟨rfl, rfl⟩ ⟨Nat.le_of_ble_eq_true rfl, Nat.le_of_ble_eq_true rfl⟩ (k_recv hK hP.1 rfl) hP rfl hl.1 rfl (Nat.le_of_ble_eq_true rfl) dX7_send_45 ⟨Nat.le_of_ble_eq_true rfl, Nat.le_of_ble_eq_true rfl⟩ hS (fun q h => h) (fun q h => h) (fun H locs hQ zH fH hS => ?_)
  have hP := hQ
  exact k_iretM hx hb hr hlk dX7_send_48 hS (show md E o z (w_th w (nI 3)) _ from hP) (rfl)
def rm_X7_send_2 : Room := { frames := 4, cells := 0, slots := 0, locals := 92 }
set_option maxHeartbeats 4000000 in
set_option maxRecDepth 100000 in
theorem c_X7_send_2 (l : Launch) (E : ke_E) (o : Nat) (z : Nat → Int32) (w : md_w) (u : Nat) (sn : Nat) (hI : iv z) (hu : u < cn z) (h1 : wy2 z u = 0) (hs : q_sm w = nI sn) (hn : sn ≤ 6) : Met l yX7_send wsX7_send rm_X7_send_2 (kp E [.ref o, .int (nI u), .int (nI 2)] (md E o z w)) (qm (some (.int (brg z u 2))) (bl o 6) (md E o (sdZ z u 2) (svW z (w_th w (nI 0)) sn))) 0 0 (bl o 6) := by
  refine k_hd (cc := cX7_send) (maxL := 4) (ret := (some .int)) (by decide) rfl (Nat.le_of_ble_eq_true rfl) ?_
  intro p e s m below meth c ls S hr hlk hnm hK hP hl
  have hx := S.1
  have hb := S.2.1
  have hts := S.2.2.2.2
  have hP : md E o z w s.heap := hP
  have hl : lv_has ls 4 [(0, .ref o), (1, .int (nI u)), (2, .int (nI 2))] := hl
  have hS : va_S (bl o 6) s.heap s.heap [] := va_S.rf
  have hcn := iv_c hI
  have ht1 : 2 = 1 → tst z u := fun q => absurd q (by decide)
  have hpv4 := iv_pvl hI (iv_upl hI hu)
  refine lv_aload_n hx hb dX7_send_0 rfl (lv_at hl 0 rfl) ?_
  refine lv_iconst (v := nI 0) hx hb dX7_send_1 (by decide) ?_
  refine md_put (w' := w_th w (nI 0)) S hK hP (fun _ h => List.mem_cons_of_mem _ (List.mem_append_right _ (h))) 6 (by decide) (List.mem_cons_of_mem _ (List.mem_append_left _ (List.mem_append_left _ (List.mem_of_getElem? (i := 0) rfl)))) rfl rfl rfl rfl rfl rfl rfl rfl rfl hS (fun _ h => h) dX7_send_2 (fun H locs hP zH fH hS => ?_)
  refine lv_aload_n hx hb dX7_send_5 rfl (lv_at hl 0 rfl) ?_
  refine lv_iload_n hx hb dX7_send_6 rfl (lv_at hl 1 rfl) ?_
  refine k_V (As := [.int (nI u)]) (rest := []) S hK (c_X7_isUnit l E o z (w_th w (nI 0)) (nI u) hI) gX7_send_X7_isUnit rfl hd_X7_isUnit ⟨rfl, rfl⟩ ⟨Nat.le_of_ble_eq_true rfl, Nat.le_of_ble_eq_true rfl⟩ (k_recv hK hP.1 rfl) hP rfl hl.1 rfl (Nat.le_of_ble_eq_true rfl) dX7_send_7 ⟨Nat.le_of_ble_eq_true rfl, Nat.le_of_ble_eq_true rfl⟩ ?_
  refine b_ne (tgt := 19) hx hb dX7_send_10 (by decide) (fun c10 => ?_) (fun h => absurd (isU hu (by omega)) h)
  refine lv_iload_n hx hb dX7_send_19 rfl (lv_at hl 2 rfl) ?_
  refine lv_iconst (v := nI 1) hx hb dX7_send_20 (by decide) ?_
  refine lv_iconst (v := nI 4) hx hb dX7_send_21 (by decide) ?_
  refine k_S (As := [.int (nI 2), .int (nI 1), .int (nI 4)]) (rest := []) S hK (c_X7_in l E (nI 2) (nI 1) (nI 4)) gX7_send_X7_in rfl hd_X7_in ⟨rfl, rfl⟩ ⟨Nat.le_of_ble_eq_true rfl, Nat.le_of_ble_eq_true rfl⟩ trivial rfl hl.1 rfl (Nat.le_of_ble_eq_true rfl) dX7_send_22 ⟨Nat.le_of_ble_eq_true rfl, Nat.le_of_ble_eq_true rfl⟩ ?_
  refine b_ne (tgt := 34) hx hb dX7_send_25 (by decide) (fun c25 => ?_) (fun h => absurd (in_n (by decide) (by decide) (by decide)) h)
  refine lv_aload_n hx hb dX7_send_34 rfl (lv_at hl 0 rfl) ?_
  refine lv_iload_n hx hb dX7_send_35 rfl (lv_at hl 1 rfl) ?_
  refine lv_iload_n hx hb dX7_send_36 rfl (lv_at hl 2 rfl) ?_
  refine k_V (As := [.int (nI u), .int (nI 2)]) (rest := []) S hK (c_X7_why_2 l E o z (w_th w (nI 0)) u hI hu) gX7_send_X7_why rfl hd_X7_why ⟨rfl, rfl⟩ ⟨Nat.le_of_ble_eq_true rfl, Nat.le_of_ble_eq_true rfl⟩ (k_recv hK hP.1 rfl) hP rfl hl.1 rfl (Nat.le_of_ble_eq_true rfl) dX7_send_37 ⟨Nat.le_of_ble_eq_true rfl, Nat.le_of_ble_eq_true rfl⟩ ?_
  refine lv_if_eq (tgt := 49) hx hb dX7_send_40 (by decide) (fun c40 => ?_) (fun h => absurd h1 h)
  refine lv_aload_n hx hb dX7_send_49 rfl (lv_at hl 0 rfl) ?_
  refine k_VM (As := []) (rest := []) S hK (c_X7_save l E o z (w_th w (nI 0)) sn hs hn) gX7_send_X7_save rfl hd_X7_save ⟨rfl, rfl⟩ ⟨Nat.le_of_ble_eq_true rfl, Nat.le_of_ble_eq_true rfl⟩ (k_recv hK hP.1 rfl) hP rfl hl.1 rfl (Nat.le_of_ble_eq_true rfl) dX7_send_50 ⟨Nat.le_of_ble_eq_true rfl, Nat.le_of_ble_eq_true rfl⟩ hS (fun q h => h) (fun q h => h) (fun H locs hQ zH fH hS => ?_)
  have hP := hQ
  refine lv_aload_n hx hb dX7_send_53 rfl (lv_at hl 0 rfl) ?_
  refine lv_iload_n hx hb dX7_send_54 rfl (lv_at hl 1 rfl) ?_
  refine lv_iload_n hx hb dX7_send_55 rfl (lv_at hl 2 rfl) ?_
  refine k_V (As := [.int (nI u), .int (nI 2)]) (rest := []) S hK (c_X7_brings l E o z (svW z (w_th w (nI 0)) sn) u 2 hI hu (by omega)) gX7_send_X7_brings rfl hd_X7_brings ⟨rfl, rfl⟩ ⟨Nat.le_of_ble_eq_true rfl, Nat.le_of_ble_eq_true rfl⟩ (k_recv hK hP.1 rfl) hP rfl hl.1 rfl (Nat.le_of_ble_eq_true rfl) dX7_send_56 ⟨Nat.le_of_ble_eq_true rfl, Nat.le_of_ble_eq_true rfl⟩ ?_
  refine lv_istore_n (lv' := [(3, .int (brg z u 2)), (0, .ref o), (1, .int (nI u)), (2, .int (nI 2))]) hx hb dX7_send_59 rfl hl (by decide) rfl (fun ls hl => ?_)
  refine lv_aload_n hx hb dX7_send_60 rfl (lv_at hl 1 rfl) ?_
  refine k_get S hK hP.1 rfl (fun _ h => List.mem_cons_of_mem _ (List.mem_append_right _ (h))) 0 (by decide) (List.mem_cons_of_mem _ (List.mem_append_left _ (List.mem_append_left _ (List.mem_of_getElem? (i := 1) rfl)))) rfl (v := .ref (o + 1)) rfl dX7_send_61 ?_
  refine lv_iload_n hx hb dX7_send_64 rfl (lv_at hl 2 rfl) ?_
  refine k_S (As := [.int (nI u)]) (rest := [.ref (o + 1)]) S hK (c_X7_at l E u) gX7_send_X7_at rfl hd_X7_at ⟨rfl, rfl⟩ ⟨Nat.le_of_ble_eq_true rfl, Nat.le_of_ble_eq_true rfl⟩ trivial rfl hl.1 rfl (Nat.le_of_ble_eq_true rfl) dX7_send_65 ⟨Nat.le_of_ble_eq_true rfl, Nat.le_of_ble_eq_true rfl⟩ ?_
  refine lv_bipush (v := nI 6) hx hb dX7_send_68 (by decide) ?_
  refine n_iadd (n := 13*u + 68) hx hb dX7_send_70 (by omega) ?_
  refine lv_iload_n hx hb dX7_send_71 rfl (lv_at hl 3 rfl) ?_
  refine md_ast_z hx hb hK hP (by omega) hS (fun _ h => h) dX7_send_72 (fun H locs hP zH fH hS => ?_)
  refine lv_aload_n hx hb dX7_send_73 rfl (lv_at hl 1 rfl) ?_
  refine k_get S hK hP.1 rfl (fun _ h => List.mem_cons_of_mem _ (List.mem_append_right _ (h))) 0 (by decide) (List.mem_cons_of_mem _ (List.mem_append_left _ (List.mem_append_left _ (List.mem_of_getElem? (i := 1) rfl)))) rfl (v := .ref (o + 1)) rfl dX7_send_74 ?_
  refine lv_iload_n hx hb dX7_send_77 rfl (lv_at hl 2 rfl) ?_
  refine k_S (As := [.int (nI u)]) (rest := [.ref (o + 1)]) S hK (c_X7_at l E u) gX7_send_X7_at rfl hd_X7_at ⟨rfl, rfl⟩ ⟨Nat.le_of_ble_eq_true rfl, Nat.le_of_ble_eq_true rfl⟩ trivial rfl hl.1 rfl (Nat.le_of_ble_eq_true rfl) dX7_send_78 ⟨Nat.le_of_ble_eq_true rfl, Nat.le_of_ble_eq_true rfl⟩ ?_
  refine lv_bipush (v := nI 7) hx hb dX7_send_81 (by decide) ?_
  refine n_iadd (n := 13*u + 69) hx hb dX7_send_83 (by omega) ?_
  refine lv_dup2_11 hx hb dX7_send_84 rfl rfl ?_
  refine k_iald hx hb hK hP.2.1 (by omega) (by decide) (v := z (13*u + 69)) ((upd_n (by omega)).trans (rfl)) dX7_send_85 ?_
  refine lv_iload_n hx hb dX7_send_86 rfl (lv_at hl 3 rfl) ?_
  refine lv_iconst (v := nI 1) hx hb dX7_send_87 (by decide) ?_
  refine n_ine (tgt := 95) hx hb dX7_send_88 (by decide) (by omega) (by omega) (fun c88 => ?_) (fun h => absurd h (by decide))
  refine lv_iconst (v := nI 0) hx hb dX7_send_95 (by decide) ?_
  refine lv_iadd hx hb dX7_send_96 ?_
  refine md_ast_z hx hb hK hP (by omega) hS (fun _ h => h) dX7_send_97 (fun H locs hP zH fH hS => ?_)
  refine lv_aload_n hx hb dX7_send_98 rfl (lv_at hl 1 rfl) ?_
  refine k_get S hK hP.1 rfl (fun _ h => List.mem_cons_of_mem _ (List.mem_append_right _ (h))) 0 (by decide) (List.mem_cons_of_mem _ (List.mem_append_left _ (List.mem_append_left _ (List.mem_of_getElem? (i := 1) rfl)))) rfl (v := .ref (o + 1)) rfl dX7_send_99 ?_
  refine lv_iload_n hx hb dX7_send_102 rfl (lv_at hl 2 rfl) ?_
  refine k_S (As := [.int (nI u)]) (rest := [.ref (o + 1)]) S hK (c_X7_at l E u) gX7_send_X7_at rfl hd_X7_at ⟨rfl, rfl⟩ ⟨Nat.le_of_ble_eq_true rfl, Nat.le_of_ble_eq_true rfl⟩ trivial rfl hl.1 rfl (Nat.le_of_ble_eq_true rfl) dX7_send_103 ⟨Nat.le_of_ble_eq_true rfl, Nat.le_of_ble_eq_true rfl⟩ ?_
  refine lv_bipush (v := nI 11) hx hb dX7_send_106 (by decide) ?_
  refine n_iadd (n := 13*u + 73) hx hb dX7_send_108 (by omega) ?_
  refine lv_iload_n hx hb dX7_send_109 rfl (lv_at hl 0 rfl) ?_
  refine md_ast_z hx hb hK hP (by omega) hS (fun _ h => h) dX7_send_110 (fun H locs hP zH fH hS => ?_)
  refine lv_aload_n hx hb dX7_send_111 rfl (lv_at hl 1 rfl) ?_
  refine k_get S hK hP.1 rfl (fun _ h => List.mem_cons_of_mem _ (List.mem_append_right _ (h))) 0 (by decide) (List.mem_cons_of_mem _ (List.mem_append_left _ (List.mem_append_left _ (List.mem_of_getElem? (i := 1) rfl)))) rfl (v := .ref (o + 1)) rfl dX7_send_112 ?_
  refine lv_iconst (v := nI 2) hx hb dX7_send_115 (by decide) ?_
  refine lv_dup2_11 hx hb dX7_send_116 rfl rfl ?_
  refine k_iald hx hb hK hP.2.1 (by omega) (by decide) (v := z 2) ((upd_n (by omega)).trans ((upd_n (by omega)).trans ((upd_n (by omega)).trans (rfl)))) dX7_send_117 ?_
  refine lv_iload_n hx hb dX7_send_118 rfl (lv_at hl 3 rfl) ?_
  refine lv_iconst (v := nI 2) hx hb dX7_send_119 (by decide) ?_
  refine n_ine (tgt := 127) hx hb dX7_send_120 (by decide) (by omega) (by omega) (fun h => absurd h (by decide)) (fun c120 => ?_)
  refine lv_iload_n hx hb dX7_send_123 rfl (lv_at hl 0 rfl) ?_
  refine lv_goto (tgt := 128) hx hb dX7_send_124 (by decide) ?_
  refine lv_iadd hx hb dX7_send_128 ?_
  refine md_ast_z hx hb hK hP (by omega) hS (fun _ h => h) dX7_send_129 (fun H locs hP zH fH hS => ?_)
  refine lv_aload_n hx hb dX7_send_130 rfl (lv_at hl 1 rfl) ?_
  refine k_get S hK hP.1 rfl (fun _ h => List.mem_cons_of_mem _ (List.mem_append_right _ (h))) 0 (by decide) (List.mem_cons_of_mem _ (List.mem_append_left _ (List.mem_append_left _ (List.mem_of_getElem? (i := 1) rfl)))) rfl (v := .ref (o + 1)) rfl dX7_send_131 ?_
  refine lv_iconst (v := nI 3) hx hb dX7_send_134 (by decide) ?_
  refine lv_dup2_11 hx hb dX7_send_135 rfl rfl ?_
  refine k_iald hx hb hK hP.2.1 (by omega) (by decide) (v := z 3) ((upd_n (by omega)).trans ((upd_n (by omega)).trans ((upd_n (by omega)).trans ((upd_n (by omega)).trans (rfl))))) dX7_send_136 ?_
  refine lv_iload_n hx hb dX7_send_137 rfl (lv_at hl 3 rfl) ?_
  refine lv_iconst (v := nI 4) hx hb dX7_send_138 (by decide) ?_
  refine n_ine (tgt := 146) hx hb dX7_send_139 (by decide) (by omega) (by omega) (fun c139 => ?_) (fun h => absurd h (by decide))
  refine lv_iconst (v := nI 0) hx hb dX7_send_146 (by decide) ?_
  refine lv_iadd hx hb dX7_send_147 ?_
  refine md_ast_z hx hb hK hP (by omega) hS (fun _ h => h) dX7_send_148 (fun H locs hP zH fH hS => ?_)
  refine lv_aload_n hx hb dX7_send_149 rfl (lv_at hl 1 rfl) ?_
  refine k_get S hK hP.1 rfl (fun _ h => List.mem_cons_of_mem _ (List.mem_append_right _ (h))) 0 (by decide) (List.mem_cons_of_mem _ (List.mem_append_left _ (List.mem_append_left _ (List.mem_of_getElem? (i := 1) rfl)))) rfl (v := .ref (o + 1)) rfl dX7_send_150 ?_
  refine lv_aload_n hx hb dX7_send_153 rfl (lv_at hl 1 rfl) ?_
  refine lv_iload_n hx hb dX7_send_154 rfl (lv_at hl 2 rfl) ?_
  refine k_V (As := [.int (nI u)]) (rest := [.ref (o + 1)]) S hK (c_X7_sellerOf l E o (upd (upd (upd (upd (upd z (13*u + 68) (nI 2)) (13*u + 69) ((z (13*u + 69)) + (nI 0))) (13*u + 73) (brg z u 2)) 2 ((z 2) + (brg z u 2))) 3 ((z 3) + (nI 0))) (svW z (w_th w (nI 0)) sn) u (iv_sn5 (r := 2) hI (by decide) ht1) (show u < cn (sn5 z u 2) by rw [cn_sn5]; exact hu)) gX7_send_X7_sellerOf rfl hd_X7_sellerOf ⟨rfl, rfl⟩ ⟨Nat.le_of_ble_eq_true rfl, Nat.le_of_ble_eq_true rfl⟩ (k_recv hK hP.1 rfl) hP rfl hl.1 rfl (Nat.le_of_ble_eq_true rfl) dX7_send_155 ⟨Nat.le_of_ble_eq_true rfl, Nat.le_of_ble_eq_true rfl⟩ ?_
  have hq1 : pv (upd (upd (upd (upd (upd z (13*u + 68) (nI 2)) (13*u + 69) ((z (13*u + 69)) + (nI 0))) (13*u + 73) (brg z u 2)) 2 ((z 2) + (brg z u 2))) 3 ((z 3) + (nI 0))) (up (upd (upd (upd (upd (upd z (13*u + 68) (nI 2)) (13*u + 69) ((z (13*u + 69)) + (nI 0))) (13*u + 73) (brg z u 2)) 2 ((z 2) + (brg z u 2))) 3 ((z 3) + (nI 0))) u) < 4 := iv_pvl (iv_sn5 (r := 2) hI (by decide) ht1) (iv_upl (iv_sn5 (r := 2) hI (by decide) ht1) (show u < cn (sn5 z u 2) by rw [cn_sn5]; exact hu))
  refine k_top (y := nI (pv z (up z u))) (pvn_sn5 (r := 2) hI hu) ?_
  refine k_S (As := [.int (nI (pv z (up z u)))]) (rest := [.ref (o + 1)]) S hK (c_X7_seller l E (pv z (up z u))) gX7_send_X7_seller rfl hd_X7_seller ⟨rfl, rfl⟩ ⟨Nat.le_of_ble_eq_true rfl, Nat.le_of_ble_eq_true rfl⟩ trivial rfl hl.1 rfl (Nat.le_of_ble_eq_true rfl) dX7_send_158 ⟨Nat.le_of_ble_eq_true rfl, Nat.le_of_ble_eq_true rfl⟩ ?_
  refine lv_iconst (v := nI 3) hx hb dX7_send_161 (by decide) ?_
  refine n_iadd (n := 8*pv z (up z u) + 33) hx hb dX7_send_162 (by omega) ?_
  refine lv_dup2_11 hx hb dX7_send_163 rfl rfl ?_
  refine k_iald hx hb hK hP.2.1 (by omega) (by decide) (v := z (8*pv z (up z u) + 33)) ((upd_n (by omega)).trans ((upd_n (by omega)).trans ((upd_n (by omega)).trans ((upd_n (by omega)).trans ((upd_n (by omega)).trans (rfl)))))) dX7_send_164 ?_
  refine lv_iload_n hx hb dX7_send_165 rfl (lv_at hl 3 rfl) ?_
  refine lv_iconst (v := nI 4) hx hb dX7_send_166 (by decide) ?_
  refine n_ine (tgt := 174) hx hb dX7_send_167 (by decide) (by omega) (by omega) (fun c167 => ?_) (fun h => absurd h (by decide))
  refine lv_iconst (v := nI 0) hx hb dX7_send_174 (by decide) ?_
  refine lv_iadd hx hb dX7_send_175 ?_
  refine md_ast_z hx hb hK hP (by omega) hS (fun _ h => h) dX7_send_176 (fun H locs hP zH fH hS => ?_)
  refine lv_iload_n hx hb dX7_send_177 rfl (lv_at hl 0 rfl) ?_
  exact k_iretM hx hb hr hlk dX7_send_178 hS (show md E o (sdZ z u 2) (svW z (w_th w (nI 0)) sn) _ from hP) (rfl)
def rm_X7_send_f3_3 : Room := { frames := 4, cells := 0, slots := 0, locals := 92 }
set_option maxHeartbeats 4000000 in
set_option maxRecDepth 100000 in
theorem c_X7_send_f3_3 (l : Launch) (E : ke_E) (o : Nat) (z : Nat → Int32) (w : md_w) (u : Nat) (hI : iv z) (hu : u < cn z) (h1 : ¬ wy3 z u = 0) : Met l yX7_send wsX7_send rm_X7_send_f3_3 (kp E [.ref o, .int (nI u), .int (nI 3)] (md E o z w)) (qm (some (.int (nI 0))) (bl o 6) (md E o z (w_th w (nI 3)))) 0 0 (bl o 6) := by
  refine k_hd (cc := cX7_send) (maxL := 4) (ret := (some .int)) (by decide) rfl (Nat.le_of_ble_eq_true rfl) ?_
  intro p e s m below meth c ls S hr hlk hnm hK hP hl
  have hx := S.1
  have hb := S.2.1
  have hts := S.2.2.2.2
  have hP : md E o z w s.heap := hP
  have hl : lv_has ls 4 [(0, .ref o), (1, .int (nI u)), (2, .int (nI 3))] := hl
  have hS : va_S (bl o 6) s.heap s.heap [] := va_S.rf
  have hcn := iv_c hI
  refine lv_aload_n hx hb dX7_send_0 rfl (lv_at hl 0 rfl) ?_
  refine lv_iconst (v := nI 0) hx hb dX7_send_1 (by decide) ?_
  refine md_put (w' := w_th w (nI 0)) S hK hP (fun _ h => List.mem_cons_of_mem _ (List.mem_append_right _ (h))) 6 (by decide) (List.mem_cons_of_mem _ (List.mem_append_left _ (List.mem_append_left _ (List.mem_of_getElem? (i := 0) rfl)))) rfl rfl rfl rfl rfl rfl rfl rfl rfl hS (fun _ h => h) dX7_send_2 (fun H locs hP zH fH hS => ?_)
  refine lv_aload_n hx hb dX7_send_5 rfl (lv_at hl 0 rfl) ?_
  refine lv_iload_n hx hb dX7_send_6 rfl (lv_at hl 1 rfl) ?_
  refine k_V (As := [.int (nI u)]) (rest := []) S hK (c_X7_isUnit l E o z (w_th w (nI 0)) (nI u) hI) gX7_send_X7_isUnit rfl hd_X7_isUnit ⟨rfl, rfl⟩ ⟨Nat.le_of_ble_eq_true rfl, Nat.le_of_ble_eq_true rfl⟩ (k_recv hK hP.1 rfl) hP rfl hl.1 rfl (Nat.le_of_ble_eq_true rfl) dX7_send_7 ⟨Nat.le_of_ble_eq_true rfl, Nat.le_of_ble_eq_true rfl⟩ ?_
  refine b_ne (tgt := 19) hx hb dX7_send_10 (by decide) (fun c10 => ?_) (fun h => absurd (isU hu (by omega)) h)
  refine lv_iload_n hx hb dX7_send_19 rfl (lv_at hl 2 rfl) ?_
  refine lv_iconst (v := nI 1) hx hb dX7_send_20 (by decide) ?_
  refine lv_iconst (v := nI 4) hx hb dX7_send_21 (by decide) ?_
  refine k_S (As := [.int (nI 3), .int (nI 1), .int (nI 4)]) (rest := []) S hK (c_X7_in l E (nI 3) (nI 1) (nI 4)) gX7_send_X7_in rfl hd_X7_in ⟨rfl, rfl⟩ ⟨Nat.le_of_ble_eq_true rfl, Nat.le_of_ble_eq_true rfl⟩ trivial rfl hl.1 rfl (Nat.le_of_ble_eq_true rfl) dX7_send_22 ⟨Nat.le_of_ble_eq_true rfl, Nat.le_of_ble_eq_true rfl⟩ ?_
  refine b_ne (tgt := 34) hx hb dX7_send_25 (by decide) (fun c25 => ?_) (fun h => absurd (in_n (by decide) (by decide) (by decide)) h)
  refine lv_aload_n hx hb dX7_send_34 rfl (lv_at hl 0 rfl) ?_
  refine lv_iload_n hx hb dX7_send_35 rfl (lv_at hl 1 rfl) ?_
  refine lv_iload_n hx hb dX7_send_36 rfl (lv_at hl 2 rfl) ?_
  refine k_V (As := [.int (nI u), .int (nI 3)]) (rest := []) S hK (c_X7_why_3 l E o z (w_th w (nI 0)) u hI hu) gX7_send_X7_why rfl hd_X7_why ⟨rfl, rfl⟩ ⟨Nat.le_of_ble_eq_true rfl, Nat.le_of_ble_eq_true rfl⟩ (k_recv hK hP.1 rfl) hP rfl hl.1 rfl (Nat.le_of_ble_eq_true rfl) dX7_send_37 ⟨Nat.le_of_ble_eq_true rfl, Nat.le_of_ble_eq_true rfl⟩ ?_
  refine lv_if_eq (tgt := 49) hx hb dX7_send_40 (by decide) (fun h => absurd h h1) (fun c40 => ?_)
  refine lv_aload_n hx hb dX7_send_43 rfl (lv_at hl 0 rfl) ?_
  refine lv_iconst (v := nI 3) hx hb dX7_send_44 (by decide) ?_
  refine k_VM (As := [.int (nI 3)]) (rest := []) S hK (c_X7_fails l E o z (w_th w (nI 0)) (nI 3)) gX7_send_X7_fails rfl hd_X7_fails ⟨rfl, rfl⟩ ⟨Nat.le_of_ble_eq_true rfl, Nat.le_of_ble_eq_true rfl⟩ (k_recv hK hP.1 rfl) hP rfl hl.1 rfl (Nat.le_of_ble_eq_true rfl) dX7_send_45 ⟨Nat.le_of_ble_eq_true rfl, Nat.le_of_ble_eq_true rfl⟩ hS (fun q h => h) (fun q h => h) (fun H locs hQ zH fH hS => ?_)
  have hP := hQ
  exact k_iretM hx hb hr hlk dX7_send_48 hS (show md E o z (w_th w (nI 3)) _ from hP) (rfl)
def rm_X7_send_3 : Room := { frames := 4, cells := 0, slots := 0, locals := 92 }
set_option maxHeartbeats 4000000 in
set_option maxRecDepth 100000 in
theorem c_X7_send_3 (l : Launch) (E : ke_E) (o : Nat) (z : Nat → Int32) (w : md_w) (u : Nat) (sn : Nat) (hI : iv z) (hu : u < cn z) (h1 : wy3 z u = 0) (hs : q_sm w = nI sn) (hn : sn ≤ 6) : Met l yX7_send wsX7_send rm_X7_send_3 (kp E [.ref o, .int (nI u), .int (nI 3)] (md E o z w)) (qm (some (.int (brg z u 3))) (bl o 6) (md E o (sdZ z u 3) (svW z (w_th w (nI 0)) sn))) 0 0 (bl o 6) := by
  refine k_hd (cc := cX7_send) (maxL := 4) (ret := (some .int)) (by decide) rfl (Nat.le_of_ble_eq_true rfl) ?_
  intro p e s m below meth c ls S hr hlk hnm hK hP hl
  have hx := S.1
  have hb := S.2.1
  have hts := S.2.2.2.2
  have hP : md E o z w s.heap := hP
  have hl : lv_has ls 4 [(0, .ref o), (1, .int (nI u)), (2, .int (nI 3))] := hl
  have hS : va_S (bl o 6) s.heap s.heap [] := va_S.rf
  have hcn := iv_c hI
  have ht1 : 3 = 1 → tst z u := fun q => absurd q (by decide)
  have hpv4 := iv_pvl hI (iv_upl hI hu)
  refine lv_aload_n hx hb dX7_send_0 rfl (lv_at hl 0 rfl) ?_
  refine lv_iconst (v := nI 0) hx hb dX7_send_1 (by decide) ?_
  refine md_put (w' := w_th w (nI 0)) S hK hP (fun _ h => List.mem_cons_of_mem _ (List.mem_append_right _ (h))) 6 (by decide) (List.mem_cons_of_mem _ (List.mem_append_left _ (List.mem_append_left _ (List.mem_of_getElem? (i := 0) rfl)))) rfl rfl rfl rfl rfl rfl rfl rfl rfl hS (fun _ h => h) dX7_send_2 (fun H locs hP zH fH hS => ?_)
  refine lv_aload_n hx hb dX7_send_5 rfl (lv_at hl 0 rfl) ?_
  refine lv_iload_n hx hb dX7_send_6 rfl (lv_at hl 1 rfl) ?_
  refine k_V (As := [.int (nI u)]) (rest := []) S hK (c_X7_isUnit l E o z (w_th w (nI 0)) (nI u) hI) gX7_send_X7_isUnit rfl hd_X7_isUnit ⟨rfl, rfl⟩ ⟨Nat.le_of_ble_eq_true rfl, Nat.le_of_ble_eq_true rfl⟩ (k_recv hK hP.1 rfl) hP rfl hl.1 rfl (Nat.le_of_ble_eq_true rfl) dX7_send_7 ⟨Nat.le_of_ble_eq_true rfl, Nat.le_of_ble_eq_true rfl⟩ ?_
  refine b_ne (tgt := 19) hx hb dX7_send_10 (by decide) (fun c10 => ?_) (fun h => absurd (isU hu (by omega)) h)
  refine lv_iload_n hx hb dX7_send_19 rfl (lv_at hl 2 rfl) ?_
  refine lv_iconst (v := nI 1) hx hb dX7_send_20 (by decide) ?_
  refine lv_iconst (v := nI 4) hx hb dX7_send_21 (by decide) ?_
  refine k_S (As := [.int (nI 3), .int (nI 1), .int (nI 4)]) (rest := []) S hK (c_X7_in l E (nI 3) (nI 1) (nI 4)) gX7_send_X7_in rfl hd_X7_in ⟨rfl, rfl⟩ ⟨Nat.le_of_ble_eq_true rfl, Nat.le_of_ble_eq_true rfl⟩ trivial rfl hl.1 rfl (Nat.le_of_ble_eq_true rfl) dX7_send_22 ⟨Nat.le_of_ble_eq_true rfl, Nat.le_of_ble_eq_true rfl⟩ ?_
  refine b_ne (tgt := 34) hx hb dX7_send_25 (by decide) (fun c25 => ?_) (fun h => absurd (in_n (by decide) (by decide) (by decide)) h)
  refine lv_aload_n hx hb dX7_send_34 rfl (lv_at hl 0 rfl) ?_
  refine lv_iload_n hx hb dX7_send_35 rfl (lv_at hl 1 rfl) ?_
  refine lv_iload_n hx hb dX7_send_36 rfl (lv_at hl 2 rfl) ?_
  refine k_V (As := [.int (nI u), .int (nI 3)]) (rest := []) S hK (c_X7_why_3 l E o z (w_th w (nI 0)) u hI hu) gX7_send_X7_why rfl hd_X7_why ⟨rfl, rfl⟩ ⟨Nat.le_of_ble_eq_true rfl, Nat.le_of_ble_eq_true rfl⟩ (k_recv hK hP.1 rfl) hP rfl hl.1 rfl (Nat.le_of_ble_eq_true rfl) dX7_send_37 ⟨Nat.le_of_ble_eq_true rfl, Nat.le_of_ble_eq_true rfl⟩ ?_
  refine lv_if_eq (tgt := 49) hx hb dX7_send_40 (by decide) (fun c40 => ?_) (fun h => absurd h1 h)
  refine lv_aload_n hx hb dX7_send_49 rfl (lv_at hl 0 rfl) ?_
  refine k_VM (As := []) (rest := []) S hK (c_X7_save l E o z (w_th w (nI 0)) sn hs hn) gX7_send_X7_save rfl hd_X7_save ⟨rfl, rfl⟩ ⟨Nat.le_of_ble_eq_true rfl, Nat.le_of_ble_eq_true rfl⟩ (k_recv hK hP.1 rfl) hP rfl hl.1 rfl (Nat.le_of_ble_eq_true rfl) dX7_send_50 ⟨Nat.le_of_ble_eq_true rfl, Nat.le_of_ble_eq_true rfl⟩ hS (fun q h => h) (fun q h => h) (fun H locs hQ zH fH hS => ?_)
  have hP := hQ
  refine lv_aload_n hx hb dX7_send_53 rfl (lv_at hl 0 rfl) ?_
  refine lv_iload_n hx hb dX7_send_54 rfl (lv_at hl 1 rfl) ?_
  refine lv_iload_n hx hb dX7_send_55 rfl (lv_at hl 2 rfl) ?_
  refine k_V (As := [.int (nI u), .int (nI 3)]) (rest := []) S hK (c_X7_brings l E o z (svW z (w_th w (nI 0)) sn) u 3 hI hu (by omega)) gX7_send_X7_brings rfl hd_X7_brings ⟨rfl, rfl⟩ ⟨Nat.le_of_ble_eq_true rfl, Nat.le_of_ble_eq_true rfl⟩ (k_recv hK hP.1 rfl) hP rfl hl.1 rfl (Nat.le_of_ble_eq_true rfl) dX7_send_56 ⟨Nat.le_of_ble_eq_true rfl, Nat.le_of_ble_eq_true rfl⟩ ?_
  refine lv_istore_n (lv' := [(3, .int (brg z u 3)), (0, .ref o), (1, .int (nI u)), (2, .int (nI 3))]) hx hb dX7_send_59 rfl hl (by decide) rfl (fun ls hl => ?_)
  refine lv_aload_n hx hb dX7_send_60 rfl (lv_at hl 1 rfl) ?_
  refine k_get S hK hP.1 rfl (fun _ h => List.mem_cons_of_mem _ (List.mem_append_right _ (h))) 0 (by decide) (List.mem_cons_of_mem _ (List.mem_append_left _ (List.mem_append_left _ (List.mem_of_getElem? (i := 1) rfl)))) rfl (v := .ref (o + 1)) rfl dX7_send_61 ?_
  refine lv_iload_n hx hb dX7_send_64 rfl (lv_at hl 2 rfl) ?_
  refine k_S (As := [.int (nI u)]) (rest := [.ref (o + 1)]) S hK (c_X7_at l E u) gX7_send_X7_at rfl hd_X7_at ⟨rfl, rfl⟩ ⟨Nat.le_of_ble_eq_true rfl, Nat.le_of_ble_eq_true rfl⟩ trivial rfl hl.1 rfl (Nat.le_of_ble_eq_true rfl) dX7_send_65 ⟨Nat.le_of_ble_eq_true rfl, Nat.le_of_ble_eq_true rfl⟩ ?_
  refine lv_bipush (v := nI 6) hx hb dX7_send_68 (by decide) ?_
  refine n_iadd (n := 13*u + 68) hx hb dX7_send_70 (by omega) ?_
  refine lv_iload_n hx hb dX7_send_71 rfl (lv_at hl 3 rfl) ?_
  refine md_ast_z hx hb hK hP (by omega) hS (fun _ h => h) dX7_send_72 (fun H locs hP zH fH hS => ?_)
  refine lv_aload_n hx hb dX7_send_73 rfl (lv_at hl 1 rfl) ?_
  refine k_get S hK hP.1 rfl (fun _ h => List.mem_cons_of_mem _ (List.mem_append_right _ (h))) 0 (by decide) (List.mem_cons_of_mem _ (List.mem_append_left _ (List.mem_append_left _ (List.mem_of_getElem? (i := 1) rfl)))) rfl (v := .ref (o + 1)) rfl dX7_send_74 ?_
  refine lv_iload_n hx hb dX7_send_77 rfl (lv_at hl 2 rfl) ?_
  refine k_S (As := [.int (nI u)]) (rest := [.ref (o + 1)]) S hK (c_X7_at l E u) gX7_send_X7_at rfl hd_X7_at ⟨rfl, rfl⟩ ⟨Nat.le_of_ble_eq_true rfl, Nat.le_of_ble_eq_true rfl⟩ trivial rfl hl.1 rfl (Nat.le_of_ble_eq_true rfl) dX7_send_78 ⟨Nat.le_of_ble_eq_true rfl, Nat.le_of_ble_eq_true rfl⟩ ?_
  refine lv_bipush (v := nI 7) hx hb dX7_send_81 (by decide) ?_
  refine n_iadd (n := 13*u + 69) hx hb dX7_send_83 (by omega) ?_
  refine lv_dup2_11 hx hb dX7_send_84 rfl rfl ?_
  refine k_iald hx hb hK hP.2.1 (by omega) (by decide) (v := z (13*u + 69)) ((upd_n (by omega)).trans (rfl)) dX7_send_85 ?_
  refine lv_iload_n hx hb dX7_send_86 rfl (lv_at hl 3 rfl) ?_
  refine lv_iconst (v := nI 1) hx hb dX7_send_87 (by decide) ?_
  refine n_ine (tgt := 95) hx hb dX7_send_88 (by decide) (by omega) (by omega) (fun c88 => ?_) (fun h => absurd h (by decide))
  refine lv_iconst (v := nI 0) hx hb dX7_send_95 (by decide) ?_
  refine lv_iadd hx hb dX7_send_96 ?_
  refine md_ast_z hx hb hK hP (by omega) hS (fun _ h => h) dX7_send_97 (fun H locs hP zH fH hS => ?_)
  refine lv_aload_n hx hb dX7_send_98 rfl (lv_at hl 1 rfl) ?_
  refine k_get S hK hP.1 rfl (fun _ h => List.mem_cons_of_mem _ (List.mem_append_right _ (h))) 0 (by decide) (List.mem_cons_of_mem _ (List.mem_append_left _ (List.mem_append_left _ (List.mem_of_getElem? (i := 1) rfl)))) rfl (v := .ref (o + 1)) rfl dX7_send_99 ?_
  refine lv_iload_n hx hb dX7_send_102 rfl (lv_at hl 2 rfl) ?_
  refine k_S (As := [.int (nI u)]) (rest := [.ref (o + 1)]) S hK (c_X7_at l E u) gX7_send_X7_at rfl hd_X7_at ⟨rfl, rfl⟩ ⟨Nat.le_of_ble_eq_true rfl, Nat.le_of_ble_eq_true rfl⟩ trivial rfl hl.1 rfl (Nat.le_of_ble_eq_true rfl) dX7_send_103 ⟨Nat.le_of_ble_eq_true rfl, Nat.le_of_ble_eq_true rfl⟩ ?_
  refine lv_bipush (v := nI 11) hx hb dX7_send_106 (by decide) ?_
  refine n_iadd (n := 13*u + 73) hx hb dX7_send_108 (by omega) ?_
  refine lv_iload_n hx hb dX7_send_109 rfl (lv_at hl 0 rfl) ?_
  refine md_ast_z hx hb hK hP (by omega) hS (fun _ h => h) dX7_send_110 (fun H locs hP zH fH hS => ?_)
  refine lv_aload_n hx hb dX7_send_111 rfl (lv_at hl 1 rfl) ?_
  refine k_get S hK hP.1 rfl (fun _ h => List.mem_cons_of_mem _ (List.mem_append_right _ (h))) 0 (by decide) (List.mem_cons_of_mem _ (List.mem_append_left _ (List.mem_append_left _ (List.mem_of_getElem? (i := 1) rfl)))) rfl (v := .ref (o + 1)) rfl dX7_send_112 ?_
  refine lv_iconst (v := nI 2) hx hb dX7_send_115 (by decide) ?_
  refine lv_dup2_11 hx hb dX7_send_116 rfl rfl ?_
  refine k_iald hx hb hK hP.2.1 (by omega) (by decide) (v := z 2) ((upd_n (by omega)).trans ((upd_n (by omega)).trans ((upd_n (by omega)).trans (rfl)))) dX7_send_117 ?_
  refine lv_iload_n hx hb dX7_send_118 rfl (lv_at hl 3 rfl) ?_
  refine lv_iconst (v := nI 2) hx hb dX7_send_119 (by decide) ?_
  refine n_ine (tgt := 127) hx hb dX7_send_120 (by decide) (by omega) (by omega) (fun c120 => ?_) (fun h => absurd h (by decide))
  refine lv_iconst (v := nI 0) hx hb dX7_send_127 (by decide) ?_
  refine lv_iadd hx hb dX7_send_128 ?_
  refine md_ast_z hx hb hK hP (by omega) hS (fun _ h => h) dX7_send_129 (fun H locs hP zH fH hS => ?_)
  refine lv_aload_n hx hb dX7_send_130 rfl (lv_at hl 1 rfl) ?_
  refine k_get S hK hP.1 rfl (fun _ h => List.mem_cons_of_mem _ (List.mem_append_right _ (h))) 0 (by decide) (List.mem_cons_of_mem _ (List.mem_append_left _ (List.mem_append_left _ (List.mem_of_getElem? (i := 1) rfl)))) rfl (v := .ref (o + 1)) rfl dX7_send_131 ?_
  refine lv_iconst (v := nI 3) hx hb dX7_send_134 (by decide) ?_
  refine lv_dup2_11 hx hb dX7_send_135 rfl rfl ?_
  refine k_iald hx hb hK hP.2.1 (by omega) (by decide) (v := z 3) ((upd_n (by omega)).trans ((upd_n (by omega)).trans ((upd_n (by omega)).trans ((upd_n (by omega)).trans (rfl))))) dX7_send_136 ?_
  refine lv_iload_n hx hb dX7_send_137 rfl (lv_at hl 3 rfl) ?_
  refine lv_iconst (v := nI 4) hx hb dX7_send_138 (by decide) ?_
  refine n_ine (tgt := 146) hx hb dX7_send_139 (by decide) (by omega) (by omega) (fun c139 => ?_) (fun h => absurd h (by decide))
  refine lv_iconst (v := nI 0) hx hb dX7_send_146 (by decide) ?_
  refine lv_iadd hx hb dX7_send_147 ?_
  refine md_ast_z hx hb hK hP (by omega) hS (fun _ h => h) dX7_send_148 (fun H locs hP zH fH hS => ?_)
  refine lv_aload_n hx hb dX7_send_149 rfl (lv_at hl 1 rfl) ?_
  refine k_get S hK hP.1 rfl (fun _ h => List.mem_cons_of_mem _ (List.mem_append_right _ (h))) 0 (by decide) (List.mem_cons_of_mem _ (List.mem_append_left _ (List.mem_append_left _ (List.mem_of_getElem? (i := 1) rfl)))) rfl (v := .ref (o + 1)) rfl dX7_send_150 ?_
  refine lv_aload_n hx hb dX7_send_153 rfl (lv_at hl 1 rfl) ?_
  refine lv_iload_n hx hb dX7_send_154 rfl (lv_at hl 2 rfl) ?_
  refine k_V (As := [.int (nI u)]) (rest := [.ref (o + 1)]) S hK (c_X7_sellerOf l E o (upd (upd (upd (upd (upd z (13*u + 68) (nI 3)) (13*u + 69) ((z (13*u + 69)) + (nI 0))) (13*u + 73) (brg z u 3)) 2 ((z 2) + (nI 0))) 3 ((z 3) + (nI 0))) (svW z (w_th w (nI 0)) sn) u (iv_sn5 (r := 3) hI (by decide) ht1) (show u < cn (sn5 z u 3) by rw [cn_sn5]; exact hu)) gX7_send_X7_sellerOf rfl hd_X7_sellerOf ⟨rfl, rfl⟩ ⟨Nat.le_of_ble_eq_true rfl, Nat.le_of_ble_eq_true rfl⟩ (k_recv hK hP.1 rfl) hP rfl hl.1 rfl (Nat.le_of_ble_eq_true rfl) dX7_send_155 ⟨Nat.le_of_ble_eq_true rfl, Nat.le_of_ble_eq_true rfl⟩ ?_
  have hq1 : pv (upd (upd (upd (upd (upd z (13*u + 68) (nI 3)) (13*u + 69) ((z (13*u + 69)) + (nI 0))) (13*u + 73) (brg z u 3)) 2 ((z 2) + (nI 0))) 3 ((z 3) + (nI 0))) (up (upd (upd (upd (upd (upd z (13*u + 68) (nI 3)) (13*u + 69) ((z (13*u + 69)) + (nI 0))) (13*u + 73) (brg z u 3)) 2 ((z 2) + (nI 0))) 3 ((z 3) + (nI 0))) u) < 4 := iv_pvl (iv_sn5 (r := 3) hI (by decide) ht1) (iv_upl (iv_sn5 (r := 3) hI (by decide) ht1) (show u < cn (sn5 z u 3) by rw [cn_sn5]; exact hu))
  refine k_top (y := nI (pv z (up z u))) (pvn_sn5 (r := 3) hI hu) ?_
  refine k_S (As := [.int (nI (pv z (up z u)))]) (rest := [.ref (o + 1)]) S hK (c_X7_seller l E (pv z (up z u))) gX7_send_X7_seller rfl hd_X7_seller ⟨rfl, rfl⟩ ⟨Nat.le_of_ble_eq_true rfl, Nat.le_of_ble_eq_true rfl⟩ trivial rfl hl.1 rfl (Nat.le_of_ble_eq_true rfl) dX7_send_158 ⟨Nat.le_of_ble_eq_true rfl, Nat.le_of_ble_eq_true rfl⟩ ?_
  refine lv_iconst (v := nI 3) hx hb dX7_send_161 (by decide) ?_
  refine n_iadd (n := 8*pv z (up z u) + 33) hx hb dX7_send_162 (by omega) ?_
  refine lv_dup2_11 hx hb dX7_send_163 rfl rfl ?_
  refine k_iald hx hb hK hP.2.1 (by omega) (by decide) (v := z (8*pv z (up z u) + 33)) ((upd_n (by omega)).trans ((upd_n (by omega)).trans ((upd_n (by omega)).trans ((upd_n (by omega)).trans ((upd_n (by omega)).trans (rfl)))))) dX7_send_164 ?_
  refine lv_iload_n hx hb dX7_send_165 rfl (lv_at hl 3 rfl) ?_
  refine lv_iconst (v := nI 4) hx hb dX7_send_166 (by decide) ?_
  refine n_ine (tgt := 174) hx hb dX7_send_167 (by decide) (by omega) (by omega) (fun c167 => ?_) (fun h => absurd h (by decide))
  refine lv_iconst (v := nI 0) hx hb dX7_send_174 (by decide) ?_
  refine lv_iadd hx hb dX7_send_175 ?_
  refine md_ast_z hx hb hK hP (by omega) hS (fun _ h => h) dX7_send_176 (fun H locs hP zH fH hS => ?_)
  refine lv_iload_n hx hb dX7_send_177 rfl (lv_at hl 0 rfl) ?_
  exact k_iretM hx hb hr hlk dX7_send_178 hS (show md E o (sdZ z u 3) (svW z (w_th w (nI 0)) sn) _ from hP) (rfl)
def rm_X7_send_f3_4 : Room := { frames := 4, cells := 0, slots := 0, locals := 92 }
set_option maxHeartbeats 4000000 in
set_option maxRecDepth 100000 in
theorem c_X7_send_f3_4 (l : Launch) (E : ke_E) (o : Nat) (z : Nat → Int32) (w : md_w) (u : Nat) (hI : iv z) (hu : u < cn z) (h1 : ¬ wy4 z u = 0) : Met l yX7_send wsX7_send rm_X7_send_f3_4 (kp E [.ref o, .int (nI u), .int (nI 4)] (md E o z w)) (qm (some (.int (nI 0))) (bl o 6) (md E o z (w_th w (nI 3)))) 0 0 (bl o 6) := by
  refine k_hd (cc := cX7_send) (maxL := 4) (ret := (some .int)) (by decide) rfl (Nat.le_of_ble_eq_true rfl) ?_
  intro p e s m below meth c ls S hr hlk hnm hK hP hl
  have hx := S.1
  have hb := S.2.1
  have hts := S.2.2.2.2
  have hP : md E o z w s.heap := hP
  have hl : lv_has ls 4 [(0, .ref o), (1, .int (nI u)), (2, .int (nI 4))] := hl
  have hS : va_S (bl o 6) s.heap s.heap [] := va_S.rf
  have hcn := iv_c hI
  refine lv_aload_n hx hb dX7_send_0 rfl (lv_at hl 0 rfl) ?_
  refine lv_iconst (v := nI 0) hx hb dX7_send_1 (by decide) ?_
  refine md_put (w' := w_th w (nI 0)) S hK hP (fun _ h => List.mem_cons_of_mem _ (List.mem_append_right _ (h))) 6 (by decide) (List.mem_cons_of_mem _ (List.mem_append_left _ (List.mem_append_left _ (List.mem_of_getElem? (i := 0) rfl)))) rfl rfl rfl rfl rfl rfl rfl rfl rfl hS (fun _ h => h) dX7_send_2 (fun H locs hP zH fH hS => ?_)
  refine lv_aload_n hx hb dX7_send_5 rfl (lv_at hl 0 rfl) ?_
  refine lv_iload_n hx hb dX7_send_6 rfl (lv_at hl 1 rfl) ?_
  refine k_V (As := [.int (nI u)]) (rest := []) S hK (c_X7_isUnit l E o z (w_th w (nI 0)) (nI u) hI) gX7_send_X7_isUnit rfl hd_X7_isUnit ⟨rfl, rfl⟩ ⟨Nat.le_of_ble_eq_true rfl, Nat.le_of_ble_eq_true rfl⟩ (k_recv hK hP.1 rfl) hP rfl hl.1 rfl (Nat.le_of_ble_eq_true rfl) dX7_send_7 ⟨Nat.le_of_ble_eq_true rfl, Nat.le_of_ble_eq_true rfl⟩ ?_
  refine b_ne (tgt := 19) hx hb dX7_send_10 (by decide) (fun c10 => ?_) (fun h => absurd (isU hu (by omega)) h)
  refine lv_iload_n hx hb dX7_send_19 rfl (lv_at hl 2 rfl) ?_
  refine lv_iconst (v := nI 1) hx hb dX7_send_20 (by decide) ?_
  refine lv_iconst (v := nI 4) hx hb dX7_send_21 (by decide) ?_
  refine k_S (As := [.int (nI 4), .int (nI 1), .int (nI 4)]) (rest := []) S hK (c_X7_in l E (nI 4) (nI 1) (nI 4)) gX7_send_X7_in rfl hd_X7_in ⟨rfl, rfl⟩ ⟨Nat.le_of_ble_eq_true rfl, Nat.le_of_ble_eq_true rfl⟩ trivial rfl hl.1 rfl (Nat.le_of_ble_eq_true rfl) dX7_send_22 ⟨Nat.le_of_ble_eq_true rfl, Nat.le_of_ble_eq_true rfl⟩ ?_
  refine b_ne (tgt := 34) hx hb dX7_send_25 (by decide) (fun c25 => ?_) (fun h => absurd (in_n (by decide) (by decide) (by decide)) h)
  refine lv_aload_n hx hb dX7_send_34 rfl (lv_at hl 0 rfl) ?_
  refine lv_iload_n hx hb dX7_send_35 rfl (lv_at hl 1 rfl) ?_
  refine lv_iload_n hx hb dX7_send_36 rfl (lv_at hl 2 rfl) ?_
  refine k_V (As := [.int (nI u), .int (nI 4)]) (rest := []) S hK (c_X7_why_4 l E o z (w_th w (nI 0)) u hI hu) gX7_send_X7_why rfl hd_X7_why ⟨rfl, rfl⟩ ⟨Nat.le_of_ble_eq_true rfl, Nat.le_of_ble_eq_true rfl⟩ (k_recv hK hP.1 rfl) hP rfl hl.1 rfl (Nat.le_of_ble_eq_true rfl) dX7_send_37 ⟨Nat.le_of_ble_eq_true rfl, Nat.le_of_ble_eq_true rfl⟩ ?_
  refine lv_if_eq (tgt := 49) hx hb dX7_send_40 (by decide) (fun h => absurd h h1) (fun c40 => ?_)
  refine lv_aload_n hx hb dX7_send_43 rfl (lv_at hl 0 rfl) ?_
  refine lv_iconst (v := nI 3) hx hb dX7_send_44 (by decide) ?_
  refine k_VM (As := [.int (nI 3)]) (rest := []) S hK (c_X7_fails l E o z (w_th w (nI 0)) (nI 3)) gX7_send_X7_fails rfl hd_X7_fails ⟨rfl, rfl⟩ ⟨Nat.le_of_ble_eq_true rfl, Nat.le_of_ble_eq_true rfl⟩ (k_recv hK hP.1 rfl) hP rfl hl.1 rfl (Nat.le_of_ble_eq_true rfl) dX7_send_45 ⟨Nat.le_of_ble_eq_true rfl, Nat.le_of_ble_eq_true rfl⟩ hS (fun q h => h) (fun q h => h) (fun H locs hQ zH fH hS => ?_)
  have hP := hQ
  exact k_iretM hx hb hr hlk dX7_send_48 hS (show md E o z (w_th w (nI 3)) _ from hP) (rfl)
def rm_X7_send_4 : Room := { frames := 4, cells := 0, slots := 0, locals := 92 }
set_option maxHeartbeats 4000000 in
set_option maxRecDepth 100000 in
theorem c_X7_send_4 (l : Launch) (E : ke_E) (o : Nat) (z : Nat → Int32) (w : md_w) (u : Nat) (sn : Nat) (hI : iv z) (hu : u < cn z) (h1 : wy4 z u = 0) (hs : q_sm w = nI sn) (hn : sn ≤ 6) : Met l yX7_send wsX7_send rm_X7_send_4 (kp E [.ref o, .int (nI u), .int (nI 4)] (md E o z w)) (qm (some (.int (brg z u 4))) (bl o 6) (md E o (sdZ z u 4) (svW z (w_th w (nI 0)) sn))) 0 0 (bl o 6) := by
  refine k_hd (cc := cX7_send) (maxL := 4) (ret := (some .int)) (by decide) rfl (Nat.le_of_ble_eq_true rfl) ?_
  intro p e s m below meth c ls S hr hlk hnm hK hP hl
  have hx := S.1
  have hb := S.2.1
  have hts := S.2.2.2.2
  have hP : md E o z w s.heap := hP
  have hl : lv_has ls 4 [(0, .ref o), (1, .int (nI u)), (2, .int (nI 4))] := hl
  have hS : va_S (bl o 6) s.heap s.heap [] := va_S.rf
  have hcn := iv_c hI
  have ht1 : 4 = 1 → tst z u := fun q => absurd q (by decide)
  have hpv4 := iv_pvl hI (iv_upl hI hu)
  refine lv_aload_n hx hb dX7_send_0 rfl (lv_at hl 0 rfl) ?_
  refine lv_iconst (v := nI 0) hx hb dX7_send_1 (by decide) ?_
  refine md_put (w' := w_th w (nI 0)) S hK hP (fun _ h => List.mem_cons_of_mem _ (List.mem_append_right _ (h))) 6 (by decide) (List.mem_cons_of_mem _ (List.mem_append_left _ (List.mem_append_left _ (List.mem_of_getElem? (i := 0) rfl)))) rfl rfl rfl rfl rfl rfl rfl rfl rfl hS (fun _ h => h) dX7_send_2 (fun H locs hP zH fH hS => ?_)
  refine lv_aload_n hx hb dX7_send_5 rfl (lv_at hl 0 rfl) ?_
  refine lv_iload_n hx hb dX7_send_6 rfl (lv_at hl 1 rfl) ?_
  refine k_V (As := [.int (nI u)]) (rest := []) S hK (c_X7_isUnit l E o z (w_th w (nI 0)) (nI u) hI) gX7_send_X7_isUnit rfl hd_X7_isUnit ⟨rfl, rfl⟩ ⟨Nat.le_of_ble_eq_true rfl, Nat.le_of_ble_eq_true rfl⟩ (k_recv hK hP.1 rfl) hP rfl hl.1 rfl (Nat.le_of_ble_eq_true rfl) dX7_send_7 ⟨Nat.le_of_ble_eq_true rfl, Nat.le_of_ble_eq_true rfl⟩ ?_
  refine b_ne (tgt := 19) hx hb dX7_send_10 (by decide) (fun c10 => ?_) (fun h => absurd (isU hu (by omega)) h)
  refine lv_iload_n hx hb dX7_send_19 rfl (lv_at hl 2 rfl) ?_
  refine lv_iconst (v := nI 1) hx hb dX7_send_20 (by decide) ?_
  refine lv_iconst (v := nI 4) hx hb dX7_send_21 (by decide) ?_
  refine k_S (As := [.int (nI 4), .int (nI 1), .int (nI 4)]) (rest := []) S hK (c_X7_in l E (nI 4) (nI 1) (nI 4)) gX7_send_X7_in rfl hd_X7_in ⟨rfl, rfl⟩ ⟨Nat.le_of_ble_eq_true rfl, Nat.le_of_ble_eq_true rfl⟩ trivial rfl hl.1 rfl (Nat.le_of_ble_eq_true rfl) dX7_send_22 ⟨Nat.le_of_ble_eq_true rfl, Nat.le_of_ble_eq_true rfl⟩ ?_
  refine b_ne (tgt := 34) hx hb dX7_send_25 (by decide) (fun c25 => ?_) (fun h => absurd (in_n (by decide) (by decide) (by decide)) h)
  refine lv_aload_n hx hb dX7_send_34 rfl (lv_at hl 0 rfl) ?_
  refine lv_iload_n hx hb dX7_send_35 rfl (lv_at hl 1 rfl) ?_
  refine lv_iload_n hx hb dX7_send_36 rfl (lv_at hl 2 rfl) ?_
  refine k_V (As := [.int (nI u), .int (nI 4)]) (rest := []) S hK (c_X7_why_4 l E o z (w_th w (nI 0)) u hI hu) gX7_send_X7_why rfl hd_X7_why ⟨rfl, rfl⟩ ⟨Nat.le_of_ble_eq_true rfl, Nat.le_of_ble_eq_true rfl⟩ (k_recv hK hP.1 rfl) hP rfl hl.1 rfl (Nat.le_of_ble_eq_true rfl) dX7_send_37 ⟨Nat.le_of_ble_eq_true rfl, Nat.le_of_ble_eq_true rfl⟩ ?_
  refine lv_if_eq (tgt := 49) hx hb dX7_send_40 (by decide) (fun c40 => ?_) (fun h => absurd h1 h)
  refine lv_aload_n hx hb dX7_send_49 rfl (lv_at hl 0 rfl) ?_
  refine k_VM (As := []) (rest := []) S hK (c_X7_save l E o z (w_th w (nI 0)) sn hs hn) gX7_send_X7_save rfl hd_X7_save ⟨rfl, rfl⟩ ⟨Nat.le_of_ble_eq_true rfl, Nat.le_of_ble_eq_true rfl⟩ (k_recv hK hP.1 rfl) hP rfl hl.1 rfl (Nat.le_of_ble_eq_true rfl) dX7_send_50 ⟨Nat.le_of_ble_eq_true rfl, Nat.le_of_ble_eq_true rfl⟩ hS (fun q h => h) (fun q h => h) (fun H locs hQ zH fH hS => ?_)
  have hP := hQ
  refine lv_aload_n hx hb dX7_send_53 rfl (lv_at hl 0 rfl) ?_
  refine lv_iload_n hx hb dX7_send_54 rfl (lv_at hl 1 rfl) ?_
  refine lv_iload_n hx hb dX7_send_55 rfl (lv_at hl 2 rfl) ?_
  refine k_V (As := [.int (nI u), .int (nI 4)]) (rest := []) S hK (c_X7_brings l E o z (svW z (w_th w (nI 0)) sn) u 4 hI hu (by omega)) gX7_send_X7_brings rfl hd_X7_brings ⟨rfl, rfl⟩ ⟨Nat.le_of_ble_eq_true rfl, Nat.le_of_ble_eq_true rfl⟩ (k_recv hK hP.1 rfl) hP rfl hl.1 rfl (Nat.le_of_ble_eq_true rfl) dX7_send_56 ⟨Nat.le_of_ble_eq_true rfl, Nat.le_of_ble_eq_true rfl⟩ ?_
  refine lv_istore_n (lv' := [(3, .int (brg z u 4)), (0, .ref o), (1, .int (nI u)), (2, .int (nI 4))]) hx hb dX7_send_59 rfl hl (by decide) rfl (fun ls hl => ?_)
  refine lv_aload_n hx hb dX7_send_60 rfl (lv_at hl 1 rfl) ?_
  refine k_get S hK hP.1 rfl (fun _ h => List.mem_cons_of_mem _ (List.mem_append_right _ (h))) 0 (by decide) (List.mem_cons_of_mem _ (List.mem_append_left _ (List.mem_append_left _ (List.mem_of_getElem? (i := 1) rfl)))) rfl (v := .ref (o + 1)) rfl dX7_send_61 ?_
  refine lv_iload_n hx hb dX7_send_64 rfl (lv_at hl 2 rfl) ?_
  refine k_S (As := [.int (nI u)]) (rest := [.ref (o + 1)]) S hK (c_X7_at l E u) gX7_send_X7_at rfl hd_X7_at ⟨rfl, rfl⟩ ⟨Nat.le_of_ble_eq_true rfl, Nat.le_of_ble_eq_true rfl⟩ trivial rfl hl.1 rfl (Nat.le_of_ble_eq_true rfl) dX7_send_65 ⟨Nat.le_of_ble_eq_true rfl, Nat.le_of_ble_eq_true rfl⟩ ?_
  refine lv_bipush (v := nI 6) hx hb dX7_send_68 (by decide) ?_
  refine n_iadd (n := 13*u + 68) hx hb dX7_send_70 (by omega) ?_
  refine lv_iload_n hx hb dX7_send_71 rfl (lv_at hl 3 rfl) ?_
  refine md_ast_z hx hb hK hP (by omega) hS (fun _ h => h) dX7_send_72 (fun H locs hP zH fH hS => ?_)
  refine lv_aload_n hx hb dX7_send_73 rfl (lv_at hl 1 rfl) ?_
  refine k_get S hK hP.1 rfl (fun _ h => List.mem_cons_of_mem _ (List.mem_append_right _ (h))) 0 (by decide) (List.mem_cons_of_mem _ (List.mem_append_left _ (List.mem_append_left _ (List.mem_of_getElem? (i := 1) rfl)))) rfl (v := .ref (o + 1)) rfl dX7_send_74 ?_
  refine lv_iload_n hx hb dX7_send_77 rfl (lv_at hl 2 rfl) ?_
  refine k_S (As := [.int (nI u)]) (rest := [.ref (o + 1)]) S hK (c_X7_at l E u) gX7_send_X7_at rfl hd_X7_at ⟨rfl, rfl⟩ ⟨Nat.le_of_ble_eq_true rfl, Nat.le_of_ble_eq_true rfl⟩ trivial rfl hl.1 rfl (Nat.le_of_ble_eq_true rfl) dX7_send_78 ⟨Nat.le_of_ble_eq_true rfl, Nat.le_of_ble_eq_true rfl⟩ ?_
  refine lv_bipush (v := nI 7) hx hb dX7_send_81 (by decide) ?_
  refine n_iadd (n := 13*u + 69) hx hb dX7_send_83 (by omega) ?_
  refine lv_dup2_11 hx hb dX7_send_84 rfl rfl ?_
  refine k_iald hx hb hK hP.2.1 (by omega) (by decide) (v := z (13*u + 69)) ((upd_n (by omega)).trans (rfl)) dX7_send_85 ?_
  refine lv_iload_n hx hb dX7_send_86 rfl (lv_at hl 3 rfl) ?_
  refine lv_iconst (v := nI 1) hx hb dX7_send_87 (by decide) ?_
  refine n_ine (tgt := 95) hx hb dX7_send_88 (by decide) (by omega) (by omega) (fun c88 => ?_) (fun h => absurd h (by decide))
  refine lv_iconst (v := nI 0) hx hb dX7_send_95 (by decide) ?_
  refine lv_iadd hx hb dX7_send_96 ?_
  refine md_ast_z hx hb hK hP (by omega) hS (fun _ h => h) dX7_send_97 (fun H locs hP zH fH hS => ?_)
  refine lv_aload_n hx hb dX7_send_98 rfl (lv_at hl 1 rfl) ?_
  refine k_get S hK hP.1 rfl (fun _ h => List.mem_cons_of_mem _ (List.mem_append_right _ (h))) 0 (by decide) (List.mem_cons_of_mem _ (List.mem_append_left _ (List.mem_append_left _ (List.mem_of_getElem? (i := 1) rfl)))) rfl (v := .ref (o + 1)) rfl dX7_send_99 ?_
  refine lv_iload_n hx hb dX7_send_102 rfl (lv_at hl 2 rfl) ?_
  refine k_S (As := [.int (nI u)]) (rest := [.ref (o + 1)]) S hK (c_X7_at l E u) gX7_send_X7_at rfl hd_X7_at ⟨rfl, rfl⟩ ⟨Nat.le_of_ble_eq_true rfl, Nat.le_of_ble_eq_true rfl⟩ trivial rfl hl.1 rfl (Nat.le_of_ble_eq_true rfl) dX7_send_103 ⟨Nat.le_of_ble_eq_true rfl, Nat.le_of_ble_eq_true rfl⟩ ?_
  refine lv_bipush (v := nI 11) hx hb dX7_send_106 (by decide) ?_
  refine n_iadd (n := 13*u + 73) hx hb dX7_send_108 (by omega) ?_
  refine lv_iload_n hx hb dX7_send_109 rfl (lv_at hl 0 rfl) ?_
  refine md_ast_z hx hb hK hP (by omega) hS (fun _ h => h) dX7_send_110 (fun H locs hP zH fH hS => ?_)
  refine lv_aload_n hx hb dX7_send_111 rfl (lv_at hl 1 rfl) ?_
  refine k_get S hK hP.1 rfl (fun _ h => List.mem_cons_of_mem _ (List.mem_append_right _ (h))) 0 (by decide) (List.mem_cons_of_mem _ (List.mem_append_left _ (List.mem_append_left _ (List.mem_of_getElem? (i := 1) rfl)))) rfl (v := .ref (o + 1)) rfl dX7_send_112 ?_
  refine lv_iconst (v := nI 2) hx hb dX7_send_115 (by decide) ?_
  refine lv_dup2_11 hx hb dX7_send_116 rfl rfl ?_
  refine k_iald hx hb hK hP.2.1 (by omega) (by decide) (v := z 2) ((upd_n (by omega)).trans ((upd_n (by omega)).trans ((upd_n (by omega)).trans (rfl)))) dX7_send_117 ?_
  refine lv_iload_n hx hb dX7_send_118 rfl (lv_at hl 3 rfl) ?_
  refine lv_iconst (v := nI 2) hx hb dX7_send_119 (by decide) ?_
  refine n_ine (tgt := 127) hx hb dX7_send_120 (by decide) (by omega) (by omega) (fun c120 => ?_) (fun h => absurd h (by decide))
  refine lv_iconst (v := nI 0) hx hb dX7_send_127 (by decide) ?_
  refine lv_iadd hx hb dX7_send_128 ?_
  refine md_ast_z hx hb hK hP (by omega) hS (fun _ h => h) dX7_send_129 (fun H locs hP zH fH hS => ?_)
  refine lv_aload_n hx hb dX7_send_130 rfl (lv_at hl 1 rfl) ?_
  refine k_get S hK hP.1 rfl (fun _ h => List.mem_cons_of_mem _ (List.mem_append_right _ (h))) 0 (by decide) (List.mem_cons_of_mem _ (List.mem_append_left _ (List.mem_append_left _ (List.mem_of_getElem? (i := 1) rfl)))) rfl (v := .ref (o + 1)) rfl dX7_send_131 ?_
  refine lv_iconst (v := nI 3) hx hb dX7_send_134 (by decide) ?_
  refine lv_dup2_11 hx hb dX7_send_135 rfl rfl ?_
  refine k_iald hx hb hK hP.2.1 (by omega) (by decide) (v := z 3) ((upd_n (by omega)).trans ((upd_n (by omega)).trans ((upd_n (by omega)).trans ((upd_n (by omega)).trans (rfl))))) dX7_send_136 ?_
  refine lv_iload_n hx hb dX7_send_137 rfl (lv_at hl 3 rfl) ?_
  refine lv_iconst (v := nI 4) hx hb dX7_send_138 (by decide) ?_
  refine n_ine (tgt := 146) hx hb dX7_send_139 (by decide) (by omega) (by omega) (fun h => absurd h (by decide)) (fun c139 => ?_)
  refine lv_iload_n hx hb dX7_send_142 rfl (lv_at hl 0 rfl) ?_
  refine lv_goto (tgt := 147) hx hb dX7_send_143 (by decide) ?_
  refine lv_iadd hx hb dX7_send_147 ?_
  refine md_ast_z hx hb hK hP (by omega) hS (fun _ h => h) dX7_send_148 (fun H locs hP zH fH hS => ?_)
  refine lv_aload_n hx hb dX7_send_149 rfl (lv_at hl 1 rfl) ?_
  refine k_get S hK hP.1 rfl (fun _ h => List.mem_cons_of_mem _ (List.mem_append_right _ (h))) 0 (by decide) (List.mem_cons_of_mem _ (List.mem_append_left _ (List.mem_append_left _ (List.mem_of_getElem? (i := 1) rfl)))) rfl (v := .ref (o + 1)) rfl dX7_send_150 ?_
  refine lv_aload_n hx hb dX7_send_153 rfl (lv_at hl 1 rfl) ?_
  refine lv_iload_n hx hb dX7_send_154 rfl (lv_at hl 2 rfl) ?_
  refine k_V (As := [.int (nI u)]) (rest := [.ref (o + 1)]) S hK (c_X7_sellerOf l E o (upd (upd (upd (upd (upd z (13*u + 68) (nI 4)) (13*u + 69) ((z (13*u + 69)) + (nI 0))) (13*u + 73) (brg z u 4)) 2 ((z 2) + (nI 0))) 3 ((z 3) + (brg z u 4))) (svW z (w_th w (nI 0)) sn) u (iv_sn5 (r := 4) hI (by decide) ht1) (show u < cn (sn5 z u 4) by rw [cn_sn5]; exact hu)) gX7_send_X7_sellerOf rfl hd_X7_sellerOf ⟨rfl, rfl⟩ ⟨Nat.le_of_ble_eq_true rfl, Nat.le_of_ble_eq_true rfl⟩ (k_recv hK hP.1 rfl) hP rfl hl.1 rfl (Nat.le_of_ble_eq_true rfl) dX7_send_155 ⟨Nat.le_of_ble_eq_true rfl, Nat.le_of_ble_eq_true rfl⟩ ?_
  have hq1 : pv (upd (upd (upd (upd (upd z (13*u + 68) (nI 4)) (13*u + 69) ((z (13*u + 69)) + (nI 0))) (13*u + 73) (brg z u 4)) 2 ((z 2) + (nI 0))) 3 ((z 3) + (brg z u 4))) (up (upd (upd (upd (upd (upd z (13*u + 68) (nI 4)) (13*u + 69) ((z (13*u + 69)) + (nI 0))) (13*u + 73) (brg z u 4)) 2 ((z 2) + (nI 0))) 3 ((z 3) + (brg z u 4))) u) < 4 := iv_pvl (iv_sn5 (r := 4) hI (by decide) ht1) (iv_upl (iv_sn5 (r := 4) hI (by decide) ht1) (show u < cn (sn5 z u 4) by rw [cn_sn5]; exact hu))
  refine k_top (y := nI (pv z (up z u))) (pvn_sn5 (r := 4) hI hu) ?_
  refine k_S (As := [.int (nI (pv z (up z u)))]) (rest := [.ref (o + 1)]) S hK (c_X7_seller l E (pv z (up z u))) gX7_send_X7_seller rfl hd_X7_seller ⟨rfl, rfl⟩ ⟨Nat.le_of_ble_eq_true rfl, Nat.le_of_ble_eq_true rfl⟩ trivial rfl hl.1 rfl (Nat.le_of_ble_eq_true rfl) dX7_send_158 ⟨Nat.le_of_ble_eq_true rfl, Nat.le_of_ble_eq_true rfl⟩ ?_
  refine lv_iconst (v := nI 3) hx hb dX7_send_161 (by decide) ?_
  refine n_iadd (n := 8*pv z (up z u) + 33) hx hb dX7_send_162 (by omega) ?_
  refine lv_dup2_11 hx hb dX7_send_163 rfl rfl ?_
  refine k_iald hx hb hK hP.2.1 (by omega) (by decide) (v := z (8*pv z (up z u) + 33)) ((upd_n (by omega)).trans ((upd_n (by omega)).trans ((upd_n (by omega)).trans ((upd_n (by omega)).trans ((upd_n (by omega)).trans (rfl)))))) dX7_send_164 ?_
  refine lv_iload_n hx hb dX7_send_165 rfl (lv_at hl 3 rfl) ?_
  refine lv_iconst (v := nI 4) hx hb dX7_send_166 (by decide) ?_
  refine n_ine (tgt := 174) hx hb dX7_send_167 (by decide) (by omega) (by omega) (fun h => absurd h (by decide)) (fun c167 => ?_)
  refine lv_iload_n hx hb dX7_send_170 rfl (lv_at hl 0 rfl) ?_
  refine lv_goto (tgt := 175) hx hb dX7_send_171 (by decide) ?_
  refine lv_iadd hx hb dX7_send_175 ?_
  refine md_ast_z hx hb hK hP (by omega) hS (fun _ h => h) dX7_send_176 (fun H locs hP zH fH hS => ?_)
  refine lv_iload_n hx hb dX7_send_177 rfl (lv_at hl 0 rfl) ?_
  exact k_iretM hx hb hr hlk dX7_send_178 hS (show md E o (sdZ z u 4) (svW z (w_th w (nI 0)) sn) _ from hP) (rfl)
def rm_X7_pass_f1 : Room := { frames := 1, cells := 0, slots := 0, locals := 22 }
theorem hd_X7_pass : k_hd1 yX7_pass RX7 1 := by decide +kernel
set_option maxHeartbeats 4000000 in
set_option maxRecDepth 100000 in
theorem c_X7_pass_f1 (l : Launch) (E : ke_E) (o : Nat) (z : Nat → Int32) (w : md_w) (y : Int32) (hI : iv z) (h1 : ¬ (nI 1 ≤ y ∧ y ≤ nI 30)) : Met l yX7_pass wsX7_pass rm_X7_pass_f1 (kp E [.ref o, .int y] (md E o z w)) (qm (some (.int (nI 0))) (bl o 6) (md E o z (w_th w (nI 1)))) 0 0 (bl o 6) := by
  refine k_hd (cc := cX7_pass) (maxL := 4) (ret := (some .int)) (by decide) rfl (Nat.le_of_ble_eq_true rfl) ?_
  intro p e s m below meth c ls S hr hlk hnm hK hP hl
  have hx := S.1
  have hb := S.2.1
  have hts := S.2.2.2.2
  have hP : md E o z w s.heap := hP
  have hl : lv_has ls 4 [(0, .ref o), (1, .int y)] := hl
  have hS : va_S (bl o 6) s.heap s.heap [] := va_S.rf
  have hcn := iv_c hI
  refine lv_aload_n hx hb dX7_pass_0 rfl (lv_at hl 0 rfl) ?_
  refine lv_iconst (v := nI 0) hx hb dX7_pass_1 (by decide) ?_
  refine md_put (w' := w_th w (nI 0)) S hK hP (fun _ h => List.mem_cons_of_mem _ (List.mem_append_right _ (h))) 6 (by decide) (List.mem_cons_of_mem _ (List.mem_append_left _ (List.mem_append_left _ (List.mem_of_getElem? (i := 0) rfl)))) rfl rfl rfl rfl rfl rfl rfl rfl rfl hS (fun _ h => h) dX7_pass_2 (fun H locs hP zH fH hS => ?_)
  refine lv_iload_n hx hb dX7_pass_5 rfl (lv_at hl 1 rfl) ?_
  refine lv_iconst (v := nI 1) hx hb dX7_pass_6 (by decide) ?_
  refine lv_bipush (v := nI 30) hx hb dX7_pass_7 (by decide) ?_
  refine k_S (As := [.int y, .int (nI 1), .int (nI 30)]) (rest := []) S hK (c_X7_in l E y (nI 1) (nI 30)) gX7_pass_X7_in rfl hd_X7_in ⟨rfl, rfl⟩ ⟨Nat.le_of_ble_eq_true rfl, Nat.le_of_ble_eq_true rfl⟩ trivial rfl hl.1 rfl (Nat.le_of_ble_eq_true rfl) dX7_pass_9 ⟨Nat.le_of_ble_eq_true rfl, Nat.le_of_ble_eq_true rfl⟩ ?_
  refine b_ne (tgt := 21) hx hb dX7_pass_12 (by decide) (fun h => absurd h h1) (fun c12 => ?_)
  refine lv_aload_n hx hb dX7_pass_15 rfl (lv_at hl 0 rfl) ?_
  refine lv_iconst (v := nI 1) hx hb dX7_pass_16 (by decide) ?_
  refine k_VM (As := [.int (nI 1)]) (rest := []) S hK (c_X7_fails l E o z (w_th w (nI 0)) (nI 1)) gX7_pass_X7_fails rfl hd_X7_fails ⟨rfl, rfl⟩ ⟨Nat.le_of_ble_eq_true rfl, Nat.le_of_ble_eq_true rfl⟩ (k_recv hK hP.1 rfl) hP rfl hl.1 rfl (Nat.le_of_ble_eq_true rfl) dX7_pass_17 ⟨Nat.le_of_ble_eq_true rfl, Nat.le_of_ble_eq_true rfl⟩ hS (fun q h => h) (fun q h => h) (fun H locs hQ zH fH hS => ?_)
  have hP := hQ
  exact k_iretM hx hb hr hlk dX7_pass_20 hS (show md E o z (w_th w (nI 1)) _ from hP) (rfl)
def rm_X7_pass_f2 : Room := { frames := 1, cells := 0, slots := 0, locals := 22 }
set_option maxHeartbeats 4000000 in
set_option maxRecDepth 100000 in
theorem c_X7_pass_f2 (l : Launch) (E : ke_E) (o : Nat) (z : Nat → Int32) (w : md_w) (n : Nat) (hI : iv z) (hn1 : 1 ≤ n) (hn30 : n ≤ 30) (h1 : ¬ z 1 + nI n ≤ nI 2000) : Met l yX7_pass wsX7_pass rm_X7_pass_f2 (kp E [.ref o, .int (nI n)] (md E o z w)) (qm (some (.int (nI 0))) (bl o 6) (md E o z (w_th w (nI 2)))) 0 0 (bl o 6) := by
  refine k_hd (cc := cX7_pass) (maxL := 4) (ret := (some .int)) (by decide) rfl (Nat.le_of_ble_eq_true rfl) ?_
  intro p e s m below meth c ls S hr hlk hnm hK hP hl
  have hx := S.1
  have hb := S.2.1
  have hts := S.2.2.2.2
  have hP : md E o z w s.heap := hP
  have hl : lv_has ls 4 [(0, .ref o), (1, .int (nI n))] := hl
  have hS : va_S (bl o 6) s.heap s.heap [] := va_S.rf
  have hcn := iv_c hI
  refine lv_aload_n hx hb dX7_pass_0 rfl (lv_at hl 0 rfl) ?_
  refine lv_iconst (v := nI 0) hx hb dX7_pass_1 (by decide) ?_
  refine md_put (w' := w_th w (nI 0)) S hK hP (fun _ h => List.mem_cons_of_mem _ (List.mem_append_right _ (h))) 6 (by decide) (List.mem_cons_of_mem _ (List.mem_append_left _ (List.mem_append_left _ (List.mem_of_getElem? (i := 0) rfl)))) rfl rfl rfl rfl rfl rfl rfl rfl rfl hS (fun _ h => h) dX7_pass_2 (fun H locs hP zH fH hS => ?_)
  refine lv_iload_n hx hb dX7_pass_5 rfl (lv_at hl 1 rfl) ?_
  refine lv_iconst (v := nI 1) hx hb dX7_pass_6 (by decide) ?_
  refine lv_bipush (v := nI 30) hx hb dX7_pass_7 (by decide) ?_
  refine k_S (As := [.int (nI n), .int (nI 1), .int (nI 30)]) (rest := []) S hK (c_X7_in l E (nI n) (nI 1) (nI 30)) gX7_pass_X7_in rfl hd_X7_in ⟨rfl, rfl⟩ ⟨Nat.le_of_ble_eq_true rfl, Nat.le_of_ble_eq_true rfl⟩ trivial rfl hl.1 rfl (Nat.le_of_ble_eq_true rfl) dX7_pass_9 ⟨Nat.le_of_ble_eq_true rfl, Nat.le_of_ble_eq_true rfl⟩ ?_
  refine b_ne (tgt := 21) hx hb dX7_pass_12 (by decide) (fun c12 => ?_) (fun h => absurd (in_n (by omega) (by omega) (by decide)) h)
  refine lv_aload_n hx hb dX7_pass_21 rfl (lv_at hl 0 rfl) ?_
  refine k_get S hK hP.1 rfl (fun _ h => List.mem_cons_of_mem _ (List.mem_append_right _ (h))) 0 (by decide) (List.mem_cons_of_mem _ (List.mem_append_left _ (List.mem_append_left _ (List.mem_of_getElem? (i := 1) rfl)))) rfl (v := .ref (o + 1)) rfl dX7_pass_22 ?_
  refine lv_iconst (v := nI 1) hx hb dX7_pass_25 (by decide) ?_
  refine k_iald hx hb hK hP.2.1 (by omega) (by decide) (v := z 1) rfl dX7_pass_26 ?_
  refine lv_iload_n hx hb dX7_pass_27 rfl (lv_at hl 1 rfl) ?_
  refine lv_iadd hx hb dX7_pass_28 ?_
  refine lv_sipush (v := nI 2000) hx hb dX7_pass_29 (by decide) ?_
  refine lv_icmp_le (tgt := 41) hx hb dX7_pass_32 (by decide) (fun h => absurd h h1) (fun c32 => ?_)
  refine lv_aload_n hx hb dX7_pass_35 rfl (lv_at hl 0 rfl) ?_
  refine lv_iconst (v := nI 2) hx hb dX7_pass_36 (by decide) ?_
  refine k_VM (As := [.int (nI 2)]) (rest := []) S hK (c_X7_fails l E o z (w_th w (nI 0)) (nI 2)) gX7_pass_X7_fails rfl hd_X7_fails ⟨rfl, rfl⟩ ⟨Nat.le_of_ble_eq_true rfl, Nat.le_of_ble_eq_true rfl⟩ (k_recv hK hP.1 rfl) hP rfl hl.1 rfl (Nat.le_of_ble_eq_true rfl) dX7_pass_37 ⟨Nat.le_of_ble_eq_true rfl, Nat.le_of_ble_eq_true rfl⟩ hS (fun q h => h) (fun q h => h) (fun H locs hQ zH fH hS => ?_)
  have hP := hQ
  exact k_iretM hx hb hr hlk dX7_pass_40 hS (show md E o z (w_th w (nI 2)) _ from hP) (rfl)
def rm_X7_pass : Room := { frames := 6, cells := 0, slots := 0, locals := 140 }
set_option maxHeartbeats 4000000 in
set_option maxRecDepth 100000 in
theorem c_X7_pass (l : Launch) (E : ke_E) (o : Nat) (z : Nat → Int32) (w : md_w) (n : Nat) (sn : Nat) (hI : iv z) (hn1 : 1 ≤ n) (hn30 : n ≤ 30) (h1 : z 1 + nI n ≤ nI 2000) (hs : q_sm w = nI sn) (hn : sn ≤ 6) : Met l yX7_pass wsX7_pass rm_X7_pass (kp E [.ref o, .int (nI n)] (md E o z w)) (qm (some (.int (psI z n).2)) (bl o 6) (md E o (psI z n).1 (svW z (w_th w (nI 0)) sn))) 0 0 (bl o 6) := by
  refine k_hd (cc := cX7_pass) (maxL := 4) (ret := (some .int)) (by decide) rfl (Nat.le_of_ble_eq_true rfl) ?_
  intro p e s m below meth c ls S hr hlk hnm hK hP hl
  have hx := S.1
  have hb := S.2.1
  have hts := S.2.2.2.2
  have hP : md E o z w s.heap := hP
  have hl : lv_has ls 4 [(0, .ref o), (1, .int (nI n))] := hl
  have hS : va_S (bl o 6) s.heap s.heap [] := va_S.rf
  have hcn := iv_c hI
  have J49 : ∀ (n_ : Nat), ∀ (k : Nat), k ≤ n → n < k + n_ → ∀ (H : Heap) (locs : List Loc), md E o (psI z k).1 (svW z (w_th w (nI 0)) sn) H → va_S (bl o 6) s.heap H locs → ∀ (ls : Array Slot), lv_has ls 4 [(0, .ref o), (1, .int (nI n)), (2, .int (psI z k).2), (3, .int (nI k))] → W p l e (headSpec wsX7_pass rm_X7_pass).room s m ([.ref o, .int (nI n)] : List Value).toArray below meth c H locs 0 0 (MQ below (qm (some (.int (psI z n).2)) (bl o 6) (md E o (psI z n).1 (svW z (w_th w (nI 0)) sn))) ([.ref o, .int (nI n)] : List Value).toArray s 0 0 (bl o 6)) (F0 m 49 ls []) := by
    intro n_
    induction n_ with
    | zero =>
      intro k hk hn_ _ _ _ _ _ _
      exact absurd hn_ (by omega)
    | succ n_ ih =>
      intro k hk hn_ H locs hW0 hS ls hl
      have hps := psI_iv hI k
      refine lv_iload_n hx hb dX7_pass_49 rfl (lv_at hl 3 rfl) ?_
      refine lv_iload_n hx hb dX7_pass_50 rfl (lv_at hl 1 rfl) ?_
      refine n_ige (tgt := 67) hx hb dX7_pass_51 (by decide) (by omega) (by omega) (fun c51 => ?_) (fun c51 => ?_)
      · refine lv_iload_n hx hb dX7_pass_67 rfl (lv_at hl 2 rfl) ?_
        exact k_iretM hx hb hr hlk dX7_pass_68 hS (show md E o (psI z n).1 (svW z (w_th w (nI 0)) sn) _ from (by rw [show n = k by omega]; exact hW0)) (by rw [show n = k by omega])
      · refine lv_iload_n hx hb dX7_pass_54 rfl (lv_at hl 2 rfl) ?_
        refine lv_aload_n hx hb dX7_pass_55 rfl (lv_at hl 0 rfl) ?_
        refine k_VM (As := []) (rest := [.int (psI z k).2]) S hK (c_X7_day l E o (psI z k).1 (svW z (w_th w (nI 0)) sn) hps.1) gX7_pass_X7_day rfl hd_X7_day ⟨rfl, rfl⟩ ⟨Nat.le_of_ble_eq_true rfl, Nat.le_of_ble_eq_true rfl⟩ (k_recv hK hW0.1 rfl) hW0 rfl hl.1 rfl (Nat.le_of_ble_eq_true rfl) dX7_pass_56 ⟨Nat.le_of_ble_eq_true rfl, Nat.le_of_ble_eq_true rfl⟩ hS (fun q h => h) (fun q h => h) (fun H locs hQ zH fH hS => ?_)
        have hP := hQ
        refine lv_iadd hx hb dX7_pass_59 ?_
        refine lv_istore_n (lv' := [(2, .int ((psI z k).2 + (dyZ (psI z k).1).2)), (0, .ref o), (1, .int (nI n)), (3, .int (nI k))]) hx hb dX7_pass_60 rfl hl (by decide) rfl (fun ls hl => ?_)
        refine lv_iinc (v := nI (k + 1)) (lv' := [(3, .int (nI (k + 1))), (2, .int ((psI z k).2 + (dyZ (psI z k).1).2)), (0, .ref o), (1, .int (nI n))]) hx hb dX7_pass_61 hl (k := 3) rfl (inc_1 _) (by decide) rfl (fun ls hl => ?_)
        refine lv_goto (tgt := 49) hx hb dX7_pass_64 (by decide) ?_
        have hl : lv_has ls 4 [(0, .ref o), (1, .int (nI n)), (2, .int (psI z (k + 1)).2), (3, .int (nI (k + 1)))] := by
          have h9 := lv_sub (l' := [(0, .ref o), (1, .int (nI n)), (2, .int ((psI z k).2 + (dyZ (psI z k).1).2)), (3, .int (nI (k + 1)))]) hl [2, 3, 1, 0] rfl
          rw [show (.int (psI z (k + 1)).2 : Value) = .int ((psI z k).2 + (dyZ (psI z k).1).2) from congrArg Value.int rfl]
          exact h9
        exact ih (k + 1) (by omega) (by omega) _ _ (show md E o (psI z (k + 1)).1 (svW z (w_th w (nI 0)) sn) _ from hP) hS _ hl
  refine lv_aload_n hx hb dX7_pass_0 rfl (lv_at hl 0 rfl) ?_
  refine lv_iconst (v := nI 0) hx hb dX7_pass_1 (by decide) ?_
  refine md_put (w' := w_th w (nI 0)) S hK hP (fun _ h => List.mem_cons_of_mem _ (List.mem_append_right _ (h))) 6 (by decide) (List.mem_cons_of_mem _ (List.mem_append_left _ (List.mem_append_left _ (List.mem_of_getElem? (i := 0) rfl)))) rfl rfl rfl rfl rfl rfl rfl rfl rfl hS (fun _ h => h) dX7_pass_2 (fun H locs hP zH fH hS => ?_)
  refine lv_iload_n hx hb dX7_pass_5 rfl (lv_at hl 1 rfl) ?_
  refine lv_iconst (v := nI 1) hx hb dX7_pass_6 (by decide) ?_
  refine lv_bipush (v := nI 30) hx hb dX7_pass_7 (by decide) ?_
  refine k_S (As := [.int (nI n), .int (nI 1), .int (nI 30)]) (rest := []) S hK (c_X7_in l E (nI n) (nI 1) (nI 30)) gX7_pass_X7_in rfl hd_X7_in ⟨rfl, rfl⟩ ⟨Nat.le_of_ble_eq_true rfl, Nat.le_of_ble_eq_true rfl⟩ trivial rfl hl.1 rfl (Nat.le_of_ble_eq_true rfl) dX7_pass_9 ⟨Nat.le_of_ble_eq_true rfl, Nat.le_of_ble_eq_true rfl⟩ ?_
  refine b_ne (tgt := 21) hx hb dX7_pass_12 (by decide) (fun c12 => ?_) (fun h => absurd (in_n (by omega) (by omega) (by decide)) h)
  refine lv_aload_n hx hb dX7_pass_21 rfl (lv_at hl 0 rfl) ?_
  refine k_get S hK hP.1 rfl (fun _ h => List.mem_cons_of_mem _ (List.mem_append_right _ (h))) 0 (by decide) (List.mem_cons_of_mem _ (List.mem_append_left _ (List.mem_append_left _ (List.mem_of_getElem? (i := 1) rfl)))) rfl (v := .ref (o + 1)) rfl dX7_pass_22 ?_
  refine lv_iconst (v := nI 1) hx hb dX7_pass_25 (by decide) ?_
  refine k_iald hx hb hK hP.2.1 (by omega) (by decide) (v := z 1) rfl dX7_pass_26 ?_
  refine lv_iload_n hx hb dX7_pass_27 rfl (lv_at hl 1 rfl) ?_
  refine lv_iadd hx hb dX7_pass_28 ?_
  refine lv_sipush (v := nI 2000) hx hb dX7_pass_29 (by decide) ?_
  refine lv_icmp_le (tgt := 41) hx hb dX7_pass_32 (by decide) (fun c32 => ?_) (fun h => absurd h1 h)
  refine lv_aload_n hx hb dX7_pass_41 rfl (lv_at hl 0 rfl) ?_
  refine k_VM (As := []) (rest := []) S hK (c_X7_save l E o z (w_th w (nI 0)) sn hs hn) gX7_pass_X7_save rfl hd_X7_save ⟨rfl, rfl⟩ ⟨Nat.le_of_ble_eq_true rfl, Nat.le_of_ble_eq_true rfl⟩ (k_recv hK hP.1 rfl) hP rfl hl.1 rfl (Nat.le_of_ble_eq_true rfl) dX7_pass_42 ⟨Nat.le_of_ble_eq_true rfl, Nat.le_of_ble_eq_true rfl⟩ hS (fun q h => h) (fun q h => h) (fun H locs hQ zH fH hS => ?_)
  have hP := hQ
  refine lv_iconst (v := nI 0) hx hb dX7_pass_45 (by decide) ?_
  refine lv_istore_n (lv' := [(2, .int (nI 0)), (0, .ref o), (1, .int (nI n))]) hx hb dX7_pass_46 rfl hl (by decide) rfl (fun ls hl => ?_)
  refine lv_iconst (v := nI 0) hx hb dX7_pass_47 (by decide) ?_
  refine lv_istore_n (lv' := [(3, .int (nI 0)), (2, .int (nI 0)), (0, .ref o), (1, .int (nI n))]) hx hb dX7_pass_48 rfl hl (by decide) rfl (fun ls hl => ?_)
  have hl : lv_has ls 4 [(0, .ref o), (1, .int (nI n)), (2, .int (psI z 0).2), (3, .int (nI 0))] := by
    have h9 := lv_sub (l' := [(0, .ref o), (1, .int (nI n)), (2, .int (nI 0)), (3, .int (nI 0))]) hl [2, 3, 1, 0] rfl
    rw [show (.int (psI z 0).2 : Value) = .int (nI 0) from congrArg Value.int rfl]
    exact h9
  exact J49 (n + 1) 0 (by omega) (by omega) _ _ (show md E o (psI z 0).1 (svW z (w_th w (nI 0)) sn) _ from hP) hS _ hl
def rm_X7_claim_f1 : Room := { frames := 2, cells := 0, slots := 0, locals := 43 }
theorem hd_X7_claim : k_hd1 yX7_claim RX7 1 := by decide +kernel
set_option maxHeartbeats 4000000 in
set_option maxRecDepth 100000 in
theorem c_X7_claim_f1 (l : Launch) (E : ke_E) (o : Nat) (z : Nat → Int32) (w : md_w) (x : Int32) (hI : iv z) (h1 : ¬ inR x (cn z)) : Met l yX7_claim wsX7_claim rm_X7_claim_f1 (kp E [.ref o, .int x] (md E o z w)) (qm (some (.int (nI 0))) (bl o 6) (md E o z (w_th w (nI 1)))) 0 0 (bl o 6) := by
  refine k_hd (cc := cX7_claim) (maxL := 2) (ret := (some .int)) (by decide) rfl (Nat.le_of_ble_eq_true rfl) ?_
  intro p e s m below meth c ls S hr hlk hnm hK hP hl
  have hx := S.1
  have hb := S.2.1
  have hts := S.2.2.2.2
  have hP : md E o z w s.heap := hP
  have hl : lv_has ls 2 [(0, .ref o), (1, .int x)] := hl
  have hS : va_S (bl o 6) s.heap s.heap [] := va_S.rf
  have hcn := iv_c hI
  refine lv_aload_n hx hb dX7_claim_0 rfl (lv_at hl 0 rfl) ?_
  refine lv_iconst (v := nI 0) hx hb dX7_claim_1 (by decide) ?_
  refine md_put (w' := w_th w (nI 0)) S hK hP (fun _ h => List.mem_cons_of_mem _ (List.mem_append_right _ (h))) 6 (by decide) (List.mem_cons_of_mem _ (List.mem_append_left _ (List.mem_append_left _ (List.mem_of_getElem? (i := 0) rfl)))) rfl rfl rfl rfl rfl rfl rfl rfl rfl hS (fun _ h => h) dX7_claim_2 (fun H locs hP zH fH hS => ?_)
  refine lv_aload_n hx hb dX7_claim_5 rfl (lv_at hl 0 rfl) ?_
  refine lv_iload_n hx hb dX7_claim_6 rfl (lv_at hl 1 rfl) ?_
  refine k_V (As := [.int x]) (rest := []) S hK (c_X7_isUnit l E o z (w_th w (nI 0)) x hI) gX7_claim_X7_isUnit rfl hd_X7_isUnit ⟨rfl, rfl⟩ ⟨Nat.le_of_ble_eq_true rfl, Nat.le_of_ble_eq_true rfl⟩ (k_recv hK hP.1 rfl) hP rfl hl.1 rfl (Nat.le_of_ble_eq_true rfl) dX7_claim_7 ⟨Nat.le_of_ble_eq_true rfl, Nat.le_of_ble_eq_true rfl⟩ ?_
  refine b_ne (tgt := 19) hx hb dX7_claim_10 (by decide) (fun h => absurd h (fun q => h1 ((isU_iff (by omega)).mp q))) (fun c10 => ?_)
  refine lv_aload_n hx hb dX7_claim_13 rfl (lv_at hl 0 rfl) ?_
  refine lv_iconst (v := nI 1) hx hb dX7_claim_14 (by decide) ?_
  refine k_VM (As := [.int (nI 1)]) (rest := []) S hK (c_X7_fails l E o z (w_th w (nI 0)) (nI 1)) gX7_claim_X7_fails rfl hd_X7_fails ⟨rfl, rfl⟩ ⟨Nat.le_of_ble_eq_true rfl, Nat.le_of_ble_eq_true rfl⟩ (k_recv hK hP.1 rfl) hP rfl hl.1 rfl (Nat.le_of_ble_eq_true rfl) dX7_claim_15 ⟨Nat.le_of_ble_eq_true rfl, Nat.le_of_ble_eq_true rfl⟩ hS (fun q h => h) (fun q h => h) (fun H locs hQ zH fH hS => ?_)
  have hP := hQ
  exact k_iretM hx hb hr hlk dX7_claim_18 hS (show md E o z (w_th w (nI 1)) _ from hP) (rfl)
def rm_X7_claim_f2 : Room := { frames := 2, cells := 0, slots := 0, locals := 43 }
set_option maxHeartbeats 4000000 in
set_option maxRecDepth 100000 in
theorem c_X7_claim_f2 (l : Launch) (E : ke_E) (o : Nat) (z : Nat → Int32) (w : md_w) (u : Nat) (hI : iv z) (hu : u < cn z) (h1 : ¬ clOK z u) : Met l yX7_claim wsX7_claim rm_X7_claim_f2 (kp E [.ref o, .int (nI u)] (md E o z w)) (qm (some (.int (nI 0))) (bl o 6) (md E o z (w_th w (nI 2)))) 0 0 (bl o 6) := by
  refine k_hd (cc := cX7_claim) (maxL := 2) (ret := (some .int)) (by decide) rfl (Nat.le_of_ble_eq_true rfl) ?_
  intro p e s m below meth c ls S hr hlk hnm hK hP hl
  have hx := S.1
  have hb := S.2.1
  have hts := S.2.2.2.2
  have hP : md E o z w s.heap := hP
  have hl : lv_has ls 2 [(0, .ref o), (1, .int (nI u))] := hl
  have hS : va_S (bl o 6) s.heap s.heap [] := va_S.rf
  have hcn := iv_c hI
  refine lv_aload_n hx hb dX7_claim_0 rfl (lv_at hl 0 rfl) ?_
  refine lv_iconst (v := nI 0) hx hb dX7_claim_1 (by decide) ?_
  refine md_put (w' := w_th w (nI 0)) S hK hP (fun _ h => List.mem_cons_of_mem _ (List.mem_append_right _ (h))) 6 (by decide) (List.mem_cons_of_mem _ (List.mem_append_left _ (List.mem_append_left _ (List.mem_of_getElem? (i := 0) rfl)))) rfl rfl rfl rfl rfl rfl rfl rfl rfl hS (fun _ h => h) dX7_claim_2 (fun H locs hP zH fH hS => ?_)
  refine lv_aload_n hx hb dX7_claim_5 rfl (lv_at hl 0 rfl) ?_
  refine lv_iload_n hx hb dX7_claim_6 rfl (lv_at hl 1 rfl) ?_
  refine k_V (As := [.int (nI u)]) (rest := []) S hK (c_X7_isUnit l E o z (w_th w (nI 0)) (nI u) hI) gX7_claim_X7_isUnit rfl hd_X7_isUnit ⟨rfl, rfl⟩ ⟨Nat.le_of_ble_eq_true rfl, Nat.le_of_ble_eq_true rfl⟩ (k_recv hK hP.1 rfl) hP rfl hl.1 rfl (Nat.le_of_ble_eq_true rfl) dX7_claim_7 ⟨Nat.le_of_ble_eq_true rfl, Nat.le_of_ble_eq_true rfl⟩ ?_
  refine b_ne (tgt := 19) hx hb dX7_claim_10 (by decide) (fun c10 => ?_) (fun h => absurd (isU hu (by omega)) h)
  refine lv_aload_n hx hb dX7_claim_19 rfl (lv_at hl 0 rfl) ?_
  refine k_get S hK hP.1 rfl (fun _ h => List.mem_cons_of_mem _ (List.mem_append_right _ (h))) 0 (by decide) (List.mem_cons_of_mem _ (List.mem_append_left _ (List.mem_append_left _ (List.mem_of_getElem? (i := 1) rfl)))) rfl (v := .ref (o + 1)) rfl dX7_claim_20 ?_
  refine lv_iload_n hx hb dX7_claim_23 rfl (lv_at hl 1 rfl) ?_
  refine k_S (As := [.int (nI u)]) (rest := [.ref (o + 1)]) S hK (c_X7_at l E u) gX7_claim_X7_at rfl hd_X7_at ⟨rfl, rfl⟩ ⟨Nat.le_of_ble_eq_true rfl, Nat.le_of_ble_eq_true rfl⟩ trivial rfl hl.1 rfl (Nat.le_of_ble_eq_true rfl) dX7_claim_24 ⟨Nat.le_of_ble_eq_true rfl, Nat.le_of_ble_eq_true rfl⟩ ?_
  refine lv_bipush (v := nI 6) hx hb dX7_claim_27 (by decide) ?_
  refine n_iadd (n := 13*u + 68) hx hb dX7_claim_29 (by omega) ?_
  refine k_iald hx hb hK hP.2.1 (by omega) (by decide) (v := z (13*u + 68)) rfl dX7_claim_30 ?_
  refine lv_iconst (v := nI 1) hx hb dX7_claim_31 (by decide) ?_
  refine lv_icmp_gt (tgt := 59) hx hb dX7_claim_32 (by decide) (fun c32 => ?_) (fun c32 => ?_)
  · refine lv_aload_n hx hb dX7_claim_59 rfl (lv_at hl 0 rfl) ?_
    refine lv_iconst (v := nI 2) hx hb dX7_claim_60 (by decide) ?_
    refine k_VM (As := [.int (nI 2)]) (rest := []) S hK (c_X7_fails l E o z (w_th w (nI 0)) (nI 2)) gX7_claim_X7_fails rfl hd_X7_fails ⟨rfl, rfl⟩ ⟨Nat.le_of_ble_eq_true rfl, Nat.le_of_ble_eq_true rfl⟩ (k_recv hK hP.1 rfl) hP rfl hl.1 rfl (Nat.le_of_ble_eq_true rfl) dX7_claim_61 ⟨Nat.le_of_ble_eq_true rfl, Nat.le_of_ble_eq_true rfl⟩ hS (fun q h => h) (fun q h => h) (fun H locs hQ zH fH hS => ?_)
    have hP := hQ
    exact k_iretM hx hb hr hlk dX7_claim_64 hS (show md E o z (w_th w (nI 2)) _ from hP) (rfl)
  · refine lv_aload_n hx hb dX7_claim_35 rfl (lv_at hl 0 rfl) ?_
    refine lv_iload_n hx hb dX7_claim_36 rfl (lv_at hl 1 rfl) ?_
    refine k_V (As := [.int (nI u)]) (rest := []) S hK (c_X7_isTested l E o z (w_th w (nI 0)) u hI hu) gX7_claim_X7_isTested rfl hd_X7_isTested ⟨rfl, rfl⟩ ⟨Nat.le_of_ble_eq_true rfl, Nat.le_of_ble_eq_true rfl⟩ (k_recv hK hP.1 rfl) hP rfl hl.1 rfl (Nat.le_of_ble_eq_true rfl) dX7_claim_37 ⟨Nat.le_of_ble_eq_true rfl, Nat.le_of_ble_eq_true rfl⟩ ?_
    refine b_eq (tgt := 59) hx hb dX7_claim_40 (by decide) (fun c40 => ?_) (fun c40 => ?_)
    · refine lv_aload_n hx hb dX7_claim_59 rfl (lv_at hl 0 rfl) ?_
      refine lv_iconst (v := nI 2) hx hb dX7_claim_60 (by decide) ?_
      refine k_VM (As := [.int (nI 2)]) (rest := []) S hK (c_X7_fails l E o z (w_th w (nI 0)) (nI 2)) gX7_claim_X7_fails rfl hd_X7_fails ⟨rfl, rfl⟩ ⟨Nat.le_of_ble_eq_true rfl, Nat.le_of_ble_eq_true rfl⟩ (k_recv hK hP.1 rfl) hP rfl hl.1 rfl (Nat.le_of_ble_eq_true rfl) dX7_claim_61 ⟨Nat.le_of_ble_eq_true rfl, Nat.le_of_ble_eq_true rfl⟩ hS (fun q h => h) (fun q h => h) (fun H locs hQ zH fH hS => ?_)
      have hP := hQ
      exact k_iretM hx hb hr hlk dX7_claim_64 hS (show md E o z (w_th w (nI 2)) _ from hP) (rfl)
    · refine lv_aload_n hx hb dX7_claim_43 rfl (lv_at hl 0 rfl) ?_
      refine k_get S hK hP.1 rfl (fun _ h => List.mem_cons_of_mem _ (List.mem_append_right _ (h))) 0 (by decide) (List.mem_cons_of_mem _ (List.mem_append_left _ (List.mem_append_left _ (List.mem_of_getElem? (i := 1) rfl)))) rfl (v := .ref (o + 1)) rfl dX7_claim_44 ?_
      refine lv_iload_n hx hb dX7_claim_47 rfl (lv_at hl 1 rfl) ?_
      refine k_S (As := [.int (nI u)]) (rest := [.ref (o + 1)]) S hK (c_X7_at l E u) gX7_claim_X7_at rfl hd_X7_at ⟨rfl, rfl⟩ ⟨Nat.le_of_ble_eq_true rfl, Nat.le_of_ble_eq_true rfl⟩ trivial rfl hl.1 rfl (Nat.le_of_ble_eq_true rfl) dX7_claim_48 ⟨Nat.le_of_ble_eq_true rfl, Nat.le_of_ble_eq_true rfl⟩ ?_
      refine lv_bipush (v := nI 8) hx hb dX7_claim_51 (by decide) ?_
      refine n_iadd (n := 13*u + 70) hx hb dX7_claim_53 (by omega) ?_
      refine k_iald hx hb hK hP.2.1 (by omega) (by decide) (v := z (13*u + 70)) rfl dX7_claim_54 ?_
      refine lv_iconst (v := (-1)) hx hb dX7_claim_55 (by decide) ?_
      refine lv_icmp_eq (tgt := 65) hx hb dX7_claim_56 (by decide) (fun q => absurd ⟨Int32.not_lt.mp c32, c40, q⟩ h1) (fun c56 => ?_)
      refine lv_aload_n hx hb dX7_claim_59 rfl (lv_at hl 0 rfl) ?_
      refine lv_iconst (v := nI 2) hx hb dX7_claim_60 (by decide) ?_
      refine k_VM (As := [.int (nI 2)]) (rest := []) S hK (c_X7_fails l E o z (w_th w (nI 0)) (nI 2)) gX7_claim_X7_fails rfl hd_X7_fails ⟨rfl, rfl⟩ ⟨Nat.le_of_ble_eq_true rfl, Nat.le_of_ble_eq_true rfl⟩ (k_recv hK hP.1 rfl) hP rfl hl.1 rfl (Nat.le_of_ble_eq_true rfl) dX7_claim_61 ⟨Nat.le_of_ble_eq_true rfl, Nat.le_of_ble_eq_true rfl⟩ hS (fun q h => h) (fun q h => h) (fun H locs hQ zH fH hS => ?_)
      have hP := hQ
      exact k_iretM hx hb hr hlk dX7_claim_64 hS (show md E o z (w_th w (nI 2)) _ from hP) (rfl)
def rm_X7_claim : Room := { frames := 4, cells := 0, slots := 0, locals := 91 }
set_option maxHeartbeats 4000000 in
set_option maxRecDepth 100000 in
theorem c_X7_claim (l : Launch) (E : ke_E) (o : Nat) (z : Nat → Int32) (w : md_w) (u : Nat) (sn : Nat) (hI : iv z) (hu : u < cn z) (h1 : clOK z u) (hs : q_sm w = nI sn) (hn : sn ≤ 6) : Met l yX7_claim wsX7_claim rm_X7_claim (kp E [.ref o, .int (nI u)] (md E o z w)) (qm (some (.int (bI (payP (cm3 z u) u)))) (bl o 6) (md E o (cmZ z u) (svW z (w_th w (nI 0)) sn))) 0 0 (bl o 6) := by
  refine k_hd (cc := cX7_claim) (maxL := 2) (ret := (some .int)) (by decide) rfl (Nat.le_of_ble_eq_true rfl) ?_
  intro p e s m below meth c ls S hr hlk hnm hK hP hl
  have hx := S.1
  have hb := S.2.1
  have hts := S.2.2.2.2
  have hP : md E o z w s.heap := hP
  have hl : lv_has ls 2 [(0, .ref o), (1, .int (nI u))] := hl
  have hS : va_S (bl o 6) s.heap s.heap [] := va_S.rf
  have hcn := iv_c hI
  have hpv4 := iv_pvl hI (iv_upl hI hu)
  refine lv_aload_n hx hb dX7_claim_0 rfl (lv_at hl 0 rfl) ?_
  refine lv_iconst (v := nI 0) hx hb dX7_claim_1 (by decide) ?_
  refine md_put (w' := w_th w (nI 0)) S hK hP (fun _ h => List.mem_cons_of_mem _ (List.mem_append_right _ (h))) 6 (by decide) (List.mem_cons_of_mem _ (List.mem_append_left _ (List.mem_append_left _ (List.mem_of_getElem? (i := 0) rfl)))) rfl rfl rfl rfl rfl rfl rfl rfl rfl hS (fun _ h => h) dX7_claim_2 (fun H locs hP zH fH hS => ?_)
  refine lv_aload_n hx hb dX7_claim_5 rfl (lv_at hl 0 rfl) ?_
  refine lv_iload_n hx hb dX7_claim_6 rfl (lv_at hl 1 rfl) ?_
  refine k_V (As := [.int (nI u)]) (rest := []) S hK (c_X7_isUnit l E o z (w_th w (nI 0)) (nI u) hI) gX7_claim_X7_isUnit rfl hd_X7_isUnit ⟨rfl, rfl⟩ ⟨Nat.le_of_ble_eq_true rfl, Nat.le_of_ble_eq_true rfl⟩ (k_recv hK hP.1 rfl) hP rfl hl.1 rfl (Nat.le_of_ble_eq_true rfl) dX7_claim_7 ⟨Nat.le_of_ble_eq_true rfl, Nat.le_of_ble_eq_true rfl⟩ ?_
  refine b_ne (tgt := 19) hx hb dX7_claim_10 (by decide) (fun c10 => ?_) (fun h => absurd (isU hu (by omega)) h)
  refine lv_aload_n hx hb dX7_claim_19 rfl (lv_at hl 0 rfl) ?_
  refine k_get S hK hP.1 rfl (fun _ h => List.mem_cons_of_mem _ (List.mem_append_right _ (h))) 0 (by decide) (List.mem_cons_of_mem _ (List.mem_append_left _ (List.mem_append_left _ (List.mem_of_getElem? (i := 1) rfl)))) rfl (v := .ref (o + 1)) rfl dX7_claim_20 ?_
  refine lv_iload_n hx hb dX7_claim_23 rfl (lv_at hl 1 rfl) ?_
  refine k_S (As := [.int (nI u)]) (rest := [.ref (o + 1)]) S hK (c_X7_at l E u) gX7_claim_X7_at rfl hd_X7_at ⟨rfl, rfl⟩ ⟨Nat.le_of_ble_eq_true rfl, Nat.le_of_ble_eq_true rfl⟩ trivial rfl hl.1 rfl (Nat.le_of_ble_eq_true rfl) dX7_claim_24 ⟨Nat.le_of_ble_eq_true rfl, Nat.le_of_ble_eq_true rfl⟩ ?_
  refine lv_bipush (v := nI 6) hx hb dX7_claim_27 (by decide) ?_
  refine n_iadd (n := 13*u + 68) hx hb dX7_claim_29 (by omega) ?_
  refine k_iald hx hb hK hP.2.1 (by omega) (by decide) (v := z (13*u + 68)) rfl dX7_claim_30 ?_
  refine lv_iconst (v := nI 1) hx hb dX7_claim_31 (by decide) ?_
  refine lv_icmp_gt (tgt := 59) hx hb dX7_claim_32 (by decide) (fun h => absurd h (Int32.not_lt.mpr h1.1)) (fun c32 => ?_)
  refine lv_aload_n hx hb dX7_claim_35 rfl (lv_at hl 0 rfl) ?_
  refine lv_iload_n hx hb dX7_claim_36 rfl (lv_at hl 1 rfl) ?_
  refine k_V (As := [.int (nI u)]) (rest := []) S hK (c_X7_isTested l E o z (w_th w (nI 0)) u hI hu) gX7_claim_X7_isTested rfl hd_X7_isTested ⟨rfl, rfl⟩ ⟨Nat.le_of_ble_eq_true rfl, Nat.le_of_ble_eq_true rfl⟩ (k_recv hK hP.1 rfl) hP rfl hl.1 rfl (Nat.le_of_ble_eq_true rfl) dX7_claim_37 ⟨Nat.le_of_ble_eq_true rfl, Nat.le_of_ble_eq_true rfl⟩ ?_
  refine b_eq (tgt := 59) hx hb dX7_claim_40 (by decide) (fun h => absurd h1.2.1 h) (fun c40 => ?_)
  refine lv_aload_n hx hb dX7_claim_43 rfl (lv_at hl 0 rfl) ?_
  refine k_get S hK hP.1 rfl (fun _ h => List.mem_cons_of_mem _ (List.mem_append_right _ (h))) 0 (by decide) (List.mem_cons_of_mem _ (List.mem_append_left _ (List.mem_append_left _ (List.mem_of_getElem? (i := 1) rfl)))) rfl (v := .ref (o + 1)) rfl dX7_claim_44 ?_
  refine lv_iload_n hx hb dX7_claim_47 rfl (lv_at hl 1 rfl) ?_
  refine k_S (As := [.int (nI u)]) (rest := [.ref (o + 1)]) S hK (c_X7_at l E u) gX7_claim_X7_at rfl hd_X7_at ⟨rfl, rfl⟩ ⟨Nat.le_of_ble_eq_true rfl, Nat.le_of_ble_eq_true rfl⟩ trivial rfl hl.1 rfl (Nat.le_of_ble_eq_true rfl) dX7_claim_48 ⟨Nat.le_of_ble_eq_true rfl, Nat.le_of_ble_eq_true rfl⟩ ?_
  refine lv_bipush (v := nI 8) hx hb dX7_claim_51 (by decide) ?_
  refine n_iadd (n := 13*u + 70) hx hb dX7_claim_53 (by omega) ?_
  refine k_iald hx hb hK hP.2.1 (by omega) (by decide) (v := z (13*u + 70)) rfl dX7_claim_54 ?_
  refine lv_iconst (v := (-1)) hx hb dX7_claim_55 (by decide) ?_
  refine lv_icmp_eq (tgt := 65) hx hb dX7_claim_56 (by decide) (fun c56 => ?_) (fun h => absurd h1.2.2 h)
  refine lv_aload_n hx hb dX7_claim_65 rfl (lv_at hl 0 rfl) ?_
  refine k_VM (As := []) (rest := []) S hK (c_X7_save l E o z (w_th w (nI 0)) sn hs hn) gX7_claim_X7_save rfl hd_X7_save ⟨rfl, rfl⟩ ⟨Nat.le_of_ble_eq_true rfl, Nat.le_of_ble_eq_true rfl⟩ (k_recv hK hP.1 rfl) hP rfl hl.1 rfl (Nat.le_of_ble_eq_true rfl) dX7_claim_66 ⟨Nat.le_of_ble_eq_true rfl, Nat.le_of_ble_eq_true rfl⟩ hS (fun q h => h) (fun q h => h) (fun H locs hQ zH fH hS => ?_)
  have hP := hQ
  refine lv_aload_n hx hb dX7_claim_69 rfl (lv_at hl 0 rfl) ?_
  refine k_get S hK hP.1 rfl (fun _ h => List.mem_cons_of_mem _ (List.mem_append_right _ (h))) 0 (by decide) (List.mem_cons_of_mem _ (List.mem_append_left _ (List.mem_append_left _ (List.mem_of_getElem? (i := 1) rfl)))) rfl (v := .ref (o + 1)) rfl dX7_claim_70 ?_
  refine lv_iload_n hx hb dX7_claim_73 rfl (lv_at hl 1 rfl) ?_
  refine k_S (As := [.int (nI u)]) (rest := [.ref (o + 1)]) S hK (c_X7_at l E u) gX7_claim_X7_at rfl hd_X7_at ⟨rfl, rfl⟩ ⟨Nat.le_of_ble_eq_true rfl, Nat.le_of_ble_eq_true rfl⟩ trivial rfl hl.1 rfl (Nat.le_of_ble_eq_true rfl) dX7_claim_74 ⟨Nat.le_of_ble_eq_true rfl, Nat.le_of_ble_eq_true rfl⟩ ?_
  refine lv_bipush (v := nI 8) hx hb dX7_claim_77 (by decide) ?_
  refine n_iadd (n := 13*u + 70) hx hb dX7_claim_79 (by omega) ?_
  refine lv_aload_n hx hb dX7_claim_80 rfl (lv_at hl 0 rfl) ?_
  refine lv_iload_n hx hb dX7_claim_81 rfl (lv_at hl 1 rfl) ?_
  refine k_V (As := [.int (nI u)]) (rest := [.int (nI (13*u + 70)), .ref (o + 1)]) S hK (c_X7_amountOf l E o z (svW z (w_th w (nI 0)) sn) u hI hu) gX7_claim_X7_amountOf rfl hd_X7_amountOf ⟨rfl, rfl⟩ ⟨Nat.le_of_ble_eq_true rfl, Nat.le_of_ble_eq_true rfl⟩ (k_recv hK hP.1 rfl) hP rfl hl.1 rfl (Nat.le_of_ble_eq_true rfl) dX7_claim_82 ⟨Nat.le_of_ble_eq_true rfl, Nat.le_of_ble_eq_true rfl⟩ ?_
  refine md_ast_z hx hb hK hP (by omega) hS (fun _ h => h) dX7_claim_85 (fun H locs hP zH fH hS => ?_)
  refine lv_aload_n hx hb dX7_claim_86 rfl (lv_at hl 0 rfl) ?_
  refine k_get S hK hP.1 rfl (fun _ h => List.mem_cons_of_mem _ (List.mem_append_right _ (h))) 0 (by decide) (List.mem_cons_of_mem _ (List.mem_append_left _ (List.mem_append_left _ (List.mem_of_getElem? (i := 1) rfl)))) rfl (v := .ref (o + 1)) rfl dX7_claim_87 ?_
  refine lv_iload_n hx hb dX7_claim_90 rfl (lv_at hl 1 rfl) ?_
  refine k_S (As := [.int (nI u)]) (rest := [.ref (o + 1)]) S hK (c_X7_at l E u) gX7_claim_X7_at rfl hd_X7_at ⟨rfl, rfl⟩ ⟨Nat.le_of_ble_eq_true rfl, Nat.le_of_ble_eq_true rfl⟩ trivial rfl hl.1 rfl (Nat.le_of_ble_eq_true rfl) dX7_claim_91 ⟨Nat.le_of_ble_eq_true rfl, Nat.le_of_ble_eq_true rfl⟩ ?_
  refine lv_bipush (v := nI 9) hx hb dX7_claim_94 (by decide) ?_
  refine n_iadd (n := 13*u + 71) hx hb dX7_claim_96 (by omega) ?_
  refine lv_aload_n hx hb dX7_claim_97 rfl (lv_at hl 0 rfl) ?_
  refine lv_iload_n hx hb dX7_claim_98 rfl (lv_at hl 1 rfl) ?_
  refine k_V (As := [.int (nI u)]) (rest := [.int (nI (13*u + 71)), .ref (o + 1)]) S hK (c_X7_sellerOf l E o (upd z (13*u + 70) (amt z u)) (svW z (w_th w (nI 0)) sn) u (iv_cm1 hI hu) (by rw [cn_u (by omega)]; exact hu)) gX7_claim_X7_sellerOf rfl hd_X7_sellerOf ⟨rfl, rfl⟩ ⟨Nat.le_of_ble_eq_true rfl, Nat.le_of_ble_eq_true rfl⟩ (k_recv hK hP.1 rfl) hP rfl hl.1 rfl (Nat.le_of_ble_eq_true rfl) dX7_claim_99 ⟨Nat.le_of_ble_eq_true rfl, Nat.le_of_ble_eq_true rfl⟩ ?_
  have hq1 : pv (upd z (13*u + 70) (amt z u)) (up (upd z (13*u + 70) (amt z u)) u) < 4 := iv_pvl (iv_cm1 hI hu) (iv_upl (iv_cm1 hI hu) (by rw [cn_u (by omega)]; exact hu))
  refine k_top (y := nI (pv z (up z u))) (congrArg nI (pv_cm1 hI hu)) ?_
  refine md_ast_z hx hb hK hP (by omega) hS (fun _ h => h) dX7_claim_102 (fun H locs hP zH fH hS => ?_)
  refine lv_aload_n hx hb dX7_claim_103 rfl (lv_at hl 0 rfl) ?_
  refine k_get S hK hP.1 rfl (fun _ h => List.mem_cons_of_mem _ (List.mem_append_right _ (h))) 0 (by decide) (List.mem_cons_of_mem _ (List.mem_append_left _ (List.mem_append_left _ (List.mem_of_getElem? (i := 1) rfl)))) rfl (v := .ref (o + 1)) rfl dX7_claim_104 ?_
  refine lv_bipush (v := nI 6) hx hb dX7_claim_107 (by decide) ?_
  refine lv_dup2_11 hx hb dX7_claim_109 rfl rfl ?_
  refine k_iald hx hb hK hP.2.1 (by omega) (by decide) (v := z 6) ((upd_n (by omega)).trans ((upd_n (by omega)).trans (rfl))) dX7_claim_110 ?_
  refine lv_iconst (v := nI 1) hx hb dX7_claim_111 (by decide) ?_
  refine lv_iadd hx hb dX7_claim_112 ?_
  refine md_ast_z hx hb hK hP (by omega) hS (fun _ h => h) dX7_claim_113 (fun H locs hP zH fH hS => ?_)
  refine lv_aload_n hx hb dX7_claim_114 rfl (lv_at hl 0 rfl) ?_
  refine lv_iload_n hx hb dX7_claim_115 rfl (lv_at hl 1 rfl) ?_
  refine k_VM (As := [.int (nI u)]) (rest := []) S hK (c_X7_pays l E o (upd (upd (upd z (13*u + 70) (amt z u)) (13*u + 71) (nI (pv z (up z u)))) 6 ((z 6) + (nI 1))) (svW z (w_th w (nI 0)) sn) u (iv_cm3 hI hu) (show u < cn (cm3 z u) by rw [cn_cm3]; exact hu)) gX7_claim_X7_pays rfl hd_X7_pays ⟨rfl, rfl⟩ ⟨Nat.le_of_ble_eq_true rfl, Nat.le_of_ble_eq_true rfl⟩ (k_recv hK hP.1 rfl) hP rfl hl.1 rfl (Nat.le_of_ble_eq_true rfl) dX7_claim_116 ⟨Nat.le_of_ble_eq_true rfl, Nat.le_of_ble_eq_true rfl⟩ hS (fun q h => h) (fun q h => h) (fun H locs hQ zH fH hS => ?_)
  have hP := hQ
  refine b_eq (tgt := 126) hx hb dX7_claim_119 (by decide) (fun c119 => ?_) (fun c119 => ?_)
  · refine lv_iconst (v := nI 0) hx hb dX7_claim_126 (by decide) ?_
    exact k_iretM hx hb hr hlk dX7_claim_127 hS (show md E o (cmZ z u) (svW z (w_th w (nI 0)) sn) _ from hP) (bI_f c119)
  · refine lv_iconst (v := nI 1) hx hb dX7_claim_122 (by decide) ?_
    refine lv_goto (tgt := 127) hx hb dX7_claim_123 (by decide) ?_
    exact k_iretM hx hb hr hlk dX7_claim_127 hS (show md E o (cmZ z u) (svW z (w_th w (nI 0)) sn) _ from hP) (bI_t c119)
def rm_X7_closePeriod : Room := { frames := 4, cells := 0, slots := 0, locals := 88 }
theorem hd_X7_closePeriod : k_hd1 yX7_closePeriod RX7 0 := by decide +kernel
set_option maxHeartbeats 4000000 in
set_option maxRecDepth 100000 in
theorem c_X7_closePeriod (l : Launch) (E : ke_E) (o : Nat) (z : Nat → Int32) (w : md_w) (sn : Nat) (hI : iv z) (hs : q_sm w = nI sn) (hn : sn ≤ 6) : Met l yX7_closePeriod wsX7_closePeriod rm_X7_closePeriod (kp E [.ref o] (md E o z w)) (qm (some (.int (cloZ z).2)) (bl o 6) (md E o (cloZ z).1 (svW z (w_th w (nI 0)) sn))) 0 0 (bl o 6) := by
  refine k_hd (cc := cX7_closePeriod) (maxL := 1) (ret := (some .int)) (by decide) rfl (Nat.le_of_ble_eq_true rfl) ?_
  intro p e s m below meth c ls S hr hlk hnm hK hP hl
  have hx := S.1
  have hb := S.2.1
  have hts := S.2.2.2.2
  have hP : md E o z w s.heap := hP
  have hl : lv_has ls 1 [(0, .ref o)] := hl
  have hS : va_S (bl o 6) s.heap s.heap [] := va_S.rf
  have hcn := iv_c hI
  refine lv_aload_n hx hb dX7_closePeriod_0 rfl (lv_at hl 0 rfl) ?_
  refine lv_iconst (v := nI 0) hx hb dX7_closePeriod_1 (by decide) ?_
  refine md_put (w' := w_th w (nI 0)) S hK hP (fun _ h => List.mem_cons_of_mem _ (List.mem_append_right _ (h))) 6 (by decide) (List.mem_cons_of_mem _ (List.mem_append_left _ (List.mem_append_left _ (List.mem_of_getElem? (i := 0) rfl)))) rfl rfl rfl rfl rfl rfl rfl rfl rfl hS (fun _ h => h) dX7_closePeriod_2 (fun H locs hP zH fH hS => ?_)
  refine lv_aload_n hx hb dX7_closePeriod_5 rfl (lv_at hl 0 rfl) ?_
  refine k_VM (As := []) (rest := []) S hK (c_X7_save l E o z (w_th w (nI 0)) sn hs hn) gX7_closePeriod_X7_save rfl hd_X7_save ⟨rfl, rfl⟩ ⟨Nat.le_of_ble_eq_true rfl, Nat.le_of_ble_eq_true rfl⟩ (k_recv hK hP.1 rfl) hP rfl hl.1 rfl (Nat.le_of_ble_eq_true rfl) dX7_closePeriod_6 ⟨Nat.le_of_ble_eq_true rfl, Nat.le_of_ble_eq_true rfl⟩ hS (fun q h => h) (fun q h => h) (fun H locs hQ zH fH hS => ?_)
  have hP := hQ
  refine lv_aload_n hx hb dX7_closePeriod_9 rfl (lv_at hl 0 rfl) ?_
  refine k_VM (As := []) (rest := []) S hK (c_X7_closeNow l E o z (svW z (w_th w (nI 0)) sn) hI) gX7_closePeriod_X7_closeNow rfl hd_X7_closeNow ⟨rfl, rfl⟩ ⟨Nat.le_of_ble_eq_true rfl, Nat.le_of_ble_eq_true rfl⟩ (k_recv hK hP.1 rfl) hP rfl hl.1 rfl (Nat.le_of_ble_eq_true rfl) dX7_closePeriod_10 ⟨Nat.le_of_ble_eq_true rfl, Nat.le_of_ble_eq_true rfl⟩ hS (fun q h => h) (fun q h => h) (fun H locs hQ zH fH hS => ?_)
  have hP := hQ
  exact k_iretM hx hb hr hlk dX7_closePeriod_13 hS (show md E o (cloZ z).1 (svW z (w_th w (nI 0)) sn) _ from hP) (rfl)
def rm_X7_append_f1 : Room := { frames := 1, cells := 0, slots := 0, locals := 22 }
theorem hd_X7_append : k_hd1 yX7_append RX7 1 := by decide +kernel
set_option maxHeartbeats 4000000 in
set_option maxRecDepth 100000 in
theorem c_X7_append_f1 (l : Launch) (E : ke_E) (o : Nat) (z : Nat → Int32) (w : md_w) (y : Int32) (h1 : ¬ (nI 33 ≤ y ∧ y ≤ nI 126)) : Met l yX7_append wsX7_append rm_X7_append_f1 (kp E [.ref o, .int y] (md E o z w)) (qm (some (.int (nI 0))) (bl o 6) (md E o z (w_th w (nI 1)))) 0 0 (bl o 6) := by
  refine k_hd (cc := cX7_append) (maxL := 2) (ret := (some .int)) (by decide) rfl (Nat.le_of_ble_eq_true rfl) ?_
  intro p e s m below meth c ls S hr hlk hnm hK hP hl
  have hx := S.1
  have hb := S.2.1
  have hts := S.2.2.2.2
  have hP : md E o z w s.heap := hP
  have hl : lv_has ls 2 [(0, .ref o), (1, .int y)] := hl
  have hS : va_S (bl o 6) s.heap s.heap [] := va_S.rf
  refine lv_aload_n hx hb dX7_append_0 rfl (lv_at hl 0 rfl) ?_
  refine lv_iconst (v := nI 0) hx hb dX7_append_1 (by decide) ?_
  refine md_put (w' := w_th w (nI 0)) S hK hP (fun _ h => List.mem_cons_of_mem _ (List.mem_append_right _ (h))) 6 (by decide) (List.mem_cons_of_mem _ (List.mem_append_left _ (List.mem_of_getElem? (i := 0) rfl))) rfl rfl rfl rfl rfl rfl rfl rfl rfl hS (fun _ h => h) dX7_append_2 (fun H locs hP zH fH hS => ?_)
  refine lv_iload_n hx hb dX7_append_5 rfl (lv_at hl 1 rfl) ?_
  refine lv_bipush (v := nI 33) hx hb dX7_append_6 (by decide) ?_
  refine lv_bipush (v := nI 126) hx hb dX7_append_8 (by decide) ?_
  refine k_S (As := [.int y, .int (nI 33), .int (nI 126)]) (rest := []) S hK (c_X7_in l E y (nI 33) (nI 126)) gX7_append_X7_in rfl hd_X7_in ⟨rfl, rfl⟩ ⟨Nat.le_of_ble_eq_true rfl, Nat.le_of_ble_eq_true rfl⟩ trivial rfl hl.1 rfl (Nat.le_of_ble_eq_true rfl) dX7_append_10 ⟨Nat.le_of_ble_eq_true rfl, Nat.le_of_ble_eq_true rfl⟩ ?_
  refine b_ne (tgt := 22) hx hb dX7_append_13 (by decide) (fun h => absurd h h1) (fun c13 => ?_)
  refine lv_aload_n hx hb dX7_append_16 rfl (lv_at hl 0 rfl) ?_
  refine lv_iconst (v := nI 1) hx hb dX7_append_17 (by decide) ?_
  refine k_VM (As := [.int (nI 1)]) (rest := []) S hK (c_X7_fails l E o z (w_th w (nI 0)) (nI 1)) gX7_append_X7_fails rfl hd_X7_fails ⟨rfl, rfl⟩ ⟨Nat.le_of_ble_eq_true rfl, Nat.le_of_ble_eq_true rfl⟩ (k_recv hK hP.1 rfl) hP rfl hl.1 rfl (Nat.le_of_ble_eq_true rfl) dX7_append_18 ⟨Nat.le_of_ble_eq_true rfl, Nat.le_of_ble_eq_true rfl⟩ hS (fun q h => h) (fun q h => h) (fun H locs hQ zH fH hS => ?_)
  have hP := hQ
  exact k_iretM hx hb hr hlk dX7_append_21 hS (show md E o z (w_th w (nI 1)) _ from hP) (rfl)
def rm_X7_append_f2 : Room := { frames := 1, cells := 0, slots := 0, locals := 22 }
set_option maxHeartbeats 4000000 in
set_option maxRecDepth 100000 in
theorem c_X7_append_f2 (l : Launch) (E : ke_E) (o : Nat) (z : Nat → Int32) (w : md_w) (y : Int32) (h1 : nI 33 ≤ y ∧ y ≤ nI 126) (hbm : q_bm w = nI 60) : Met l yX7_append wsX7_append rm_X7_append_f2 (kp E [.ref o, .int y] (md E o z w)) (qm (some (.int (nI 0))) (bl o 6) (md E o z (w_th w (nI 2)))) 0 0 (bl o 6) := by
  refine k_hd (cc := cX7_append) (maxL := 2) (ret := (some .int)) (by decide) rfl (Nat.le_of_ble_eq_true rfl) ?_
  intro p e s m below meth c ls S hr hlk hnm hK hP hl
  have hx := S.1
  have hb := S.2.1
  have hts := S.2.2.2.2
  have hP : md E o z w s.heap := hP
  have hl : lv_has ls 2 [(0, .ref o), (1, .int y)] := hl
  have hS : va_S (bl o 6) s.heap s.heap [] := va_S.rf
  refine lv_aload_n hx hb dX7_append_0 rfl (lv_at hl 0 rfl) ?_
  refine lv_iconst (v := nI 0) hx hb dX7_append_1 (by decide) ?_
  refine md_put (w' := w_th w (nI 0)) S hK hP (fun _ h => List.mem_cons_of_mem _ (List.mem_append_right _ (h))) 6 (by decide) (List.mem_cons_of_mem _ (List.mem_append_left _ (List.mem_of_getElem? (i := 0) rfl))) rfl rfl rfl rfl rfl rfl rfl rfl rfl hS (fun _ h => h) dX7_append_2 (fun H locs hP zH fH hS => ?_)
  refine lv_iload_n hx hb dX7_append_5 rfl (lv_at hl 1 rfl) ?_
  refine lv_bipush (v := nI 33) hx hb dX7_append_6 (by decide) ?_
  refine lv_bipush (v := nI 126) hx hb dX7_append_8 (by decide) ?_
  refine k_S (As := [.int y, .int (nI 33), .int (nI 126)]) (rest := []) S hK (c_X7_in l E y (nI 33) (nI 126)) gX7_append_X7_in rfl hd_X7_in ⟨rfl, rfl⟩ ⟨Nat.le_of_ble_eq_true rfl, Nat.le_of_ble_eq_true rfl⟩ trivial rfl hl.1 rfl (Nat.le_of_ble_eq_true rfl) dX7_append_10 ⟨Nat.le_of_ble_eq_true rfl, Nat.le_of_ble_eq_true rfl⟩ ?_
  refine b_ne (tgt := 22) hx hb dX7_append_13 (by decide) (fun c13 => ?_) (fun h => absurd h1 h)
  refine lv_aload_n hx hb dX7_append_22 rfl (lv_at hl 0 rfl) ?_
  refine k_get S hK hP.1 rfl (fun _ h => List.mem_cons_of_mem _ (List.mem_append_right _ (h))) 5 (by decide) (List.mem_cons_of_mem _ (List.mem_append_left _ (List.mem_of_getElem? (i := 1) rfl))) rfl (v := .int (nI 60)) (congrArg (fun x => some (Value.int x)) (hbm)) dX7_append_23 ?_
  refine lv_bipush (v := nI 60) hx hb dX7_append_26 (by decide) ?_
  refine n_ine (tgt := 37) hx hb dX7_append_28 (by decide) (by omega) (by omega) (fun h => absurd h (by decide)) (fun c28 => ?_)
  refine lv_aload_n hx hb dX7_append_31 rfl (lv_at hl 0 rfl) ?_
  refine lv_iconst (v := nI 2) hx hb dX7_append_32 (by decide) ?_
  refine k_VM (As := [.int (nI 2)]) (rest := []) S hK (c_X7_fails l E o z (w_th w (nI 0)) (nI 2)) gX7_append_X7_fails rfl hd_X7_fails ⟨rfl, rfl⟩ ⟨Nat.le_of_ble_eq_true rfl, Nat.le_of_ble_eq_true rfl⟩ (k_recv hK hP.1 rfl) hP rfl hl.1 rfl (Nat.le_of_ble_eq_true rfl) dX7_append_33 ⟨Nat.le_of_ble_eq_true rfl, Nat.le_of_ble_eq_true rfl⟩ hS (fun q h => h) (fun q h => h) (fun H locs hQ zH fH hS => ?_)
  have hP := hQ
  exact k_iretM hx hb hr hlk dX7_append_36 hS (show md E o z (w_th w (nI 2)) _ from hP) (rfl)
def rm_X7_append : Room := { frames := 1, cells := 0, slots := 0, locals := 22 }
set_option maxHeartbeats 4000000 in
set_option maxRecDepth 100000 in
theorem c_X7_append (l : Launch) (E : ke_E) (o : Nat) (z : Nat → Int32) (w : md_w) (y : Int32) (bn : Nat) (h1 : nI 33 ≤ y ∧ y ≤ nI 126) (hbm : q_bm w = nI bn) (hbn : bn < 60) : Met l yX7_append wsX7_append rm_X7_append (kp E [.ref o, .int y] (md E o z w)) (qm (some (.int (nI (bn + 1)))) (bl o 6) (md E o z (w_bm (w_buf (w_th w (nI 0)) (upd (q_buf w) bn y)) (nI (bn + 1))))) 0 0 (bl o 6) := by
  refine k_hd (cc := cX7_append) (maxL := 2) (ret := (some .int)) (by decide) rfl (Nat.le_of_ble_eq_true rfl) ?_
  intro p e s m below meth c ls S hr hlk hnm hK hP hl
  have hx := S.1
  have hb := S.2.1
  have hts := S.2.2.2.2
  have hP : md E o z w s.heap := hP
  have hl : lv_has ls 2 [(0, .ref o), (1, .int y)] := hl
  have hS : va_S (bl o 6) s.heap s.heap [] := va_S.rf
  refine lv_aload_n hx hb dX7_append_0 rfl (lv_at hl 0 rfl) ?_
  refine lv_iconst (v := nI 0) hx hb dX7_append_1 (by decide) ?_
  refine md_put (w' := w_th w (nI 0)) S hK hP (fun _ h => List.mem_cons_of_mem _ (List.mem_append_right _ (h))) 6 (by decide) (List.mem_cons_of_mem _ (List.mem_append_left _ (List.mem_of_getElem? (i := 0) rfl))) rfl rfl rfl rfl rfl rfl rfl rfl rfl hS (fun _ h => h) dX7_append_2 (fun H locs hP zH fH hS => ?_)
  refine lv_iload_n hx hb dX7_append_5 rfl (lv_at hl 1 rfl) ?_
  refine lv_bipush (v := nI 33) hx hb dX7_append_6 (by decide) ?_
  refine lv_bipush (v := nI 126) hx hb dX7_append_8 (by decide) ?_
  refine k_S (As := [.int y, .int (nI 33), .int (nI 126)]) (rest := []) S hK (c_X7_in l E y (nI 33) (nI 126)) gX7_append_X7_in rfl hd_X7_in ⟨rfl, rfl⟩ ⟨Nat.le_of_ble_eq_true rfl, Nat.le_of_ble_eq_true rfl⟩ trivial rfl hl.1 rfl (Nat.le_of_ble_eq_true rfl) dX7_append_10 ⟨Nat.le_of_ble_eq_true rfl, Nat.le_of_ble_eq_true rfl⟩ ?_
  refine b_ne (tgt := 22) hx hb dX7_append_13 (by decide) (fun c13 => ?_) (fun h => absurd h1 h)
  refine lv_aload_n hx hb dX7_append_22 rfl (lv_at hl 0 rfl) ?_
  refine k_get S hK hP.1 rfl (fun _ h => List.mem_cons_of_mem _ (List.mem_append_right _ (h))) 5 (by decide) (List.mem_cons_of_mem _ (List.mem_append_left _ (List.mem_of_getElem? (i := 1) rfl))) rfl (v := .int (nI bn)) (congrArg (fun x => some (Value.int x)) (hbm)) dX7_append_23 ?_
  refine lv_bipush (v := nI 60) hx hb dX7_append_26 (by decide) ?_
  refine n_ine (tgt := 37) hx hb dX7_append_28 (by decide) (by omega) (by omega) (fun c28 => ?_) (fun h => absurd h (by omega))
  refine lv_aload_n hx hb dX7_append_37 rfl (lv_at hl 0 rfl) ?_
  refine k_get S hK hP.1 rfl (fun _ h => List.mem_cons_of_mem _ (List.mem_append_right _ (h))) 4 (by decide) (List.mem_cons_of_mem _ (List.mem_append_left _ (List.mem_of_getElem? (i := 2) rfl))) rfl (v := .ref (o + 4)) rfl dX7_append_38 ?_
  refine lv_aload_n hx hb dX7_append_41 rfl (lv_at hl 0 rfl) ?_
  refine k_get S hK hP.1 rfl (fun _ h => List.mem_cons_of_mem _ (List.mem_append_right _ (h))) 5 (by decide) (List.mem_cons_of_mem _ (List.mem_append_left _ (List.mem_of_getElem? (i := 1) rfl))) rfl (v := .int (nI bn)) (congrArg (fun x => some (Value.int x)) (hbm)) dX7_append_42 ?_
  refine lv_iload_n hx hb dX7_append_45 rfl (lv_at hl 1 rfl) ?_
  refine md_ast_buf hx hb hK hP (by omega) hS (fun _ h => h) dX7_append_46 (fun H locs hP zH fH hS => ?_)
  refine lv_aload_n hx hb dX7_append_47 rfl (lv_at hl 0 rfl) ?_
  refine lv_dup hx hb dX7_append_48 rfl ?_
  refine k_get S hK hP.1 rfl (fun _ h => List.mem_cons_of_mem _ (List.mem_append_right _ (h))) 5 (by decide) (List.mem_cons_of_mem _ (List.mem_append_left _ (List.mem_of_getElem? (i := 1) rfl))) rfl (v := .int (nI bn)) (congrArg (fun x => some (Value.int x)) (hbm)) dX7_append_49 ?_
  refine lv_iconst (v := nI 1) hx hb dX7_append_52 (by decide) ?_
  refine n_iadd (n := bn + 1) hx hb dX7_append_53 (by omega) ?_
  refine md_put (w' := w_bm (w_buf (w_th w (nI 0)) (upd (q_buf w) bn y)) (nI (bn + 1))) S hK hP (fun _ h => List.mem_cons_of_mem _ (List.mem_append_right _ (h))) 5 (by decide) (List.mem_cons_of_mem _ (List.mem_append_left _ (List.mem_of_getElem? (i := 1) rfl))) rfl rfl rfl rfl rfl rfl rfl rfl rfl hS (fun _ h => h) dX7_append_54 (fun H locs hP zH fH hS => ?_)
  refine lv_aload_n hx hb dX7_append_57 rfl (lv_at hl 0 rfl) ?_
  refine k_get S hK hP.1 rfl (fun _ h => List.mem_cons_of_mem _ (List.mem_append_right _ (h))) 5 (by decide) (List.mem_cons_of_mem _ (List.mem_append_left _ (List.mem_of_getElem? (i := 1) rfl))) rfl (v := .int (nI (bn + 1))) rfl dX7_append_58 ?_
  exact k_iretM hx hb hr hlk dX7_append_61 hS hP (rfl)
def rm_X7_clearBuffer : Room := { frames := 0, cells := 0, slots := 0, locals := 0 }
theorem hd_X7_clearBuffer : k_hd1 yX7_clearBuffer RX7 0 := by decide +kernel
set_option maxHeartbeats 4000000 in
set_option maxRecDepth 100000 in
theorem c_X7_clearBuffer (l : Launch) (E : ke_E) (o : Nat) (z : Nat → Int32) (w : md_w) : Met l yX7_clearBuffer wsX7_clearBuffer rm_X7_clearBuffer (kp E [.ref o] (md E o z w)) (qm (some (.int (q_bm w))) (bl o 6) (md E o z (w_bm (w_th w (nI 0)) (nI 0)))) 0 0 (bl o 6) := by
  refine k_hd (cc := cX7_clearBuffer) (maxL := 2) (ret := (some .int)) (by decide) rfl (Nat.le_of_ble_eq_true rfl) ?_
  intro p e s m below meth c ls S hr hlk hnm hK hP hl
  have hx := S.1
  have hb := S.2.1
  have hts := S.2.2.2.2
  have hP : md E o z w s.heap := hP
  have hl : lv_has ls 2 [(0, .ref o)] := hl
  have hS : va_S (bl o 6) s.heap s.heap [] := va_S.rf
  refine lv_aload_n hx hb dX7_clearBuffer_0 rfl (lv_at hl 0 rfl) ?_
  refine lv_iconst (v := nI 0) hx hb dX7_clearBuffer_1 (by decide) ?_
  refine md_put (w' := w_th w (nI 0)) S hK hP (fun _ h => List.mem_cons_of_mem _ (List.mem_append_right _ (h))) 6 (by decide) (List.mem_cons_of_mem _ (List.mem_append_left _ (List.mem_of_getElem? (i := 0) rfl))) rfl rfl rfl rfl rfl rfl rfl rfl rfl hS (fun _ h => h) dX7_clearBuffer_2 (fun H locs hP zH fH hS => ?_)
  refine lv_aload_n hx hb dX7_clearBuffer_5 rfl (lv_at hl 0 rfl) ?_
  refine k_get S hK hP.1 rfl (fun _ h => List.mem_cons_of_mem _ (List.mem_append_right _ (h))) 5 (by decide) (List.mem_cons_of_mem _ (List.mem_append_left _ (List.mem_of_getElem? (i := 1) rfl))) rfl (v := .int (q_bm w)) rfl dX7_clearBuffer_6 ?_
  refine lv_istore_n (lv' := [(1, .int (q_bm w)), (0, .ref o)]) hx hb dX7_clearBuffer_9 rfl hl (by decide) rfl (fun ls hl => ?_)
  refine lv_aload_n hx hb dX7_clearBuffer_10 rfl (lv_at hl 1 rfl) ?_
  refine lv_iconst (v := nI 0) hx hb dX7_clearBuffer_11 (by decide) ?_
  refine md_put (w' := w_bm (w_th w (nI 0)) (nI 0)) S hK hP (fun _ h => List.mem_cons_of_mem _ (List.mem_append_right _ (h))) 5 (by decide) (List.mem_cons_of_mem _ (List.mem_append_left _ (List.mem_of_getElem? (i := 1) rfl))) rfl rfl rfl rfl rfl rfl rfl rfl rfl hS (fun _ h => h) dX7_clearBuffer_12 (fun H locs hP zH fH hS => ?_)
  refine lv_iload_n hx hb dX7_clearBuffer_15 rfl (lv_at hl 0 rfl) ?_
  exact k_iretM hx hb hr hlk dX7_clearBuffer_16 hS hP (rfl)
def rm_X7_undo_f1 : Room := { frames := 1, cells := 0, slots := 0, locals := 21 }
theorem hd_X7_undo : k_hd1 yX7_undo RX7 0 := by decide +kernel
set_option maxHeartbeats 4000000 in
set_option maxRecDepth 100000 in
theorem c_X7_undo_f1 (l : Launch) (E : ke_E) (o : Nat) (z : Nat → Int32) (w : md_w) (hs : q_sm w = nI 0) : Met l yX7_undo wsX7_undo rm_X7_undo_f1 (kp E [.ref o] (md E o z w)) (qm (some (.int (nI 0))) (bl o 6) (md E o z (w_th w (nI 1)))) 0 0 (bl o 6) := by
  refine k_hd (cc := cX7_undo) (maxL := 2) (ret := (some .int)) (by decide) rfl (Nat.le_of_ble_eq_true rfl) ?_
  intro p e s m below meth c ls S hr hlk hnm hK hP hl
  have hx := S.1
  have hb := S.2.1
  have hts := S.2.2.2.2
  have hP : md E o z w s.heap := hP
  have hl : lv_has ls 2 [(0, .ref o)] := hl
  have hS : va_S (bl o 6) s.heap s.heap [] := va_S.rf
  refine lv_aload_n hx hb dX7_undo_0 rfl (lv_at hl 0 rfl) ?_
  refine lv_iconst (v := nI 0) hx hb dX7_undo_1 (by decide) ?_
  refine md_put (w' := w_th w (nI 0)) S hK hP (fun _ h => List.mem_cons_of_mem _ (List.mem_append_right _ (h))) 6 (by decide) (List.mem_cons_of_mem _ (List.mem_append_left _ (List.mem_of_getElem? (i := 0) rfl))) rfl rfl rfl rfl rfl rfl rfl rfl rfl hS (fun _ h => h) dX7_undo_2 (fun H locs hP zH fH hS => ?_)
  refine lv_aload_n hx hb dX7_undo_5 rfl (lv_at hl 0 rfl) ?_
  refine k_get S hK hP.1 rfl (fun _ h => List.mem_cons_of_mem _ (List.mem_append_right _ (h))) 3 (by decide) (List.mem_cons_of_mem _ (List.mem_append_left _ (List.mem_of_getElem? (i := 1) rfl))) rfl (v := .int (nI 0)) (congrArg (fun x => some (Value.int x)) (hs)) dX7_undo_6 ?_
  refine lv_if_ne (tgt := 18) hx hb dX7_undo_9 (by decide) (fun h => absurd h (by decide)) (fun c9 => ?_)
  refine lv_aload_n hx hb dX7_undo_12 rfl (lv_at hl 0 rfl) ?_
  refine lv_iconst (v := nI 1) hx hb dX7_undo_13 (by decide) ?_
  refine k_VM (As := [.int (nI 1)]) (rest := []) S hK (c_X7_fails l E o z (w_th w (nI 0)) (nI 1)) gX7_undo_X7_fails rfl hd_X7_fails ⟨rfl, rfl⟩ ⟨Nat.le_of_ble_eq_true rfl, Nat.le_of_ble_eq_true rfl⟩ (k_recv hK hP.1 rfl) hP rfl hl.1 rfl (Nat.le_of_ble_eq_true rfl) dX7_undo_14 ⟨Nat.le_of_ble_eq_true rfl, Nat.le_of_ble_eq_true rfl⟩ hS (fun q h => h) (fun q h => h) (fun H locs hQ zH fH hS => ?_)
  have hP := hQ
  exact k_iretM hx hb hr hlk dX7_undo_17 hS (show md E o z (w_th w (nI 1)) _ from hP) (rfl)
def rm_X7_undo : Room := { frames := 0, cells := 0, slots := 0, locals := 0 }
set_option maxHeartbeats 4000000 in
set_option maxRecDepth 100000 in
theorem c_X7_undo (l : Launch) (E : ke_E) (o : Nat) (z : Nat → Int32) (w : md_w) (sn : Nat) (hs : q_sm w = nI (sn + 1)) (hn : sn < 6) : Met l yX7_undo wsX7_undo rm_X7_undo (kp E [.ref o] (md E o z w)) (qm (some (.int (nI sn))) (bl o 6) (md E o (unZ z (q_rows w) sn) (w_sm (w_th w (nI 0)) (nI sn)))) 0 0 (bl o 6) := by
  refine k_hd (cc := cX7_undo) (maxL := 2) (ret := (some .int)) (by decide) rfl (Nat.le_of_ble_eq_true rfl) ?_
  intro p e s m below meth c ls S hr hlk hnm hK hP hl
  have hx := S.1
  have hb := S.2.1
  have hts := S.2.2.2.2
  have hP : md E o z w s.heap := hP
  have hl : lv_has ls 2 [(0, .ref o)] := hl
  have hS : va_S (bl o 6) s.heap s.heap [] := va_S.rf
  have J30 : ∀ (n_ : Nat), ∀ (k : Nat), k ≤ 322 → 322 < k + n_ → ∀ (H : Heap) (locs : List Loc), md E o (asI z (fun j => q_rows w (322*sn + j)) k) (w_sm (w_th w (nI 0)) (nI sn)) H → va_S (bl o 6) s.heap H locs → ∀ (ls : Array Slot), lv_has ls 2 [(0, .ref o), (1, .int (nI k))] → W p l e (headSpec wsX7_undo rm_X7_undo).room s m ([.ref o] : List Value).toArray below meth c H locs 0 0 (MQ below (qm (some (.int (nI sn))) (bl o 6) (md E o (unZ z (q_rows w) sn) (w_sm (w_th w (nI 0)) (nI sn)))) ([.ref o] : List Value).toArray s 0 0 (bl o 6)) (F0 m 30 ls []) := by
    intro n_
    induction n_ with
    | zero =>
      intro k hk hn_ _ _ _ _ _ _
      exact absurd hn_ (by omega)
    | succ n_ ih =>
      intro k hk hn_ H locs hW0 hS ls hl
      refine lv_iload_n hx hb dX7_undo_30 rfl (lv_at hl 1 rfl) ?_
      refine lv_sipush (v := nI 322) hx hb dX7_undo_31 (by decide) ?_
      refine n_ige (tgt := 64) hx hb dX7_undo_34 (by decide) (by omega) (by omega) (fun c34 => ?_) (fun c34 => ?_)
      · refine lv_aload_n hx hb dX7_undo_64 rfl (lv_at hl 0 rfl) ?_
        refine k_get S hK hW0.1 rfl (fun _ h => List.mem_cons_of_mem _ (List.mem_append_right _ (h))) 3 (by decide) (List.mem_cons_of_mem _ (List.mem_append_left _ (List.mem_of_getElem? (i := 1) rfl))) rfl (v := .int (nI sn)) rfl dX7_undo_65 ?_
        exact k_iretM hx hb hr hlk dX7_undo_68 hS (show md E o (unZ z (q_rows w) sn) (w_sm (w_th w (nI 0)) (nI sn)) _ from (by have e9 : k = 322 := (by omega); rw [e9] at hW0; exact hW0)) (rfl)
      · refine lv_aload_n hx hb dX7_undo_37 rfl (lv_at hl 0 rfl) ?_
        refine k_get S hK hW0.1 rfl (fun _ h => List.mem_cons_of_mem _ (List.mem_append_right _ (h))) 0 (by decide) (List.mem_cons_of_mem _ (List.mem_append_left _ (List.mem_of_getElem? (i := 2) rfl))) rfl (v := .ref (o + 1)) rfl dX7_undo_38 ?_
        refine lv_iload_n hx hb dX7_undo_41 rfl (lv_at hl 1 rfl) ?_
        refine lv_aload_n hx hb dX7_undo_42 rfl (lv_at hl 0 rfl) ?_
        refine k_get S hK hW0.1 rfl (fun _ h => List.mem_cons_of_mem _ (List.mem_append_right _ (h))) 1 (by decide) (List.mem_cons_of_mem _ (List.mem_append_left _ (List.mem_of_getElem? (i := 3) rfl))) rfl (v := .ref (o + 2)) rfl dX7_undo_43 ?_
        refine lv_sipush (v := nI 322) hx hb dX7_undo_46 (by decide) ?_
        refine lv_aload_n hx hb dX7_undo_49 rfl (lv_at hl 0 rfl) ?_
        refine k_get S hK hW0.1 rfl (fun _ h => List.mem_cons_of_mem _ (List.mem_append_right _ (h))) 3 (by decide) (List.mem_cons_of_mem _ (List.mem_append_left _ (List.mem_of_getElem? (i := 1) rfl))) rfl (v := .int (nI sn)) rfl dX7_undo_50 ?_
        refine n_imul (n := 322*sn) hx hb dX7_undo_53 (by omega) ?_
        refine lv_iload_n hx hb dX7_undo_54 rfl (lv_at hl 1 rfl) ?_
        refine n_iadd (n := 322*sn + k) hx hb dX7_undo_55 (by omega) ?_
        refine k_iald hx hb hK hW0.2.2.1 (by omega) (by decide) (v := q_rows w (322*sn + k)) rfl dX7_undo_56 ?_
        refine md_ast_z hx hb hK hW0 (by omega) hS (fun _ h => h) dX7_undo_57 (fun H locs hP zH fH hS => ?_)
        refine lv_iinc (v := nI (k + 1)) (lv' := [(1, .int (nI (k + 1))), (0, .ref o)]) hx hb dX7_undo_58 hl (k := 1) rfl (inc_1 _) (by decide) rfl (fun ls hl => ?_)
        refine lv_goto (tgt := 30) hx hb dX7_undo_61 (by decide) ?_
        exact ih (k + 1) (by omega) (by omega) _ _ (show md E o (asI z (fun j => q_rows w (322*sn + j)) (k + 1)) (w_sm (w_th w (nI 0)) (nI sn)) _ from (by rw [asI_s]; exact hP)) hS _ (lv_sub hl [1, 0] rfl)
  refine lv_aload_n hx hb dX7_undo_0 rfl (lv_at hl 0 rfl) ?_
  refine lv_iconst (v := nI 0) hx hb dX7_undo_1 (by decide) ?_
  refine md_put (w' := w_th w (nI 0)) S hK hP (fun _ h => List.mem_cons_of_mem _ (List.mem_append_right _ (h))) 6 (by decide) (List.mem_cons_of_mem _ (List.mem_append_left _ (List.mem_of_getElem? (i := 0) rfl))) rfl rfl rfl rfl rfl rfl rfl rfl rfl hS (fun _ h => h) dX7_undo_2 (fun H locs hP zH fH hS => ?_)
  refine lv_aload_n hx hb dX7_undo_5 rfl (lv_at hl 0 rfl) ?_
  refine k_get S hK hP.1 rfl (fun _ h => List.mem_cons_of_mem _ (List.mem_append_right _ (h))) 3 (by decide) (List.mem_cons_of_mem _ (List.mem_append_left _ (List.mem_of_getElem? (i := 1) rfl))) rfl (v := .int (nI (sn + 1))) (congrArg (fun x => some (Value.int x)) (hs)) dX7_undo_6 ?_
  refine lv_if_ne (tgt := 18) hx hb dX7_undo_9 (by decide) (fun c9 => ?_) (fun h => absurd h (nI_ne0 (by omega) (by omega)))
  refine lv_aload_n hx hb dX7_undo_18 rfl (lv_at hl 0 rfl) ?_
  refine lv_dup hx hb dX7_undo_19 rfl ?_
  refine k_get S hK hP.1 rfl (fun _ h => List.mem_cons_of_mem _ (List.mem_append_right _ (h))) 3 (by decide) (List.mem_cons_of_mem _ (List.mem_append_left _ (List.mem_of_getElem? (i := 1) rfl))) rfl (v := .int (nI (sn + 1))) (congrArg (fun x => some (Value.int x)) (hs)) dX7_undo_20 ?_
  refine lv_iconst (v := nI 1) hx hb dX7_undo_23 (by decide) ?_
  refine n_isub (n := sn) hx hb dX7_undo_24 (by omega) ?_
  refine md_put (w' := w_sm (w_th w (nI 0)) (nI sn)) S hK hP (fun _ h => List.mem_cons_of_mem _ (List.mem_append_right _ (h))) 3 (by decide) (List.mem_cons_of_mem _ (List.mem_append_left _ (List.mem_of_getElem? (i := 1) rfl))) rfl rfl rfl rfl rfl rfl rfl rfl rfl hS (fun _ h => h) dX7_undo_25 (fun H locs hP zH fH hS => ?_)
  refine lv_iconst (v := nI 0) hx hb dX7_undo_28 (by decide) ?_
  refine lv_istore_n (lv' := [(1, .int (nI 0)), (0, .ref o)]) hx hb dX7_undo_29 rfl hl (by decide) rfl (fun ls hl => ?_)
  exact J30 (322 + 1) 0 (by omega) (by omega) _ _ (show md E o (asI z (fun j => q_rows w (322*sn + j)) 0) (w_sm (w_th w (nI 0)) (nI sn)) _ from (by rw [asI_0]; exact hP)) hS _ (lv_sub hl [1, 0] rfl)
def rm_X7_unit_f1 : Room := { frames := 2, cells := 0, slots := 0, locals := 43 }
theorem hd_X7_unit : k_hd1 yX7_unit RX7 2 := by decide +kernel
set_option maxHeartbeats 4000000 in
set_option maxRecDepth 100000 in
theorem c_X7_unit_f1 (l : Launch) (E : ke_E) (o : Nat) (z : Nat → Int32) (w : md_w) (x : Int32) (y : Int32) (hI : iv z) (h1 : ¬ inR x (cn z)) : Met l yX7_unit wsX7_unit rm_X7_unit_f1 (kp E [.ref o, .int x, .int y] (md E o z w)) (qm (some (.int (nI 0))) (bl o 6) (md E o z (w_th w (nI 1)))) 0 0 (bl o 6) := by
  refine k_hd (cc := cX7_unit) (maxL := 3) (ret := (some .int)) (by decide) rfl (Nat.le_of_ble_eq_true rfl) ?_
  intro p e s m below meth c ls S hr hlk hnm hK hP hl
  have hx := S.1
  have hb := S.2.1
  have hts := S.2.2.2.2
  have hP : md E o z w s.heap := hP
  have hl : lv_has ls 3 [(0, .ref o), (1, .int x), (2, .int y)] := hl
  have hS : va_S (bl o 6) s.heap s.heap [] := va_S.rf
  have hcn := iv_c hI
  refine lv_aload_n hx hb dX7_unit_0 rfl (lv_at hl 0 rfl) ?_
  refine lv_iconst (v := nI 0) hx hb dX7_unit_1 (by decide) ?_
  refine md_put (w' := w_th w (nI 0)) S hK hP (fun _ h => List.mem_cons_of_mem _ (List.mem_append_right _ (h))) 6 (by decide) (List.mem_cons_of_mem _ (List.mem_append_left _ (List.mem_append_left _ (List.mem_of_getElem? (i := 0) rfl)))) rfl rfl rfl rfl rfl rfl rfl rfl rfl hS (fun _ h => h) dX7_unit_2 (fun H locs hP zH fH hS => ?_)
  refine lv_aload_n hx hb dX7_unit_5 rfl (lv_at hl 0 rfl) ?_
  refine lv_iload_n hx hb dX7_unit_6 rfl (lv_at hl 1 rfl) ?_
  refine k_V (As := [.int x]) (rest := []) S hK (c_X7_isUnit l E o z (w_th w (nI 0)) x hI) gX7_unit_X7_isUnit rfl hd_X7_isUnit ⟨rfl, rfl⟩ ⟨Nat.le_of_ble_eq_true rfl, Nat.le_of_ble_eq_true rfl⟩ (k_recv hK hP.1 rfl) hP rfl hl.1 rfl (Nat.le_of_ble_eq_true rfl) dX7_unit_7 ⟨Nat.le_of_ble_eq_true rfl, Nat.le_of_ble_eq_true rfl⟩ ?_
  refine b_ne (tgt := 19) hx hb dX7_unit_10 (by decide) (fun h => absurd h (fun q => h1 ((isU_iff (by omega)).mp q))) (fun c10 => ?_)
  refine lv_aload_n hx hb dX7_unit_13 rfl (lv_at hl 0 rfl) ?_
  refine lv_iconst (v := nI 1) hx hb dX7_unit_14 (by decide) ?_
  refine k_VM (As := [.int (nI 1)]) (rest := []) S hK (c_X7_fails l E o z (w_th w (nI 0)) (nI 1)) gX7_unit_X7_fails rfl hd_X7_fails ⟨rfl, rfl⟩ ⟨Nat.le_of_ble_eq_true rfl, Nat.le_of_ble_eq_true rfl⟩ (k_recv hK hP.1 rfl) hP rfl hl.1 rfl (Nat.le_of_ble_eq_true rfl) dX7_unit_15 ⟨Nat.le_of_ble_eq_true rfl, Nat.le_of_ble_eq_true rfl⟩ hS (fun q h => h) (fun q h => h) (fun H locs hQ zH fH hS => ?_)
  have hP := hQ
  exact k_iretM hx hb hr hlk dX7_unit_18 hS (show md E o z (w_th w (nI 1)) _ from hP) (rfl)
def rm_X7_unit_f2 : Room := { frames := 2, cells := 0, slots := 0, locals := 43 }
set_option maxHeartbeats 4000000 in
set_option maxRecDepth 100000 in
theorem c_X7_unit_f2 (l : Launch) (E : ke_E) (o : Nat) (z : Nat → Int32) (w : md_w) (u : Nat) (x : Int32) (hI : iv z) (hu : u < cn z) (h1 : ¬ inR x 14) : Met l yX7_unit wsX7_unit rm_X7_unit_f2 (kp E [.ref o, .int (nI u), .int x] (md E o z w)) (qm (some (.int (nI 0))) (bl o 6) (md E o z (w_th w (nI 2)))) 0 0 (bl o 6) := by
  refine k_hd (cc := cX7_unit) (maxL := 3) (ret := (some .int)) (by decide) rfl (Nat.le_of_ble_eq_true rfl) ?_
  intro p e s m below meth c ls S hr hlk hnm hK hP hl
  have hx := S.1
  have hb := S.2.1
  have hts := S.2.2.2.2
  have hP : md E o z w s.heap := hP
  have hl : lv_has ls 3 [(0, .ref o), (1, .int (nI u)), (2, .int x)] := hl
  have hS : va_S (bl o 6) s.heap s.heap [] := va_S.rf
  have hcn := iv_c hI
  refine lv_aload_n hx hb dX7_unit_0 rfl (lv_at hl 0 rfl) ?_
  refine lv_iconst (v := nI 0) hx hb dX7_unit_1 (by decide) ?_
  refine md_put (w' := w_th w (nI 0)) S hK hP (fun _ h => List.mem_cons_of_mem _ (List.mem_append_right _ (h))) 6 (by decide) (List.mem_cons_of_mem _ (List.mem_append_left _ (List.mem_append_left _ (List.mem_of_getElem? (i := 0) rfl)))) rfl rfl rfl rfl rfl rfl rfl rfl rfl hS (fun _ h => h) dX7_unit_2 (fun H locs hP zH fH hS => ?_)
  refine lv_aload_n hx hb dX7_unit_5 rfl (lv_at hl 0 rfl) ?_
  refine lv_iload_n hx hb dX7_unit_6 rfl (lv_at hl 1 rfl) ?_
  refine k_V (As := [.int (nI u)]) (rest := []) S hK (c_X7_isUnit l E o z (w_th w (nI 0)) (nI u) hI) gX7_unit_X7_isUnit rfl hd_X7_isUnit ⟨rfl, rfl⟩ ⟨Nat.le_of_ble_eq_true rfl, Nat.le_of_ble_eq_true rfl⟩ (k_recv hK hP.1 rfl) hP rfl hl.1 rfl (Nat.le_of_ble_eq_true rfl) dX7_unit_7 ⟨Nat.le_of_ble_eq_true rfl, Nat.le_of_ble_eq_true rfl⟩ ?_
  refine b_ne (tgt := 19) hx hb dX7_unit_10 (by decide) (fun c10 => ?_) (fun h => absurd (isU hu (by omega)) h)
  refine lv_iload_n hx hb dX7_unit_19 rfl (lv_at hl 2 rfl) ?_
  refine lv_iconst (v := nI 0) hx hb dX7_unit_20 (by decide) ?_
  refine lv_bipush (v := nI 13) hx hb dX7_unit_21 (by decide) ?_
  refine k_S (As := [.int x, .int (nI 0), .int (nI 13)]) (rest := []) S hK (c_X7_in l E x (nI 0) (nI 13)) gX7_unit_X7_in rfl hd_X7_in ⟨rfl, rfl⟩ ⟨Nat.le_of_ble_eq_true rfl, Nat.le_of_ble_eq_true rfl⟩ trivial rfl hl.1 rfl (Nat.le_of_ble_eq_true rfl) dX7_unit_23 ⟨Nat.le_of_ble_eq_true rfl, Nat.le_of_ble_eq_true rfl⟩ ?_
  refine b_eq (tgt := 38) hx hb dX7_unit_26 (by decide) (fun c26 => ?_) (fun h => absurd h (fun q => h1 ((inR_iff (by decide)).mp q)))
  refine lv_aload_n hx hb dX7_unit_38 rfl (lv_at hl 0 rfl) ?_
  refine lv_iconst (v := nI 2) hx hb dX7_unit_39 (by decide) ?_
  refine k_VM (As := [.int (nI 2)]) (rest := []) S hK (c_X7_fails l E o z (w_th w (nI 0)) (nI 2)) gX7_unit_X7_fails rfl hd_X7_fails ⟨rfl, rfl⟩ ⟨Nat.le_of_ble_eq_true rfl, Nat.le_of_ble_eq_true rfl⟩ (k_recv hK hP.1 rfl) hP rfl hl.1 rfl (Nat.le_of_ble_eq_true rfl) dX7_unit_40 ⟨Nat.le_of_ble_eq_true rfl, Nat.le_of_ble_eq_true rfl⟩ hS (fun q h => h) (fun q h => h) (fun H locs hQ zH fH hS => ?_)
  have hP := hQ
  exact k_iretM hx hb hr hlk dX7_unit_43 hS (show md E o z (w_th w (nI 2)) _ from hP) (rfl)
def rm_X7_unit : Room := { frames := 5, cells := 0, slots := 0, locals := 113 }
set_option maxHeartbeats 4000000 in
set_option maxRecDepth 100000 in
theorem c_X7_unit (l : Launch) (E : ke_E) (o : Nat) (z : Nat → Int32) (w : md_w) (u : Nat) (k : Nat) (hI : iv z) (hu : u < cn z) (hk : k < 14) : Met l yX7_unit wsX7_unit rm_X7_unit (kp E [.ref o, .int (nI u), .int (nI k)] (md E o z w)) (qm (some (.int (unV z u k))) (bl o 6) (md E o z (w_th w (nI 0)))) 0 0 (bl o 6) := by
  refine k_hd (cc := cX7_unit) (maxL := 3) (ret := (some .int)) (by decide) rfl (Nat.le_of_ble_eq_true rfl) ?_
  intro p e s m below meth c ls S hr hlk hnm hK hP hl
  have hx := S.1
  have hb := S.2.1
  have hts := S.2.2.2.2
  have hP : md E o z w s.heap := hP
  have hl : lv_has ls 3 [(0, .ref o), (1, .int (nI u)), (2, .int (nI k))] := hl
  have hS : va_S (bl o 6) s.heap s.heap [] := va_S.rf
  have hcn := iv_c hI
  refine lv_aload_n hx hb dX7_unit_0 rfl (lv_at hl 0 rfl) ?_
  refine lv_iconst (v := nI 0) hx hb dX7_unit_1 (by decide) ?_
  refine md_put (w' := w_th w (nI 0)) S hK hP (fun _ h => List.mem_cons_of_mem _ (List.mem_append_right _ (h))) 6 (by decide) (List.mem_cons_of_mem _ (List.mem_append_left _ (List.mem_append_left _ (List.mem_of_getElem? (i := 0) rfl)))) rfl rfl rfl rfl rfl rfl rfl rfl rfl hS (fun _ h => h) dX7_unit_2 (fun H locs hP zH fH hS => ?_)
  refine lv_aload_n hx hb dX7_unit_5 rfl (lv_at hl 0 rfl) ?_
  refine lv_iload_n hx hb dX7_unit_6 rfl (lv_at hl 1 rfl) ?_
  refine k_V (As := [.int (nI u)]) (rest := []) S hK (c_X7_isUnit l E o z (w_th w (nI 0)) (nI u) hI) gX7_unit_X7_isUnit rfl hd_X7_isUnit ⟨rfl, rfl⟩ ⟨Nat.le_of_ble_eq_true rfl, Nat.le_of_ble_eq_true rfl⟩ (k_recv hK hP.1 rfl) hP rfl hl.1 rfl (Nat.le_of_ble_eq_true rfl) dX7_unit_7 ⟨Nat.le_of_ble_eq_true rfl, Nat.le_of_ble_eq_true rfl⟩ ?_
  refine b_ne (tgt := 19) hx hb dX7_unit_10 (by decide) (fun c10 => ?_) (fun h => absurd (isU hu (by omega)) h)
  refine lv_iload_n hx hb dX7_unit_19 rfl (lv_at hl 2 rfl) ?_
  refine lv_iconst (v := nI 0) hx hb dX7_unit_20 (by decide) ?_
  refine lv_bipush (v := nI 13) hx hb dX7_unit_21 (by decide) ?_
  refine k_S (As := [.int (nI k), .int (nI 0), .int (nI 13)]) (rest := []) S hK (c_X7_in l E (nI k) (nI 0) (nI 13)) gX7_unit_X7_in rfl hd_X7_in ⟨rfl, rfl⟩ ⟨Nat.le_of_ble_eq_true rfl, Nat.le_of_ble_eq_true rfl⟩ trivial rfl hl.1 rfl (Nat.le_of_ble_eq_true rfl) dX7_unit_23 ⟨Nat.le_of_ble_eq_true rfl, Nat.le_of_ble_eq_true rfl⟩ ?_
  refine b_eq (tgt := 38) hx hb dX7_unit_26 (by decide) (fun h => absurd (in_n (by omega) (by omega) (by decide)) h) (fun c26 => ?_)
  refine lv_aload_n hx hb dX7_unit_29 rfl (lv_at hl 0 rfl) ?_
  refine lv_iload_n hx hb dX7_unit_30 rfl (lv_at hl 1 rfl) ?_
  refine lv_iload_n hx hb dX7_unit_31 rfl (lv_at hl 2 rfl) ?_
  refine k_V (As := [.int (nI u), .int (nI k)]) (rest := []) S hK (c_X7_unitOf l E o z (w_th w (nI 0)) u k hI hu hk) gX7_unit_X7_unitOf rfl hd_X7_unitOf ⟨rfl, rfl⟩ ⟨Nat.le_of_ble_eq_true rfl, Nat.le_of_ble_eq_true rfl⟩ (k_recv hK hP.1 rfl) hP rfl hl.1 rfl (Nat.le_of_ble_eq_true rfl) dX7_unit_32 ⟨Nat.le_of_ble_eq_true rfl, Nat.le_of_ble_eq_true rfl⟩ ?_
  refine lv_goto (tgt := 43) hx hb dX7_unit_35 (by decide) ?_
  exact k_iretM hx hb hr hlk dX7_unit_43 hS hP (rfl)
def rm_X7_productOf_f1 : Room := { frames := 2, cells := 0, slots := 0, locals := 42 }
theorem hd_X7_productOf : k_hd1 yX7_productOf RX7 2 := by decide +kernel
set_option maxHeartbeats 4000000 in
set_option maxRecDepth 100000 in
theorem c_X7_productOf_f1 (l : Launch) (E : ke_E) (o : Nat) (z : Nat → Int32) (w : md_w) (x : Int32) (y : Int32) (hI : iv z) (h1 : ¬ inR x 6) : Met l yX7_productOf wsX7_productOf rm_X7_productOf_f1 (kp E [.ref o, .int x, .int y] (md E o z w)) (qm (some (.int (nI 0))) (bl o 6) (md E o z (w_th w (nI 1)))) 0 0 (bl o 6) := by
  refine k_hd (cc := cX7_productOf) (maxL := 3) (ret := (some .int)) (by decide) rfl (Nat.le_of_ble_eq_true rfl) ?_
  intro p e s m below meth c ls S hr hlk hnm hK hP hl
  have hx := S.1
  have hb := S.2.1
  have hts := S.2.2.2.2
  have hP : md E o z w s.heap := hP
  have hl : lv_has ls 3 [(0, .ref o), (1, .int x), (2, .int y)] := hl
  have hS : va_S (bl o 6) s.heap s.heap [] := va_S.rf
  have hcn := iv_c hI
  refine lv_aload_n hx hb dX7_productOf_0 rfl (lv_at hl 0 rfl) ?_
  refine lv_iconst (v := nI 0) hx hb dX7_productOf_1 (by decide) ?_
  refine md_put (w' := w_th w (nI 0)) S hK hP (fun _ h => List.mem_cons_of_mem _ (List.mem_append_right _ (h))) 6 (by decide) (List.mem_cons_of_mem _ (List.mem_append_left _ (List.mem_of_getElem? (i := 0) rfl))) rfl rfl rfl rfl rfl rfl rfl rfl rfl hS (fun _ h => h) dX7_productOf_2 (fun H locs hP zH fH hS => ?_)
  refine lv_iload_n hx hb dX7_productOf_5 rfl (lv_at hl 1 rfl) ?_
  refine k_S (As := [.int x]) (rest := []) S hK (c_X7_isProduct l E x) gX7_productOf_X7_isProduct rfl hd_X7_isProduct ⟨rfl, rfl⟩ ⟨Nat.le_of_ble_eq_true rfl, Nat.le_of_ble_eq_true rfl⟩ trivial rfl hl.1 rfl (Nat.le_of_ble_eq_true rfl) dX7_productOf_6 ⟨Nat.le_of_ble_eq_true rfl, Nat.le_of_ble_eq_true rfl⟩ ?_
  refine b_ne (tgt := 18) hx hb dX7_productOf_9 (by decide) (fun h => absurd h (fun q => h1 ((inR_iff (by decide)).mp q))) (fun c9 => ?_)
  refine lv_aload_n hx hb dX7_productOf_12 rfl (lv_at hl 0 rfl) ?_
  refine lv_iconst (v := nI 1) hx hb dX7_productOf_13 (by decide) ?_
  refine k_VM (As := [.int (nI 1)]) (rest := []) S hK (c_X7_fails l E o z (w_th w (nI 0)) (nI 1)) gX7_productOf_X7_fails rfl hd_X7_fails ⟨rfl, rfl⟩ ⟨Nat.le_of_ble_eq_true rfl, Nat.le_of_ble_eq_true rfl⟩ (k_recv hK hP.1 rfl) hP rfl hl.1 rfl (Nat.le_of_ble_eq_true rfl) dX7_productOf_14 ⟨Nat.le_of_ble_eq_true rfl, Nat.le_of_ble_eq_true rfl⟩ hS (fun q h => h) (fun q h => h) (fun H locs hQ zH fH hS => ?_)
  have hP := hQ
  exact k_iretM hx hb hr hlk dX7_productOf_17 hS (show md E o z (w_th w (nI 1)) _ from hP) (rfl)
def rm_X7_productOf_f2 : Room := { frames := 2, cells := 0, slots := 0, locals := 42 }
set_option maxHeartbeats 4000000 in
set_option maxRecDepth 100000 in
theorem c_X7_productOf_f2 (l : Launch) (E : ke_E) (o : Nat) (z : Nat → Int32) (w : md_w) (q : Nat) (x : Int32) (hI : iv z) (hq6 : q < 6) (h1 : ¬ inR x 6) : Met l yX7_productOf wsX7_productOf rm_X7_productOf_f2 (kp E [.ref o, .int (nI q), .int x] (md E o z w)) (qm (some (.int (nI 0))) (bl o 6) (md E o z (w_th w (nI 2)))) 0 0 (bl o 6) := by
  refine k_hd (cc := cX7_productOf) (maxL := 3) (ret := (some .int)) (by decide) rfl (Nat.le_of_ble_eq_true rfl) ?_
  intro p e s m below meth c ls S hr hlk hnm hK hP hl
  have hx := S.1
  have hb := S.2.1
  have hts := S.2.2.2.2
  have hP : md E o z w s.heap := hP
  have hl : lv_has ls 3 [(0, .ref o), (1, .int (nI q)), (2, .int x)] := hl
  have hS : va_S (bl o 6) s.heap s.heap [] := va_S.rf
  have hcn := iv_c hI
  refine lv_aload_n hx hb dX7_productOf_0 rfl (lv_at hl 0 rfl) ?_
  refine lv_iconst (v := nI 0) hx hb dX7_productOf_1 (by decide) ?_
  refine md_put (w' := w_th w (nI 0)) S hK hP (fun _ h => List.mem_cons_of_mem _ (List.mem_append_right _ (h))) 6 (by decide) (List.mem_cons_of_mem _ (List.mem_append_left _ (List.mem_of_getElem? (i := 0) rfl))) rfl rfl rfl rfl rfl rfl rfl rfl rfl hS (fun _ h => h) dX7_productOf_2 (fun H locs hP zH fH hS => ?_)
  refine lv_iload_n hx hb dX7_productOf_5 rfl (lv_at hl 1 rfl) ?_
  refine k_S (As := [.int (nI q)]) (rest := []) S hK (c_X7_isProduct l E (nI q)) gX7_productOf_X7_isProduct rfl hd_X7_isProduct ⟨rfl, rfl⟩ ⟨Nat.le_of_ble_eq_true rfl, Nat.le_of_ble_eq_true rfl⟩ trivial rfl hl.1 rfl (Nat.le_of_ble_eq_true rfl) dX7_productOf_6 ⟨Nat.le_of_ble_eq_true rfl, Nat.le_of_ble_eq_true rfl⟩ ?_
  refine b_ne (tgt := 18) hx hb dX7_productOf_9 (by decide) (fun c9 => ?_) (fun h => absurd (in_n (Nat.zero_le _) (by omega) (by decide)) h)
  refine lv_iload_n hx hb dX7_productOf_18 rfl (lv_at hl 2 rfl) ?_
  refine lv_iconst (v := nI 0) hx hb dX7_productOf_19 (by decide) ?_
  refine lv_iconst (v := nI 5) hx hb dX7_productOf_20 (by decide) ?_
  refine k_S (As := [.int x, .int (nI 0), .int (nI 5)]) (rest := []) S hK (c_X7_in l E x (nI 0) (nI 5)) gX7_productOf_X7_in rfl hd_X7_in ⟨rfl, rfl⟩ ⟨Nat.le_of_ble_eq_true rfl, Nat.le_of_ble_eq_true rfl⟩ trivial rfl hl.1 rfl (Nat.le_of_ble_eq_true rfl) dX7_productOf_21 ⟨Nat.le_of_ble_eq_true rfl, Nat.le_of_ble_eq_true rfl⟩ ?_
  refine b_eq (tgt := 36) hx hb dX7_productOf_24 (by decide) (fun c24 => ?_) (fun h => absurd h (fun q => h1 ((inR_iff (by decide)).mp q)))
  refine lv_aload_n hx hb dX7_productOf_36 rfl (lv_at hl 0 rfl) ?_
  refine lv_iconst (v := nI 2) hx hb dX7_productOf_37 (by decide) ?_
  refine k_VM (As := [.int (nI 2)]) (rest := []) S hK (c_X7_fails l E o z (w_th w (nI 0)) (nI 2)) gX7_productOf_X7_fails rfl hd_X7_fails ⟨rfl, rfl⟩ ⟨Nat.le_of_ble_eq_true rfl, Nat.le_of_ble_eq_true rfl⟩ (k_recv hK hP.1 rfl) hP rfl hl.1 rfl (Nat.le_of_ble_eq_true rfl) dX7_productOf_38 ⟨Nat.le_of_ble_eq_true rfl, Nat.le_of_ble_eq_true rfl⟩ hS (fun q h => h) (fun q h => h) (fun H locs hQ zH fH hS => ?_)
  have hP := hQ
  exact k_iretM hx hb hr hlk dX7_productOf_41 hS (show md E o z (w_th w (nI 2)) _ from hP) (rfl)
def rm_X7_productOf : Room := { frames := 3, cells := 0, slots := 0, locals := 68 }
set_option maxHeartbeats 4000000 in
set_option maxRecDepth 100000 in
theorem c_X7_productOf (l : Launch) (E : ke_E) (o : Nat) (z : Nat → Int32) (w : md_w) (q : Nat) (k : Nat) (hI : iv z) (hq6 : q < 6) (hk : k < 6) : Met l yX7_productOf wsX7_productOf rm_X7_productOf (kp E [.ref o, .int (nI q), .int (nI k)] (md E o z w)) (qm (some (.int (gdV z q k))) (bl o 6) (md E o z (w_th w (nI 0)))) 0 0 (bl o 6) := by
  refine k_hd (cc := cX7_productOf) (maxL := 3) (ret := (some .int)) (by decide) rfl (Nat.le_of_ble_eq_true rfl) ?_
  intro p e s m below meth c ls S hr hlk hnm hK hP hl
  have hx := S.1
  have hb := S.2.1
  have hts := S.2.2.2.2
  have hP : md E o z w s.heap := hP
  have hl : lv_has ls 3 [(0, .ref o), (1, .int (nI q)), (2, .int (nI k))] := hl
  have hS : va_S (bl o 6) s.heap s.heap [] := va_S.rf
  have hcn := iv_c hI
  refine lv_aload_n hx hb dX7_productOf_0 rfl (lv_at hl 0 rfl) ?_
  refine lv_iconst (v := nI 0) hx hb dX7_productOf_1 (by decide) ?_
  refine md_put (w' := w_th w (nI 0)) S hK hP (fun _ h => List.mem_cons_of_mem _ (List.mem_append_right _ (h))) 6 (by decide) (List.mem_cons_of_mem _ (List.mem_append_left _ (List.mem_of_getElem? (i := 0) rfl))) rfl rfl rfl rfl rfl rfl rfl rfl rfl hS (fun _ h => h) dX7_productOf_2 (fun H locs hP zH fH hS => ?_)
  refine lv_iload_n hx hb dX7_productOf_5 rfl (lv_at hl 1 rfl) ?_
  refine k_S (As := [.int (nI q)]) (rest := []) S hK (c_X7_isProduct l E (nI q)) gX7_productOf_X7_isProduct rfl hd_X7_isProduct ⟨rfl, rfl⟩ ⟨Nat.le_of_ble_eq_true rfl, Nat.le_of_ble_eq_true rfl⟩ trivial rfl hl.1 rfl (Nat.le_of_ble_eq_true rfl) dX7_productOf_6 ⟨Nat.le_of_ble_eq_true rfl, Nat.le_of_ble_eq_true rfl⟩ ?_
  refine b_ne (tgt := 18) hx hb dX7_productOf_9 (by decide) (fun c9 => ?_) (fun h => absurd (in_n (Nat.zero_le _) (by omega) (by decide)) h)
  refine lv_iload_n hx hb dX7_productOf_18 rfl (lv_at hl 2 rfl) ?_
  refine lv_iconst (v := nI 0) hx hb dX7_productOf_19 (by decide) ?_
  refine lv_iconst (v := nI 5) hx hb dX7_productOf_20 (by decide) ?_
  refine k_S (As := [.int (nI k), .int (nI 0), .int (nI 5)]) (rest := []) S hK (c_X7_in l E (nI k) (nI 0) (nI 5)) gX7_productOf_X7_in rfl hd_X7_in ⟨rfl, rfl⟩ ⟨Nat.le_of_ble_eq_true rfl, Nat.le_of_ble_eq_true rfl⟩ trivial rfl hl.1 rfl (Nat.le_of_ble_eq_true rfl) dX7_productOf_21 ⟨Nat.le_of_ble_eq_true rfl, Nat.le_of_ble_eq_true rfl⟩ ?_
  refine b_eq (tgt := 36) hx hb dX7_productOf_24 (by decide) (fun h => absurd (in_n (by omega) (by omega) (by decide)) h) (fun c24 => ?_)
  refine lv_aload_n hx hb dX7_productOf_27 rfl (lv_at hl 0 rfl) ?_
  refine lv_iload_n hx hb dX7_productOf_28 rfl (lv_at hl 1 rfl) ?_
  refine lv_iload_n hx hb dX7_productOf_29 rfl (lv_at hl 2 rfl) ?_
  refine k_V (As := [.int (nI q), .int (nI k)]) (rest := []) S hK (c_X7_goodsOf l E o z (w_th w (nI 0)) q k hI hq6 hk) gX7_productOf_X7_goodsOf rfl hd_X7_goodsOf ⟨rfl, rfl⟩ ⟨Nat.le_of_ble_eq_true rfl, Nat.le_of_ble_eq_true rfl⟩ (k_recv hK hP.1 rfl) hP rfl hl.1 rfl (Nat.le_of_ble_eq_true rfl) dX7_productOf_30 ⟨Nat.le_of_ble_eq_true rfl, Nat.le_of_ble_eq_true rfl⟩ ?_
  refine lv_goto (tgt := 41) hx hb dX7_productOf_33 (by decide) ?_
  exact k_iretM hx hb hr hlk dX7_productOf_41 hS hP (rfl)
def rm_X7_vendor_f1 : Room := { frames := 2, cells := 0, slots := 0, locals := 42 }
theorem hd_X7_vendor : k_hd1 yX7_vendor RX7 2 := by decide +kernel
set_option maxHeartbeats 4000000 in
set_option maxRecDepth 100000 in
theorem c_X7_vendor_f1 (l : Launch) (E : ke_E) (o : Nat) (z : Nat → Int32) (w : md_w) (x : Int32) (y : Int32) (hI : iv z) (h1 : ¬ inR x 4) : Met l yX7_vendor wsX7_vendor rm_X7_vendor_f1 (kp E [.ref o, .int x, .int y] (md E o z w)) (qm (some (.int (nI 0))) (bl o 6) (md E o z (w_th w (nI 1)))) 0 0 (bl o 6) := by
  refine k_hd (cc := cX7_vendor) (maxL := 3) (ret := (some .int)) (by decide) rfl (Nat.le_of_ble_eq_true rfl) ?_
  intro p e s m below meth c ls S hr hlk hnm hK hP hl
  have hx := S.1
  have hb := S.2.1
  have hts := S.2.2.2.2
  have hP : md E o z w s.heap := hP
  have hl : lv_has ls 3 [(0, .ref o), (1, .int x), (2, .int y)] := hl
  have hS : va_S (bl o 6) s.heap s.heap [] := va_S.rf
  have hcn := iv_c hI
  refine lv_aload_n hx hb dX7_vendor_0 rfl (lv_at hl 0 rfl) ?_
  refine lv_iconst (v := nI 0) hx hb dX7_vendor_1 (by decide) ?_
  refine md_put (w' := w_th w (nI 0)) S hK hP (fun _ h => List.mem_cons_of_mem _ (List.mem_append_right _ (h))) 6 (by decide) (List.mem_cons_of_mem _ (List.mem_append_left _ (List.mem_append_left _ (List.mem_of_getElem? (i := 0) rfl)))) rfl rfl rfl rfl rfl rfl rfl rfl rfl hS (fun _ h => h) dX7_vendor_2 (fun H locs hP zH fH hS => ?_)
  refine lv_iload_n hx hb dX7_vendor_5 rfl (lv_at hl 1 rfl) ?_
  refine k_S (As := [.int x]) (rest := []) S hK (c_X7_isVendor l E x) gX7_vendor_X7_isVendor rfl hd_X7_isVendor ⟨rfl, rfl⟩ ⟨Nat.le_of_ble_eq_true rfl, Nat.le_of_ble_eq_true rfl⟩ trivial rfl hl.1 rfl (Nat.le_of_ble_eq_true rfl) dX7_vendor_6 ⟨Nat.le_of_ble_eq_true rfl, Nat.le_of_ble_eq_true rfl⟩ ?_
  refine b_ne (tgt := 18) hx hb dX7_vendor_9 (by decide) (fun h => absurd h (fun q => h1 ((inR_iff (by decide)).mp q))) (fun c9 => ?_)
  refine lv_aload_n hx hb dX7_vendor_12 rfl (lv_at hl 0 rfl) ?_
  refine lv_iconst (v := nI 1) hx hb dX7_vendor_13 (by decide) ?_
  refine k_VM (As := [.int (nI 1)]) (rest := []) S hK (c_X7_fails l E o z (w_th w (nI 0)) (nI 1)) gX7_vendor_X7_fails rfl hd_X7_fails ⟨rfl, rfl⟩ ⟨Nat.le_of_ble_eq_true rfl, Nat.le_of_ble_eq_true rfl⟩ (k_recv hK hP.1 rfl) hP rfl hl.1 rfl (Nat.le_of_ble_eq_true rfl) dX7_vendor_14 ⟨Nat.le_of_ble_eq_true rfl, Nat.le_of_ble_eq_true rfl⟩ hS (fun q h => h) (fun q h => h) (fun H locs hQ zH fH hS => ?_)
  have hP := hQ
  exact k_iretM hx hb hr hlk dX7_vendor_17 hS (show md E o z (w_th w (nI 1)) _ from hP) (rfl)
def rm_X7_vendor_f2 : Room := { frames := 2, cells := 0, slots := 0, locals := 42 }
set_option maxHeartbeats 4000000 in
set_option maxRecDepth 100000 in
theorem c_X7_vendor_f2 (l : Launch) (E : ke_E) (o : Nat) (z : Nat → Int32) (w : md_w) (v : Nat) (x : Int32) (hI : iv z) (hv4 : v < 4) (h1 : ¬ inR x 10) : Met l yX7_vendor wsX7_vendor rm_X7_vendor_f2 (kp E [.ref o, .int (nI v), .int x] (md E o z w)) (qm (some (.int (nI 0))) (bl o 6) (md E o z (w_th w (nI 2)))) 0 0 (bl o 6) := by
  refine k_hd (cc := cX7_vendor) (maxL := 3) (ret := (some .int)) (by decide) rfl (Nat.le_of_ble_eq_true rfl) ?_
  intro p e s m below meth c ls S hr hlk hnm hK hP hl
  have hx := S.1
  have hb := S.2.1
  have hts := S.2.2.2.2
  have hP : md E o z w s.heap := hP
  have hl : lv_has ls 3 [(0, .ref o), (1, .int (nI v)), (2, .int x)] := hl
  have hS : va_S (bl o 6) s.heap s.heap [] := va_S.rf
  have hcn := iv_c hI
  refine lv_aload_n hx hb dX7_vendor_0 rfl (lv_at hl 0 rfl) ?_
  refine lv_iconst (v := nI 0) hx hb dX7_vendor_1 (by decide) ?_
  refine md_put (w' := w_th w (nI 0)) S hK hP (fun _ h => List.mem_cons_of_mem _ (List.mem_append_right _ (h))) 6 (by decide) (List.mem_cons_of_mem _ (List.mem_append_left _ (List.mem_append_left _ (List.mem_of_getElem? (i := 0) rfl)))) rfl rfl rfl rfl rfl rfl rfl rfl rfl hS (fun _ h => h) dX7_vendor_2 (fun H locs hP zH fH hS => ?_)
  refine lv_iload_n hx hb dX7_vendor_5 rfl (lv_at hl 1 rfl) ?_
  refine k_S (As := [.int (nI v)]) (rest := []) S hK (c_X7_isVendor l E (nI v)) gX7_vendor_X7_isVendor rfl hd_X7_isVendor ⟨rfl, rfl⟩ ⟨Nat.le_of_ble_eq_true rfl, Nat.le_of_ble_eq_true rfl⟩ trivial rfl hl.1 rfl (Nat.le_of_ble_eq_true rfl) dX7_vendor_6 ⟨Nat.le_of_ble_eq_true rfl, Nat.le_of_ble_eq_true rfl⟩ ?_
  refine b_ne (tgt := 18) hx hb dX7_vendor_9 (by decide) (fun c9 => ?_) (fun h => absurd (in_n (Nat.zero_le _) (by omega) (by decide)) h)
  refine lv_iload_n hx hb dX7_vendor_18 rfl (lv_at hl 2 rfl) ?_
  refine lv_iconst (v := nI 0) hx hb dX7_vendor_19 (by decide) ?_
  refine lv_bipush (v := nI 9) hx hb dX7_vendor_20 (by decide) ?_
  refine k_S (As := [.int x, .int (nI 0), .int (nI 9)]) (rest := []) S hK (c_X7_in l E x (nI 0) (nI 9)) gX7_vendor_X7_in rfl hd_X7_in ⟨rfl, rfl⟩ ⟨Nat.le_of_ble_eq_true rfl, Nat.le_of_ble_eq_true rfl⟩ trivial rfl hl.1 rfl (Nat.le_of_ble_eq_true rfl) dX7_vendor_22 ⟨Nat.le_of_ble_eq_true rfl, Nat.le_of_ble_eq_true rfl⟩ ?_
  refine b_eq (tgt := 37) hx hb dX7_vendor_25 (by decide) (fun c25 => ?_) (fun h => absurd h (fun q => h1 ((inR_iff (by decide)).mp q)))
  refine lv_aload_n hx hb dX7_vendor_37 rfl (lv_at hl 0 rfl) ?_
  refine lv_iconst (v := nI 2) hx hb dX7_vendor_38 (by decide) ?_
  refine k_VM (As := [.int (nI 2)]) (rest := []) S hK (c_X7_fails l E o z (w_th w (nI 0)) (nI 2)) gX7_vendor_X7_fails rfl hd_X7_fails ⟨rfl, rfl⟩ ⟨Nat.le_of_ble_eq_true rfl, Nat.le_of_ble_eq_true rfl⟩ (k_recv hK hP.1 rfl) hP rfl hl.1 rfl (Nat.le_of_ble_eq_true rfl) dX7_vendor_39 ⟨Nat.le_of_ble_eq_true rfl, Nat.le_of_ble_eq_true rfl⟩ hS (fun q h => h) (fun q h => h) (fun H locs hQ zH fH hS => ?_)
  have hP := hQ
  exact k_iretM hx hb hr hlk dX7_vendor_42 hS (show md E o z (w_th w (nI 2)) _ from hP) (rfl)
def rm_X7_vendor : Room := { frames := 4, cells := 0, slots := 0, locals := 88 }
set_option maxHeartbeats 4000000 in
set_option maxRecDepth 100000 in
theorem c_X7_vendor (l : Launch) (E : ke_E) (o : Nat) (z : Nat → Int32) (w : md_w) (v : Nat) (k : Nat) (hI : iv z) (hv4 : v < 4) (hk : k < 10) : Met l yX7_vendor wsX7_vendor rm_X7_vendor (kp E [.ref o, .int (nI v), .int (nI k)] (md E o z w)) (qm (some (.int (veV z v k))) (bl o 6) (md E o z (w_th w (nI 0)))) 0 0 (bl o 6) := by
  refine k_hd (cc := cX7_vendor) (maxL := 3) (ret := (some .int)) (by decide) rfl (Nat.le_of_ble_eq_true rfl) ?_
  intro p e s m below meth c ls S hr hlk hnm hK hP hl
  have hx := S.1
  have hb := S.2.1
  have hts := S.2.2.2.2
  have hP : md E o z w s.heap := hP
  have hl : lv_has ls 3 [(0, .ref o), (1, .int (nI v)), (2, .int (nI k))] := hl
  have hS : va_S (bl o 6) s.heap s.heap [] := va_S.rf
  have hcn := iv_c hI
  refine lv_aload_n hx hb dX7_vendor_0 rfl (lv_at hl 0 rfl) ?_
  refine lv_iconst (v := nI 0) hx hb dX7_vendor_1 (by decide) ?_
  refine md_put (w' := w_th w (nI 0)) S hK hP (fun _ h => List.mem_cons_of_mem _ (List.mem_append_right _ (h))) 6 (by decide) (List.mem_cons_of_mem _ (List.mem_append_left _ (List.mem_append_left _ (List.mem_of_getElem? (i := 0) rfl)))) rfl rfl rfl rfl rfl rfl rfl rfl rfl hS (fun _ h => h) dX7_vendor_2 (fun H locs hP zH fH hS => ?_)
  refine lv_iload_n hx hb dX7_vendor_5 rfl (lv_at hl 1 rfl) ?_
  refine k_S (As := [.int (nI v)]) (rest := []) S hK (c_X7_isVendor l E (nI v)) gX7_vendor_X7_isVendor rfl hd_X7_isVendor ⟨rfl, rfl⟩ ⟨Nat.le_of_ble_eq_true rfl, Nat.le_of_ble_eq_true rfl⟩ trivial rfl hl.1 rfl (Nat.le_of_ble_eq_true rfl) dX7_vendor_6 ⟨Nat.le_of_ble_eq_true rfl, Nat.le_of_ble_eq_true rfl⟩ ?_
  refine b_ne (tgt := 18) hx hb dX7_vendor_9 (by decide) (fun c9 => ?_) (fun h => absurd (in_n (Nat.zero_le _) (by omega) (by decide)) h)
  refine lv_iload_n hx hb dX7_vendor_18 rfl (lv_at hl 2 rfl) ?_
  refine lv_iconst (v := nI 0) hx hb dX7_vendor_19 (by decide) ?_
  refine lv_bipush (v := nI 9) hx hb dX7_vendor_20 (by decide) ?_
  refine k_S (As := [.int (nI k), .int (nI 0), .int (nI 9)]) (rest := []) S hK (c_X7_in l E (nI k) (nI 0) (nI 9)) gX7_vendor_X7_in rfl hd_X7_in ⟨rfl, rfl⟩ ⟨Nat.le_of_ble_eq_true rfl, Nat.le_of_ble_eq_true rfl⟩ trivial rfl hl.1 rfl (Nat.le_of_ble_eq_true rfl) dX7_vendor_22 ⟨Nat.le_of_ble_eq_true rfl, Nat.le_of_ble_eq_true rfl⟩ ?_
  refine b_eq (tgt := 37) hx hb dX7_vendor_25 (by decide) (fun h => absurd (in_n (by omega) (by omega) (by decide)) h) (fun c25 => ?_)
  refine lv_aload_n hx hb dX7_vendor_28 rfl (lv_at hl 0 rfl) ?_
  refine lv_iload_n hx hb dX7_vendor_29 rfl (lv_at hl 1 rfl) ?_
  refine lv_iload_n hx hb dX7_vendor_30 rfl (lv_at hl 2 rfl) ?_
  refine k_V (As := [.int (nI v), .int (nI k)]) (rest := []) S hK (c_X7_vendorOf l E o z (w_th w (nI 0)) v k hI hv4 hk) gX7_vendor_X7_vendorOf rfl hd_X7_vendorOf ⟨rfl, rfl⟩ ⟨Nat.le_of_ble_eq_true rfl, Nat.le_of_ble_eq_true rfl⟩ (k_recv hK hP.1 rfl) hP rfl hl.1 rfl (Nat.le_of_ble_eq_true rfl) dX7_vendor_31 ⟨Nat.le_of_ble_eq_true rfl, Nat.le_of_ble_eq_true rfl⟩ ?_
  refine lv_goto (tgt := 42) hx hb dX7_vendor_34 (by decide) ?_
  exact k_iretM hx hb hr hlk dX7_vendor_42 hS hP (rfl)
def rm_X7_inWorkshop_f1 : Room := { frames := 1, cells := 0, slots := 0, locals := 22 }
theorem hd_X7_inWorkshop : k_hd1 yX7_inWorkshop RX7 1 := by decide +kernel
set_option maxHeartbeats 4000000 in
set_option maxRecDepth 100000 in
theorem c_X7_inWorkshop_f1 (l : Launch) (E : ke_E) (o : Nat) (z : Nat → Int32) (w : md_w) (x : Int32) (hI : iv z) (h1 : ¬ inR x 20) : Met l yX7_inWorkshop wsX7_inWorkshop rm_X7_inWorkshop_f1 (kp E [.ref o, .int x] (md E o z w)) (qm (some (.int (nI 0))) (bl o 6) (md E o z (w_th w (nI 1)))) 0 0 (bl o 6) := by
  refine k_hd (cc := cX7_inWorkshop) (maxL := 2) (ret := (some .int)) (by decide) rfl (Nat.le_of_ble_eq_true rfl) ?_
  intro p e s m below meth c ls S hr hlk hnm hK hP hl
  have hx := S.1
  have hb := S.2.1
  have hts := S.2.2.2.2
  have hP : md E o z w s.heap := hP
  have hl : lv_has ls 2 [(0, .ref o), (1, .int x)] := hl
  have hS : va_S (bl o 6) s.heap s.heap [] := va_S.rf
  have hcn := iv_c hI
  refine lv_aload_n hx hb dX7_inWorkshop_0 rfl (lv_at hl 0 rfl) ?_
  refine lv_iconst (v := nI 0) hx hb dX7_inWorkshop_1 (by decide) ?_
  refine md_put (w' := w_th w (nI 0)) S hK hP (fun _ h => List.mem_cons_of_mem _ (List.mem_append_right _ (h))) 6 (by decide) (List.mem_cons_of_mem _ (List.mem_append_left _ (List.mem_append_left _ (List.mem_of_getElem? (i := 0) rfl)))) rfl rfl rfl rfl rfl rfl rfl rfl rfl hS (fun _ h => h) dX7_inWorkshop_2 (fun H locs hP zH fH hS => ?_)
  refine lv_iload_n hx hb dX7_inWorkshop_5 rfl (lv_at hl 1 rfl) ?_
  refine lv_iconst (v := nI 0) hx hb dX7_inWorkshop_6 (by decide) ?_
  refine lv_bipush (v := nI 19) hx hb dX7_inWorkshop_7 (by decide) ?_
  refine k_S (As := [.int x, .int (nI 0), .int (nI 19)]) (rest := []) S hK (c_X7_in l E x (nI 0) (nI 19)) gX7_inWorkshop_X7_in rfl hd_X7_in ⟨rfl, rfl⟩ ⟨Nat.le_of_ble_eq_true rfl, Nat.le_of_ble_eq_true rfl⟩ trivial rfl hl.1 rfl (Nat.le_of_ble_eq_true rfl) dX7_inWorkshop_9 ⟨Nat.le_of_ble_eq_true rfl, Nat.le_of_ble_eq_true rfl⟩ ?_
  refine b_eq (tgt := 23) hx hb dX7_inWorkshop_12 (by decide) (fun c12 => ?_) (fun h => absurd h (fun q => h1 ((inR_iff (by decide)).mp q)))
  refine lv_aload_n hx hb dX7_inWorkshop_23 rfl (lv_at hl 0 rfl) ?_
  refine lv_iconst (v := nI 1) hx hb dX7_inWorkshop_24 (by decide) ?_
  refine k_VM (As := [.int (nI 1)]) (rest := []) S hK (c_X7_fails l E o z (w_th w (nI 0)) (nI 1)) gX7_inWorkshop_X7_fails rfl hd_X7_fails ⟨rfl, rfl⟩ ⟨Nat.le_of_ble_eq_true rfl, Nat.le_of_ble_eq_true rfl⟩ (k_recv hK hP.1 rfl) hP rfl hl.1 rfl (Nat.le_of_ble_eq_true rfl) dX7_inWorkshop_25 ⟨Nat.le_of_ble_eq_true rfl, Nat.le_of_ble_eq_true rfl⟩ hS (fun q h => h) (fun q h => h) (fun H locs hQ zH fH hS => ?_)
  have hP := hQ
  exact k_iretM hx hb hr hlk dX7_inWorkshop_28 hS (show md E o z (w_th w (nI 1)) _ from hP) (rfl)
def rm_X7_inWorkshop : Room := { frames := 6, cells := 0, slots := 0, locals := 141 }
set_option maxHeartbeats 4000000 in
set_option maxRecDepth 100000 in
theorem c_X7_inWorkshop (l : Launch) (E : ke_E) (o : Nat) (z : Nat → Int32) (w : md_w) (n : Nat) (hI : iv z) (hn : n < 20) : Met l yX7_inWorkshop wsX7_inWorkshop rm_X7_inWorkshop (kp E [.ref o, .int (nI n)] (md E o z w)) (qm (some (.int (oI (wa z n).2))) (bl o 6) (md E o z (w_th w (nI 0)))) 0 0 (bl o 6) := by
  refine k_hd (cc := cX7_inWorkshop) (maxL := 2) (ret := (some .int)) (by decide) rfl (Nat.le_of_ble_eq_true rfl) ?_
  intro p e s m below meth c ls S hr hlk hnm hK hP hl
  have hx := S.1
  have hb := S.2.1
  have hts := S.2.2.2.2
  have hP : md E o z w s.heap := hP
  have hl : lv_has ls 2 [(0, .ref o), (1, .int (nI n))] := hl
  have hS : va_S (bl o 6) s.heap s.heap [] := va_S.rf
  have hcn := iv_c hI
  refine lv_aload_n hx hb dX7_inWorkshop_0 rfl (lv_at hl 0 rfl) ?_
  refine lv_iconst (v := nI 0) hx hb dX7_inWorkshop_1 (by decide) ?_
  refine md_put (w' := w_th w (nI 0)) S hK hP (fun _ h => List.mem_cons_of_mem _ (List.mem_append_right _ (h))) 6 (by decide) (List.mem_cons_of_mem _ (List.mem_append_left _ (List.mem_append_left _ (List.mem_of_getElem? (i := 0) rfl)))) rfl rfl rfl rfl rfl rfl rfl rfl rfl hS (fun _ h => h) dX7_inWorkshop_2 (fun H locs hP zH fH hS => ?_)
  refine lv_iload_n hx hb dX7_inWorkshop_5 rfl (lv_at hl 1 rfl) ?_
  refine lv_iconst (v := nI 0) hx hb dX7_inWorkshop_6 (by decide) ?_
  refine lv_bipush (v := nI 19) hx hb dX7_inWorkshop_7 (by decide) ?_
  refine k_S (As := [.int (nI n), .int (nI 0), .int (nI 19)]) (rest := []) S hK (c_X7_in l E (nI n) (nI 0) (nI 19)) gX7_inWorkshop_X7_in rfl hd_X7_in ⟨rfl, rfl⟩ ⟨Nat.le_of_ble_eq_true rfl, Nat.le_of_ble_eq_true rfl⟩ trivial rfl hl.1 rfl (Nat.le_of_ble_eq_true rfl) dX7_inWorkshop_9 ⟨Nat.le_of_ble_eq_true rfl, Nat.le_of_ble_eq_true rfl⟩ ?_
  refine b_eq (tgt := 23) hx hb dX7_inWorkshop_12 (by decide) (fun h => absurd (in_n (by omega) (by omega) (by decide)) h) (fun c12 => ?_)
  refine lv_aload_n hx hb dX7_inWorkshop_15 rfl (lv_at hl 0 rfl) ?_
  refine lv_iload_n hx hb dX7_inWorkshop_16 rfl (lv_at hl 1 rfl) ?_
  refine k_V (As := [.int (nI n)]) (rest := []) S hK (c_X7_workAt l E o z (w_th w (nI 0)) n hI hn) gX7_inWorkshop_X7_workAt rfl hd_X7_workAt ⟨rfl, rfl⟩ ⟨Nat.le_of_ble_eq_true rfl, Nat.le_of_ble_eq_true rfl⟩ (k_recv hK hP.1 rfl) hP rfl hl.1 rfl (Nat.le_of_ble_eq_true rfl) dX7_inWorkshop_17 ⟨Nat.le_of_ble_eq_true rfl, Nat.le_of_ble_eq_true rfl⟩ ?_
  refine lv_goto (tgt := 28) hx hb dX7_inWorkshop_20 (by decide) ?_
  exact k_iretM hx hb hr hlk dX7_inWorkshop_28 hS hP (rfl)
def rm_X7_waiting_f1 : Room := { frames := 1, cells := 0, slots := 0, locals := 22 }
theorem hd_X7_waiting : k_hd1 yX7_waiting RX7 1 := by decide +kernel
set_option maxHeartbeats 4000000 in
set_option maxRecDepth 100000 in
theorem c_X7_waiting_f1 (l : Launch) (E : ke_E) (o : Nat) (z : Nat → Int32) (w : md_w) (x : Int32) (hI : iv z) (h1 : ¬ inR x 20) : Met l yX7_waiting wsX7_waiting rm_X7_waiting_f1 (kp E [.ref o, .int x] (md E o z w)) (qm (some (.int (nI 0))) (bl o 6) (md E o z (w_th w (nI 1)))) 0 0 (bl o 6) := by
  refine k_hd (cc := cX7_waiting) (maxL := 2) (ret := (some .int)) (by decide) rfl (Nat.le_of_ble_eq_true rfl) ?_
  intro p e s m below meth c ls S hr hlk hnm hK hP hl
  have hx := S.1
  have hb := S.2.1
  have hts := S.2.2.2.2
  have hP : md E o z w s.heap := hP
  have hl : lv_has ls 2 [(0, .ref o), (1, .int x)] := hl
  have hS : va_S (bl o 6) s.heap s.heap [] := va_S.rf
  have hcn := iv_c hI
  refine lv_aload_n hx hb dX7_waiting_0 rfl (lv_at hl 0 rfl) ?_
  refine lv_iconst (v := nI 0) hx hb dX7_waiting_1 (by decide) ?_
  refine md_put (w' := w_th w (nI 0)) S hK hP (fun _ h => List.mem_cons_of_mem _ (List.mem_append_right _ (h))) 6 (by decide) (List.mem_cons_of_mem _ (List.mem_append_left _ (List.mem_append_left _ (List.mem_of_getElem? (i := 0) rfl)))) rfl rfl rfl rfl rfl rfl rfl rfl rfl hS (fun _ h => h) dX7_waiting_2 (fun H locs hP zH fH hS => ?_)
  refine lv_iload_n hx hb dX7_waiting_5 rfl (lv_at hl 1 rfl) ?_
  refine lv_iconst (v := nI 0) hx hb dX7_waiting_6 (by decide) ?_
  refine lv_bipush (v := nI 19) hx hb dX7_waiting_7 (by decide) ?_
  refine k_S (As := [.int x, .int (nI 0), .int (nI 19)]) (rest := []) S hK (c_X7_in l E x (nI 0) (nI 19)) gX7_waiting_X7_in rfl hd_X7_in ⟨rfl, rfl⟩ ⟨Nat.le_of_ble_eq_true rfl, Nat.le_of_ble_eq_true rfl⟩ trivial rfl hl.1 rfl (Nat.le_of_ble_eq_true rfl) dX7_waiting_9 ⟨Nat.le_of_ble_eq_true rfl, Nat.le_of_ble_eq_true rfl⟩ ?_
  refine b_eq (tgt := 23) hx hb dX7_waiting_12 (by decide) (fun c12 => ?_) (fun h => absurd h (fun q => h1 ((inR_iff (by decide)).mp q)))
  refine lv_aload_n hx hb dX7_waiting_23 rfl (lv_at hl 0 rfl) ?_
  refine lv_iconst (v := nI 1) hx hb dX7_waiting_24 (by decide) ?_
  refine k_VM (As := [.int (nI 1)]) (rest := []) S hK (c_X7_fails l E o z (w_th w (nI 0)) (nI 1)) gX7_waiting_X7_fails rfl hd_X7_fails ⟨rfl, rfl⟩ ⟨Nat.le_of_ble_eq_true rfl, Nat.le_of_ble_eq_true rfl⟩ (k_recv hK hP.1 rfl) hP rfl hl.1 rfl (Nat.le_of_ble_eq_true rfl) dX7_waiting_25 ⟨Nat.le_of_ble_eq_true rfl, Nat.le_of_ble_eq_true rfl⟩ hS (fun q h => h) (fun q h => h) (fun H locs hQ zH fH hS => ?_)
  have hP := hQ
  exact k_iretM hx hb hr hlk dX7_waiting_28 hS (show md E o z (w_th w (nI 1)) _ from hP) (rfl)
def rm_X7_waiting : Room := { frames := 4, cells := 0, slots := 0, locals := 89 }
set_option maxHeartbeats 4000000 in
set_option maxRecDepth 100000 in
theorem c_X7_waiting (l : Launch) (E : ke_E) (o : Nat) (z : Nat → Int32) (w : md_w) (n : Nat) (hI : iv z) (hn : n < 20) : Met l yX7_waiting wsX7_waiting rm_X7_waiting (kp E [.ref o, .int (nI n)] (md E o z w)) (qm (some (.int (oI (ca z n).2))) (bl o 6) (md E o z (w_th w (nI 0)))) 0 0 (bl o 6) := by
  refine k_hd (cc := cX7_waiting) (maxL := 2) (ret := (some .int)) (by decide) rfl (Nat.le_of_ble_eq_true rfl) ?_
  intro p e s m below meth c ls S hr hlk hnm hK hP hl
  have hx := S.1
  have hb := S.2.1
  have hts := S.2.2.2.2
  have hP : md E o z w s.heap := hP
  have hl : lv_has ls 2 [(0, .ref o), (1, .int (nI n))] := hl
  have hS : va_S (bl o 6) s.heap s.heap [] := va_S.rf
  have hcn := iv_c hI
  refine lv_aload_n hx hb dX7_waiting_0 rfl (lv_at hl 0 rfl) ?_
  refine lv_iconst (v := nI 0) hx hb dX7_waiting_1 (by decide) ?_
  refine md_put (w' := w_th w (nI 0)) S hK hP (fun _ h => List.mem_cons_of_mem _ (List.mem_append_right _ (h))) 6 (by decide) (List.mem_cons_of_mem _ (List.mem_append_left _ (List.mem_append_left _ (List.mem_of_getElem? (i := 0) rfl)))) rfl rfl rfl rfl rfl rfl rfl rfl rfl hS (fun _ h => h) dX7_waiting_2 (fun H locs hP zH fH hS => ?_)
  refine lv_iload_n hx hb dX7_waiting_5 rfl (lv_at hl 1 rfl) ?_
  refine lv_iconst (v := nI 0) hx hb dX7_waiting_6 (by decide) ?_
  refine lv_bipush (v := nI 19) hx hb dX7_waiting_7 (by decide) ?_
  refine k_S (As := [.int (nI n), .int (nI 0), .int (nI 19)]) (rest := []) S hK (c_X7_in l E (nI n) (nI 0) (nI 19)) gX7_waiting_X7_in rfl hd_X7_in ⟨rfl, rfl⟩ ⟨Nat.le_of_ble_eq_true rfl, Nat.le_of_ble_eq_true rfl⟩ trivial rfl hl.1 rfl (Nat.le_of_ble_eq_true rfl) dX7_waiting_9 ⟨Nat.le_of_ble_eq_true rfl, Nat.le_of_ble_eq_true rfl⟩ ?_
  refine b_eq (tgt := 23) hx hb dX7_waiting_12 (by decide) (fun h => absurd (in_n (by omega) (by omega) (by decide)) h) (fun c12 => ?_)
  refine lv_aload_n hx hb dX7_waiting_15 rfl (lv_at hl 0 rfl) ?_
  refine lv_iload_n hx hb dX7_waiting_16 rfl (lv_at hl 1 rfl) ?_
  refine k_V (As := [.int (nI n)]) (rest := []) S hK (c_X7_claimAt l E o z (w_th w (nI 0)) n hI hn) gX7_waiting_X7_claimAt rfl hd_X7_claimAt ⟨rfl, rfl⟩ ⟨Nat.le_of_ble_eq_true rfl, Nat.le_of_ble_eq_true rfl⟩ (k_recv hK hP.1 rfl) hP rfl hl.1 rfl (Nat.le_of_ble_eq_true rfl) dX7_waiting_17 ⟨Nat.le_of_ble_eq_true rfl, Nat.le_of_ble_eq_true rfl⟩ ?_
  refine lv_goto (tgt := 28) hx hb dX7_waiting_20 (by decide) ?_
  exact k_iretM hx hb hr hlk dX7_waiting_28 hS hP (rfl)
def rm_X7_count_f1 : Room := { frames := 1, cells := 0, slots := 0, locals := 22 }
theorem hd_X7_count : k_hd1 yX7_count RX7 1 := by decide +kernel
set_option maxHeartbeats 4000000 in
set_option maxRecDepth 100000 in
theorem c_X7_count_f1 (l : Launch) (E : ke_E) (o : Nat) (z : Nat → Int32) (w : md_w) (x : Int32) (hI : iv z) (h1 : ¬ inR x 14) : Met l yX7_count wsX7_count rm_X7_count_f1 (kp E [.ref o, .int x] (md E o z w)) (qm (some (.int (nI 0))) (bl o 6) (md E o z (w_th w (nI 1)))) 0 0 (bl o 6) := by
  refine k_hd (cc := cX7_count) (maxL := 2) (ret := (some .int)) (by decide) rfl (Nat.le_of_ble_eq_true rfl) ?_
  intro p e s m below meth c ls S hr hlk hnm hK hP hl
  have hx := S.1
  have hb := S.2.1
  have hts := S.2.2.2.2
  have hP : md E o z w s.heap := hP
  have hl : lv_has ls 2 [(0, .ref o), (1, .int x)] := hl
  have hS : va_S (bl o 6) s.heap s.heap [] := va_S.rf
  have hcn := iv_c hI
  refine lv_aload_n hx hb dX7_count_0 rfl (lv_at hl 0 rfl) ?_
  refine lv_iconst (v := nI 0) hx hb dX7_count_1 (by decide) ?_
  refine md_put (w' := w_th w (nI 0)) S hK hP (fun _ h => List.mem_cons_of_mem _ (List.mem_append_right _ (h))) 6 (by decide) (List.mem_cons_of_mem _ (List.mem_append_left _ (List.mem_append_left _ (List.mem_of_getElem? (i := 0) rfl)))) rfl rfl rfl rfl rfl rfl rfl rfl rfl hS (fun _ h => h) dX7_count_2 (fun H locs hP zH fH hS => ?_)
  refine lv_iload_n hx hb dX7_count_5 rfl (lv_at hl 1 rfl) ?_
  refine lv_iconst (v := nI 0) hx hb dX7_count_6 (by decide) ?_
  refine lv_bipush (v := nI 13) hx hb dX7_count_7 (by decide) ?_
  refine k_S (As := [.int x, .int (nI 0), .int (nI 13)]) (rest := []) S hK (c_X7_in l E x (nI 0) (nI 13)) gX7_count_X7_in rfl hd_X7_in ⟨rfl, rfl⟩ ⟨Nat.le_of_ble_eq_true rfl, Nat.le_of_ble_eq_true rfl⟩ trivial rfl hl.1 rfl (Nat.le_of_ble_eq_true rfl) dX7_count_9 ⟨Nat.le_of_ble_eq_true rfl, Nat.le_of_ble_eq_true rfl⟩ ?_
  refine b_eq (tgt := 23) hx hb dX7_count_12 (by decide) (fun c12 => ?_) (fun h => absurd h (fun q => h1 ((inR_iff (by decide)).mp q)))
  refine lv_aload_n hx hb dX7_count_23 rfl (lv_at hl 0 rfl) ?_
  refine lv_iconst (v := nI 1) hx hb dX7_count_24 (by decide) ?_
  refine k_VM (As := [.int (nI 1)]) (rest := []) S hK (c_X7_fails l E o z (w_th w (nI 0)) (nI 1)) gX7_count_X7_fails rfl hd_X7_fails ⟨rfl, rfl⟩ ⟨Nat.le_of_ble_eq_true rfl, Nat.le_of_ble_eq_true rfl⟩ (k_recv hK hP.1 rfl) hP rfl hl.1 rfl (Nat.le_of_ble_eq_true rfl) dX7_count_25 ⟨Nat.le_of_ble_eq_true rfl, Nat.le_of_ble_eq_true rfl⟩ hS (fun q h => h) (fun q h => h) (fun H locs hQ zH fH hS => ?_)
  have hP := hQ
  exact k_iretM hx hb hr hlk dX7_count_28 hS (show md E o z (w_th w (nI 1)) _ from hP) (rfl)
def rm_X7_count : Room := { frames := 4, cells := 0, slots := 0, locals := 84 }
set_option maxHeartbeats 4000000 in
set_option maxRecDepth 100000 in
theorem c_X7_count (l : Launch) (E : ke_E) (o : Nat) (z : Nat → Int32) (w : md_w) (k : Nat) (hI : iv z) (hk : k < 14) : Met l yX7_count wsX7_count rm_X7_count (kp E [.ref o, .int (nI k)] (md E o z w)) (qm (some (.int (coV z (q_sm w) k))) (bl o 6) (md E o z (w_th w (nI 0)))) 0 0 (bl o 6) := by
  refine k_hd (cc := cX7_count) (maxL := 2) (ret := (some .int)) (by decide) rfl (Nat.le_of_ble_eq_true rfl) ?_
  intro p e s m below meth c ls S hr hlk hnm hK hP hl
  have hx := S.1
  have hb := S.2.1
  have hts := S.2.2.2.2
  have hP : md E o z w s.heap := hP
  have hl : lv_has ls 2 [(0, .ref o), (1, .int (nI k))] := hl
  have hS : va_S (bl o 6) s.heap s.heap [] := va_S.rf
  have hcn := iv_c hI
  refine lv_aload_n hx hb dX7_count_0 rfl (lv_at hl 0 rfl) ?_
  refine lv_iconst (v := nI 0) hx hb dX7_count_1 (by decide) ?_
  refine md_put (w' := w_th w (nI 0)) S hK hP (fun _ h => List.mem_cons_of_mem _ (List.mem_append_right _ (h))) 6 (by decide) (List.mem_cons_of_mem _ (List.mem_append_left _ (List.mem_append_left _ (List.mem_of_getElem? (i := 0) rfl)))) rfl rfl rfl rfl rfl rfl rfl rfl rfl hS (fun _ h => h) dX7_count_2 (fun H locs hP zH fH hS => ?_)
  refine lv_iload_n hx hb dX7_count_5 rfl (lv_at hl 1 rfl) ?_
  refine lv_iconst (v := nI 0) hx hb dX7_count_6 (by decide) ?_
  refine lv_bipush (v := nI 13) hx hb dX7_count_7 (by decide) ?_
  refine k_S (As := [.int (nI k), .int (nI 0), .int (nI 13)]) (rest := []) S hK (c_X7_in l E (nI k) (nI 0) (nI 13)) gX7_count_X7_in rfl hd_X7_in ⟨rfl, rfl⟩ ⟨Nat.le_of_ble_eq_true rfl, Nat.le_of_ble_eq_true rfl⟩ trivial rfl hl.1 rfl (Nat.le_of_ble_eq_true rfl) dX7_count_9 ⟨Nat.le_of_ble_eq_true rfl, Nat.le_of_ble_eq_true rfl⟩ ?_
  refine b_eq (tgt := 23) hx hb dX7_count_12 (by decide) (fun h => absurd (in_n (by omega) (by omega) (by decide)) h) (fun c12 => ?_)
  refine lv_aload_n hx hb dX7_count_15 rfl (lv_at hl 0 rfl) ?_
  refine lv_iload_n hx hb dX7_count_16 rfl (lv_at hl 1 rfl) ?_
  refine k_V (As := [.int (nI k)]) (rest := []) S hK (c_X7_counted l E o z (w_th w (nI 0)) k hI hk) gX7_count_X7_counted rfl hd_X7_counted ⟨rfl, rfl⟩ ⟨Nat.le_of_ble_eq_true rfl, Nat.le_of_ble_eq_true rfl⟩ (k_recv hK hP.1 rfl) hP rfl hl.1 rfl (Nat.le_of_ble_eq_true rfl) dX7_count_17 ⟨Nat.le_of_ble_eq_true rfl, Nat.le_of_ble_eq_true rfl⟩ ?_
  refine lv_goto (tgt := 28) hx hb dX7_count_20 (by decide) ?_
  exact k_iretM hx hb hr hlk dX7_count_28 hS hP (rfl)
def rm_X7_setting_f1 : Room := { frames := 1, cells := 0, slots := 0, locals := 22 }
theorem hd_X7_setting : k_hd1 yX7_setting RX7 1 := by decide +kernel
set_option maxHeartbeats 4000000 in
set_option maxRecDepth 100000 in
theorem c_X7_setting_f1 (l : Launch) (E : ke_E) (o : Nat) (z : Nat → Int32) (w : md_w) (x : Int32) (hI : iv z) (h1 : ¬ inR x 5) : Met l yX7_setting wsX7_setting rm_X7_setting_f1 (kp E [.ref o, .int x] (md E o z w)) (qm (some (.int (nI 0))) (bl o 6) (md E o z (w_th w (nI 1)))) 0 0 (bl o 6) := by
  refine k_hd (cc := cX7_setting) (maxL := 2) (ret := (some .int)) (by decide) rfl (Nat.le_of_ble_eq_true rfl) ?_
  intro p e s m below meth c ls S hr hlk hnm hK hP hl
  have hx := S.1
  have hb := S.2.1
  have hts := S.2.2.2.2
  have hP : md E o z w s.heap := hP
  have hl : lv_has ls 2 [(0, .ref o), (1, .int x)] := hl
  have hS : va_S (bl o 6) s.heap s.heap [] := va_S.rf
  have hcn := iv_c hI
  refine lv_aload_n hx hb dX7_setting_0 rfl (lv_at hl 0 rfl) ?_
  refine lv_iconst (v := nI 0) hx hb dX7_setting_1 (by decide) ?_
  refine md_put (w' := w_th w (nI 0)) S hK hP (fun _ h => List.mem_cons_of_mem _ (List.mem_append_right _ (h))) 6 (by decide) (List.mem_cons_of_mem _ (List.mem_append_left _ (List.mem_of_getElem? (i := 0) rfl))) rfl rfl rfl rfl rfl rfl rfl rfl rfl hS (fun _ h => h) dX7_setting_2 (fun H locs hP zH fH hS => ?_)
  refine lv_iload_n hx hb dX7_setting_5 rfl (lv_at hl 1 rfl) ?_
  refine lv_iconst (v := nI 0) hx hb dX7_setting_6 (by decide) ?_
  refine lv_iconst (v := nI 4) hx hb dX7_setting_7 (by decide) ?_
  refine k_S (As := [.int x, .int (nI 0), .int (nI 4)]) (rest := []) S hK (c_X7_in l E x (nI 0) (nI 4)) gX7_setting_X7_in rfl hd_X7_in ⟨rfl, rfl⟩ ⟨Nat.le_of_ble_eq_true rfl, Nat.le_of_ble_eq_true rfl⟩ trivial rfl hl.1 rfl (Nat.le_of_ble_eq_true rfl) dX7_setting_8 ⟨Nat.le_of_ble_eq_true rfl, Nat.le_of_ble_eq_true rfl⟩ ?_
  refine b_eq (tgt := 26) hx hb dX7_setting_11 (by decide) (fun c11 => ?_) (fun h => absurd h (fun q => h1 ((inR_iff (by decide)).mp q)))
  refine lv_aload_n hx hb dX7_setting_26 rfl (lv_at hl 0 rfl) ?_
  refine lv_iconst (v := nI 1) hx hb dX7_setting_27 (by decide) ?_
  refine k_VM (As := [.int (nI 1)]) (rest := []) S hK (c_X7_fails l E o z (w_th w (nI 0)) (nI 1)) gX7_setting_X7_fails rfl hd_X7_fails ⟨rfl, rfl⟩ ⟨Nat.le_of_ble_eq_true rfl, Nat.le_of_ble_eq_true rfl⟩ (k_recv hK hP.1 rfl) hP rfl hl.1 rfl (Nat.le_of_ble_eq_true rfl) dX7_setting_28 ⟨Nat.le_of_ble_eq_true rfl, Nat.le_of_ble_eq_true rfl⟩ hS (fun q h => h) (fun q h => h) (fun H locs hQ zH fH hS => ?_)
  have hP := hQ
  exact k_iretM hx hb hr hlk dX7_setting_31 hS (show md E o z (w_th w (nI 1)) _ from hP) (rfl)
def rm_X7_setting : Room := { frames := 1, cells := 0, slots := 0, locals := 22 }
set_option maxHeartbeats 4000000 in
set_option maxRecDepth 100000 in
theorem c_X7_setting (l : Launch) (E : ke_E) (o : Nat) (z : Nat → Int32) (w : md_w) (k : Nat) (hI : iv z) (hk : k < 5) : Met l yX7_setting wsX7_setting rm_X7_setting (kp E [.ref o, .int (nI k)] (md E o z w)) (qm (some (.int (z (k + 7)))) (bl o 6) (md E o z (w_th w (nI 0)))) 0 0 (bl o 6) := by
  refine k_hd (cc := cX7_setting) (maxL := 2) (ret := (some .int)) (by decide) rfl (Nat.le_of_ble_eq_true rfl) ?_
  intro p e s m below meth c ls S hr hlk hnm hK hP hl
  have hx := S.1
  have hb := S.2.1
  have hts := S.2.2.2.2
  have hP : md E o z w s.heap := hP
  have hl : lv_has ls 2 [(0, .ref o), (1, .int (nI k))] := hl
  have hS : va_S (bl o 6) s.heap s.heap [] := va_S.rf
  have hcn := iv_c hI
  refine lv_aload_n hx hb dX7_setting_0 rfl (lv_at hl 0 rfl) ?_
  refine lv_iconst (v := nI 0) hx hb dX7_setting_1 (by decide) ?_
  refine md_put (w' := w_th w (nI 0)) S hK hP (fun _ h => List.mem_cons_of_mem _ (List.mem_append_right _ (h))) 6 (by decide) (List.mem_cons_of_mem _ (List.mem_append_left _ (List.mem_of_getElem? (i := 0) rfl))) rfl rfl rfl rfl rfl rfl rfl rfl rfl hS (fun _ h => h) dX7_setting_2 (fun H locs hP zH fH hS => ?_)
  refine lv_iload_n hx hb dX7_setting_5 rfl (lv_at hl 1 rfl) ?_
  refine lv_iconst (v := nI 0) hx hb dX7_setting_6 (by decide) ?_
  refine lv_iconst (v := nI 4) hx hb dX7_setting_7 (by decide) ?_
  refine k_S (As := [.int (nI k), .int (nI 0), .int (nI 4)]) (rest := []) S hK (c_X7_in l E (nI k) (nI 0) (nI 4)) gX7_setting_X7_in rfl hd_X7_in ⟨rfl, rfl⟩ ⟨Nat.le_of_ble_eq_true rfl, Nat.le_of_ble_eq_true rfl⟩ trivial rfl hl.1 rfl (Nat.le_of_ble_eq_true rfl) dX7_setting_8 ⟨Nat.le_of_ble_eq_true rfl, Nat.le_of_ble_eq_true rfl⟩ ?_
  refine b_eq (tgt := 26) hx hb dX7_setting_11 (by decide) (fun h => absurd (in_n (by omega) (by omega) (by decide)) h) (fun c11 => ?_)
  refine lv_aload_n hx hb dX7_setting_14 rfl (lv_at hl 0 rfl) ?_
  refine k_get S hK hP.1 rfl (fun _ h => List.mem_cons_of_mem _ (List.mem_append_right _ (h))) 0 (by decide) (List.mem_cons_of_mem _ (List.mem_append_left _ (List.mem_of_getElem? (i := 1) rfl))) rfl (v := .ref (o + 1)) rfl dX7_setting_15 ?_
  refine lv_bipush (v := nI 7) hx hb dX7_setting_18 (by decide) ?_
  refine lv_iload_n hx hb dX7_setting_20 rfl (lv_at hl 1 rfl) ?_
  refine n_iadd (n := k + 7) hx hb dX7_setting_21 (by omega) ?_
  refine k_iald hx hb hK hP.2.1 (by omega) (by decide) (v := z (k + 7)) rfl dX7_setting_22 ?_
  refine lv_goto (tgt := 31) hx hb dX7_setting_23 (by decide) ?_
  exact k_iretM hx hb hr hlk dX7_setting_31 hS hP (rfl)
def rm_X7_whyNot_f1 : Room := { frames := 2, cells := 0, slots := 0, locals := 43 }
theorem hd_X7_whyNot : k_hd1 yX7_whyNot RX7 2 := by decide +kernel
set_option maxHeartbeats 4000000 in
set_option maxRecDepth 100000 in
theorem c_X7_whyNot_f1 (l : Launch) (E : ke_E) (o : Nat) (z : Nat → Int32) (w : md_w) (x : Int32) (y : Int32) (hI : iv z) (h1 : ¬ inR x (cn z)) : Met l yX7_whyNot wsX7_whyNot rm_X7_whyNot_f1 (kp E [.ref o, .int x, .int y] (md E o z w)) (qm (some (.int (nI 0))) (bl o 6) (md E o z (w_th w (nI 1)))) 0 0 (bl o 6) := by
  refine k_hd (cc := cX7_whyNot) (maxL := 3) (ret := (some .int)) (by decide) rfl (Nat.le_of_ble_eq_true rfl) ?_
  intro p e s m below meth c ls S hr hlk hnm hK hP hl
  have hx := S.1
  have hb := S.2.1
  have hts := S.2.2.2.2
  have hP : md E o z w s.heap := hP
  have hl : lv_has ls 3 [(0, .ref o), (1, .int x), (2, .int y)] := hl
  have hS : va_S (bl o 6) s.heap s.heap [] := va_S.rf
  have hcn := iv_c hI
  refine lv_aload_n hx hb dX7_whyNot_0 rfl (lv_at hl 0 rfl) ?_
  refine lv_iconst (v := nI 0) hx hb dX7_whyNot_1 (by decide) ?_
  refine md_put (w' := w_th w (nI 0)) S hK hP (fun _ h => List.mem_cons_of_mem _ (List.mem_append_right _ (h))) 6 (by decide) (List.mem_cons_of_mem _ (List.mem_append_left _ (List.mem_append_left _ (List.mem_of_getElem? (i := 0) rfl)))) rfl rfl rfl rfl rfl rfl rfl rfl rfl hS (fun _ h => h) dX7_whyNot_2 (fun H locs hP zH fH hS => ?_)
  refine lv_aload_n hx hb dX7_whyNot_5 rfl (lv_at hl 0 rfl) ?_
  refine lv_iload_n hx hb dX7_whyNot_6 rfl (lv_at hl 1 rfl) ?_
  refine k_V (As := [.int x]) (rest := []) S hK (c_X7_isUnit l E o z (w_th w (nI 0)) x hI) gX7_whyNot_X7_isUnit rfl hd_X7_isUnit ⟨rfl, rfl⟩ ⟨Nat.le_of_ble_eq_true rfl, Nat.le_of_ble_eq_true rfl⟩ (k_recv hK hP.1 rfl) hP rfl hl.1 rfl (Nat.le_of_ble_eq_true rfl) dX7_whyNot_7 ⟨Nat.le_of_ble_eq_true rfl, Nat.le_of_ble_eq_true rfl⟩ ?_
  refine b_ne (tgt := 19) hx hb dX7_whyNot_10 (by decide) (fun h => absurd h (fun q => h1 ((isU_iff (by omega)).mp q))) (fun c10 => ?_)
  refine lv_aload_n hx hb dX7_whyNot_13 rfl (lv_at hl 0 rfl) ?_
  refine lv_iconst (v := nI 1) hx hb dX7_whyNot_14 (by decide) ?_
  refine k_VM (As := [.int (nI 1)]) (rest := []) S hK (c_X7_fails l E o z (w_th w (nI 0)) (nI 1)) gX7_whyNot_X7_fails rfl hd_X7_fails ⟨rfl, rfl⟩ ⟨Nat.le_of_ble_eq_true rfl, Nat.le_of_ble_eq_true rfl⟩ (k_recv hK hP.1 rfl) hP rfl hl.1 rfl (Nat.le_of_ble_eq_true rfl) dX7_whyNot_15 ⟨Nat.le_of_ble_eq_true rfl, Nat.le_of_ble_eq_true rfl⟩ hS (fun q h => h) (fun q h => h) (fun H locs hQ zH fH hS => ?_)
  have hP := hQ
  exact k_iretM hx hb hr hlk dX7_whyNot_18 hS (show md E o z (w_th w (nI 1)) _ from hP) (rfl)
def rm_X7_whyNot_f2 : Room := { frames := 2, cells := 0, slots := 0, locals := 43 }
set_option maxHeartbeats 4000000 in
set_option maxRecDepth 100000 in
theorem c_X7_whyNot_f2 (l : Launch) (E : ke_E) (o : Nat) (z : Nat → Int32) (w : md_w) (u : Nat) (y : Int32) (hI : iv z) (hu : u < cn z) (h1 : ¬ (nI 1 ≤ y ∧ y ≤ nI 4)) : Met l yX7_whyNot wsX7_whyNot rm_X7_whyNot_f2 (kp E [.ref o, .int (nI u), .int y] (md E o z w)) (qm (some (.int (nI 0))) (bl o 6) (md E o z (w_th w (nI 2)))) 0 0 (bl o 6) := by
  refine k_hd (cc := cX7_whyNot) (maxL := 3) (ret := (some .int)) (by decide) rfl (Nat.le_of_ble_eq_true rfl) ?_
  intro p e s m below meth c ls S hr hlk hnm hK hP hl
  have hx := S.1
  have hb := S.2.1
  have hts := S.2.2.2.2
  have hP : md E o z w s.heap := hP
  have hl : lv_has ls 3 [(0, .ref o), (1, .int (nI u)), (2, .int y)] := hl
  have hS : va_S (bl o 6) s.heap s.heap [] := va_S.rf
  have hcn := iv_c hI
  refine lv_aload_n hx hb dX7_whyNot_0 rfl (lv_at hl 0 rfl) ?_
  refine lv_iconst (v := nI 0) hx hb dX7_whyNot_1 (by decide) ?_
  refine md_put (w' := w_th w (nI 0)) S hK hP (fun _ h => List.mem_cons_of_mem _ (List.mem_append_right _ (h))) 6 (by decide) (List.mem_cons_of_mem _ (List.mem_append_left _ (List.mem_append_left _ (List.mem_of_getElem? (i := 0) rfl)))) rfl rfl rfl rfl rfl rfl rfl rfl rfl hS (fun _ h => h) dX7_whyNot_2 (fun H locs hP zH fH hS => ?_)
  refine lv_aload_n hx hb dX7_whyNot_5 rfl (lv_at hl 0 rfl) ?_
  refine lv_iload_n hx hb dX7_whyNot_6 rfl (lv_at hl 1 rfl) ?_
  refine k_V (As := [.int (nI u)]) (rest := []) S hK (c_X7_isUnit l E o z (w_th w (nI 0)) (nI u) hI) gX7_whyNot_X7_isUnit rfl hd_X7_isUnit ⟨rfl, rfl⟩ ⟨Nat.le_of_ble_eq_true rfl, Nat.le_of_ble_eq_true rfl⟩ (k_recv hK hP.1 rfl) hP rfl hl.1 rfl (Nat.le_of_ble_eq_true rfl) dX7_whyNot_7 ⟨Nat.le_of_ble_eq_true rfl, Nat.le_of_ble_eq_true rfl⟩ ?_
  refine b_ne (tgt := 19) hx hb dX7_whyNot_10 (by decide) (fun c10 => ?_) (fun h => absurd (isU hu (by omega)) h)
  refine lv_iload_n hx hb dX7_whyNot_19 rfl (lv_at hl 2 rfl) ?_
  refine lv_iconst (v := nI 1) hx hb dX7_whyNot_20 (by decide) ?_
  refine lv_iconst (v := nI 4) hx hb dX7_whyNot_21 (by decide) ?_
  refine k_S (As := [.int y, .int (nI 1), .int (nI 4)]) (rest := []) S hK (c_X7_in l E y (nI 1) (nI 4)) gX7_whyNot_X7_in rfl hd_X7_in ⟨rfl, rfl⟩ ⟨Nat.le_of_ble_eq_true rfl, Nat.le_of_ble_eq_true rfl⟩ trivial rfl hl.1 rfl (Nat.le_of_ble_eq_true rfl) dX7_whyNot_22 ⟨Nat.le_of_ble_eq_true rfl, Nat.le_of_ble_eq_true rfl⟩ ?_
  refine b_eq (tgt := 37) hx hb dX7_whyNot_25 (by decide) (fun c25 => ?_) (fun h => absurd h h1)
  refine lv_aload_n hx hb dX7_whyNot_37 rfl (lv_at hl 0 rfl) ?_
  refine lv_iconst (v := nI 2) hx hb dX7_whyNot_38 (by decide) ?_
  refine k_VM (As := [.int (nI 2)]) (rest := []) S hK (c_X7_fails l E o z (w_th w (nI 0)) (nI 2)) gX7_whyNot_X7_fails rfl hd_X7_fails ⟨rfl, rfl⟩ ⟨Nat.le_of_ble_eq_true rfl, Nat.le_of_ble_eq_true rfl⟩ (k_recv hK hP.1 rfl) hP rfl hl.1 rfl (Nat.le_of_ble_eq_true rfl) dX7_whyNot_39 ⟨Nat.le_of_ble_eq_true rfl, Nat.le_of_ble_eq_true rfl⟩ hS (fun q h => h) (fun q h => h) (fun H locs hQ zH fH hS => ?_)
  have hP := hQ
  exact k_iretM hx hb hr hlk dX7_whyNot_42 hS (show md E o z (w_th w (nI 2)) _ from hP) (rfl)
def rm_X7_whyNot_1 : Room := { frames := 4, cells := 0, slots := 0, locals := 92 }
set_option maxHeartbeats 4000000 in
set_option maxRecDepth 100000 in
theorem c_X7_whyNot_1 (l : Launch) (E : ke_E) (o : Nat) (z : Nat → Int32) (w : md_w) (u : Nat) (hI : iv z) (hu : u < cn z) : Met l yX7_whyNot wsX7_whyNot rm_X7_whyNot_1 (kp E [.ref o, .int (nI u), .int (nI 1)] (md E o z w)) (qm (some (.int (wy1 z u))) (bl o 6) (md E o z (w_th w (nI 0)))) 0 0 (bl o 6) := by
  refine k_hd (cc := cX7_whyNot) (maxL := 3) (ret := (some .int)) (by decide) rfl (Nat.le_of_ble_eq_true rfl) ?_
  intro p e s m below meth c ls S hr hlk hnm hK hP hl
  have hx := S.1
  have hb := S.2.1
  have hts := S.2.2.2.2
  have hP : md E o z w s.heap := hP
  have hl : lv_has ls 3 [(0, .ref o), (1, .int (nI u)), (2, .int (nI 1))] := hl
  have hS : va_S (bl o 6) s.heap s.heap [] := va_S.rf
  have hcn := iv_c hI
  refine lv_aload_n hx hb dX7_whyNot_0 rfl (lv_at hl 0 rfl) ?_
  refine lv_iconst (v := nI 0) hx hb dX7_whyNot_1 (by decide) ?_
  refine md_put (w' := w_th w (nI 0)) S hK hP (fun _ h => List.mem_cons_of_mem _ (List.mem_append_right _ (h))) 6 (by decide) (List.mem_cons_of_mem _ (List.mem_append_left _ (List.mem_append_left _ (List.mem_of_getElem? (i := 0) rfl)))) rfl rfl rfl rfl rfl rfl rfl rfl rfl hS (fun _ h => h) dX7_whyNot_2 (fun H locs hP zH fH hS => ?_)
  refine lv_aload_n hx hb dX7_whyNot_5 rfl (lv_at hl 0 rfl) ?_
  refine lv_iload_n hx hb dX7_whyNot_6 rfl (lv_at hl 1 rfl) ?_
  refine k_V (As := [.int (nI u)]) (rest := []) S hK (c_X7_isUnit l E o z (w_th w (nI 0)) (nI u) hI) gX7_whyNot_X7_isUnit rfl hd_X7_isUnit ⟨rfl, rfl⟩ ⟨Nat.le_of_ble_eq_true rfl, Nat.le_of_ble_eq_true rfl⟩ (k_recv hK hP.1 rfl) hP rfl hl.1 rfl (Nat.le_of_ble_eq_true rfl) dX7_whyNot_7 ⟨Nat.le_of_ble_eq_true rfl, Nat.le_of_ble_eq_true rfl⟩ ?_
  refine b_ne (tgt := 19) hx hb dX7_whyNot_10 (by decide) (fun c10 => ?_) (fun h => absurd (isU hu (by omega)) h)
  refine lv_iload_n hx hb dX7_whyNot_19 rfl (lv_at hl 2 rfl) ?_
  refine lv_iconst (v := nI 1) hx hb dX7_whyNot_20 (by decide) ?_
  refine lv_iconst (v := nI 4) hx hb dX7_whyNot_21 (by decide) ?_
  refine k_S (As := [.int (nI 1), .int (nI 1), .int (nI 4)]) (rest := []) S hK (c_X7_in l E (nI 1) (nI 1) (nI 4)) gX7_whyNot_X7_in rfl hd_X7_in ⟨rfl, rfl⟩ ⟨Nat.le_of_ble_eq_true rfl, Nat.le_of_ble_eq_true rfl⟩ trivial rfl hl.1 rfl (Nat.le_of_ble_eq_true rfl) dX7_whyNot_22 ⟨Nat.le_of_ble_eq_true rfl, Nat.le_of_ble_eq_true rfl⟩ ?_
  refine b_eq (tgt := 37) hx hb dX7_whyNot_25 (by decide) (fun h => absurd (in_n (by decide) (by decide) (by decide)) h) (fun c25 => ?_)
  refine lv_aload_n hx hb dX7_whyNot_28 rfl (lv_at hl 0 rfl) ?_
  refine lv_iload_n hx hb dX7_whyNot_29 rfl (lv_at hl 1 rfl) ?_
  refine lv_iload_n hx hb dX7_whyNot_30 rfl (lv_at hl 2 rfl) ?_
  refine k_V (As := [.int (nI u), .int (nI 1)]) (rest := []) S hK (c_X7_why_1 l E o z (w_th w (nI 0)) u hI hu) gX7_whyNot_X7_why rfl hd_X7_why ⟨rfl, rfl⟩ ⟨Nat.le_of_ble_eq_true rfl, Nat.le_of_ble_eq_true rfl⟩ (k_recv hK hP.1 rfl) hP rfl hl.1 rfl (Nat.le_of_ble_eq_true rfl) dX7_whyNot_31 ⟨Nat.le_of_ble_eq_true rfl, Nat.le_of_ble_eq_true rfl⟩ ?_
  refine lv_goto (tgt := 42) hx hb dX7_whyNot_34 (by decide) ?_
  exact k_iretM hx hb hr hlk dX7_whyNot_42 hS hP (rfl)
def rm_X7_whyNot_2 : Room := { frames := 4, cells := 0, slots := 0, locals := 92 }
set_option maxHeartbeats 4000000 in
set_option maxRecDepth 100000 in
theorem c_X7_whyNot_2 (l : Launch) (E : ke_E) (o : Nat) (z : Nat → Int32) (w : md_w) (u : Nat) (hI : iv z) (hu : u < cn z) : Met l yX7_whyNot wsX7_whyNot rm_X7_whyNot_2 (kp E [.ref o, .int (nI u), .int (nI 2)] (md E o z w)) (qm (some (.int (wy2 z u))) (bl o 6) (md E o z (w_th w (nI 0)))) 0 0 (bl o 6) := by
  refine k_hd (cc := cX7_whyNot) (maxL := 3) (ret := (some .int)) (by decide) rfl (Nat.le_of_ble_eq_true rfl) ?_
  intro p e s m below meth c ls S hr hlk hnm hK hP hl
  have hx := S.1
  have hb := S.2.1
  have hts := S.2.2.2.2
  have hP : md E o z w s.heap := hP
  have hl : lv_has ls 3 [(0, .ref o), (1, .int (nI u)), (2, .int (nI 2))] := hl
  have hS : va_S (bl o 6) s.heap s.heap [] := va_S.rf
  have hcn := iv_c hI
  refine lv_aload_n hx hb dX7_whyNot_0 rfl (lv_at hl 0 rfl) ?_
  refine lv_iconst (v := nI 0) hx hb dX7_whyNot_1 (by decide) ?_
  refine md_put (w' := w_th w (nI 0)) S hK hP (fun _ h => List.mem_cons_of_mem _ (List.mem_append_right _ (h))) 6 (by decide) (List.mem_cons_of_mem _ (List.mem_append_left _ (List.mem_append_left _ (List.mem_of_getElem? (i := 0) rfl)))) rfl rfl rfl rfl rfl rfl rfl rfl rfl hS (fun _ h => h) dX7_whyNot_2 (fun H locs hP zH fH hS => ?_)
  refine lv_aload_n hx hb dX7_whyNot_5 rfl (lv_at hl 0 rfl) ?_
  refine lv_iload_n hx hb dX7_whyNot_6 rfl (lv_at hl 1 rfl) ?_
  refine k_V (As := [.int (nI u)]) (rest := []) S hK (c_X7_isUnit l E o z (w_th w (nI 0)) (nI u) hI) gX7_whyNot_X7_isUnit rfl hd_X7_isUnit ⟨rfl, rfl⟩ ⟨Nat.le_of_ble_eq_true rfl, Nat.le_of_ble_eq_true rfl⟩ (k_recv hK hP.1 rfl) hP rfl hl.1 rfl (Nat.le_of_ble_eq_true rfl) dX7_whyNot_7 ⟨Nat.le_of_ble_eq_true rfl, Nat.le_of_ble_eq_true rfl⟩ ?_
  refine b_ne (tgt := 19) hx hb dX7_whyNot_10 (by decide) (fun c10 => ?_) (fun h => absurd (isU hu (by omega)) h)
  refine lv_iload_n hx hb dX7_whyNot_19 rfl (lv_at hl 2 rfl) ?_
  refine lv_iconst (v := nI 1) hx hb dX7_whyNot_20 (by decide) ?_
  refine lv_iconst (v := nI 4) hx hb dX7_whyNot_21 (by decide) ?_
  refine k_S (As := [.int (nI 2), .int (nI 1), .int (nI 4)]) (rest := []) S hK (c_X7_in l E (nI 2) (nI 1) (nI 4)) gX7_whyNot_X7_in rfl hd_X7_in ⟨rfl, rfl⟩ ⟨Nat.le_of_ble_eq_true rfl, Nat.le_of_ble_eq_true rfl⟩ trivial rfl hl.1 rfl (Nat.le_of_ble_eq_true rfl) dX7_whyNot_22 ⟨Nat.le_of_ble_eq_true rfl, Nat.le_of_ble_eq_true rfl⟩ ?_
  refine b_eq (tgt := 37) hx hb dX7_whyNot_25 (by decide) (fun h => absurd (in_n (by decide) (by decide) (by decide)) h) (fun c25 => ?_)
  refine lv_aload_n hx hb dX7_whyNot_28 rfl (lv_at hl 0 rfl) ?_
  refine lv_iload_n hx hb dX7_whyNot_29 rfl (lv_at hl 1 rfl) ?_
  refine lv_iload_n hx hb dX7_whyNot_30 rfl (lv_at hl 2 rfl) ?_
  refine k_V (As := [.int (nI u), .int (nI 2)]) (rest := []) S hK (c_X7_why_2 l E o z (w_th w (nI 0)) u hI hu) gX7_whyNot_X7_why rfl hd_X7_why ⟨rfl, rfl⟩ ⟨Nat.le_of_ble_eq_true rfl, Nat.le_of_ble_eq_true rfl⟩ (k_recv hK hP.1 rfl) hP rfl hl.1 rfl (Nat.le_of_ble_eq_true rfl) dX7_whyNot_31 ⟨Nat.le_of_ble_eq_true rfl, Nat.le_of_ble_eq_true rfl⟩ ?_
  refine lv_goto (tgt := 42) hx hb dX7_whyNot_34 (by decide) ?_
  exact k_iretM hx hb hr hlk dX7_whyNot_42 hS hP (rfl)
def rm_X7_whyNot_3 : Room := { frames := 4, cells := 0, slots := 0, locals := 92 }
set_option maxHeartbeats 4000000 in
set_option maxRecDepth 100000 in
theorem c_X7_whyNot_3 (l : Launch) (E : ke_E) (o : Nat) (z : Nat → Int32) (w : md_w) (u : Nat) (hI : iv z) (hu : u < cn z) : Met l yX7_whyNot wsX7_whyNot rm_X7_whyNot_3 (kp E [.ref o, .int (nI u), .int (nI 3)] (md E o z w)) (qm (some (.int (wy3 z u))) (bl o 6) (md E o z (w_th w (nI 0)))) 0 0 (bl o 6) := by
  refine k_hd (cc := cX7_whyNot) (maxL := 3) (ret := (some .int)) (by decide) rfl (Nat.le_of_ble_eq_true rfl) ?_
  intro p e s m below meth c ls S hr hlk hnm hK hP hl
  have hx := S.1
  have hb := S.2.1
  have hts := S.2.2.2.2
  have hP : md E o z w s.heap := hP
  have hl : lv_has ls 3 [(0, .ref o), (1, .int (nI u)), (2, .int (nI 3))] := hl
  have hS : va_S (bl o 6) s.heap s.heap [] := va_S.rf
  have hcn := iv_c hI
  refine lv_aload_n hx hb dX7_whyNot_0 rfl (lv_at hl 0 rfl) ?_
  refine lv_iconst (v := nI 0) hx hb dX7_whyNot_1 (by decide) ?_
  refine md_put (w' := w_th w (nI 0)) S hK hP (fun _ h => List.mem_cons_of_mem _ (List.mem_append_right _ (h))) 6 (by decide) (List.mem_cons_of_mem _ (List.mem_append_left _ (List.mem_append_left _ (List.mem_of_getElem? (i := 0) rfl)))) rfl rfl rfl rfl rfl rfl rfl rfl rfl hS (fun _ h => h) dX7_whyNot_2 (fun H locs hP zH fH hS => ?_)
  refine lv_aload_n hx hb dX7_whyNot_5 rfl (lv_at hl 0 rfl) ?_
  refine lv_iload_n hx hb dX7_whyNot_6 rfl (lv_at hl 1 rfl) ?_
  refine k_V (As := [.int (nI u)]) (rest := []) S hK (c_X7_isUnit l E o z (w_th w (nI 0)) (nI u) hI) gX7_whyNot_X7_isUnit rfl hd_X7_isUnit ⟨rfl, rfl⟩ ⟨Nat.le_of_ble_eq_true rfl, Nat.le_of_ble_eq_true rfl⟩ (k_recv hK hP.1 rfl) hP rfl hl.1 rfl (Nat.le_of_ble_eq_true rfl) dX7_whyNot_7 ⟨Nat.le_of_ble_eq_true rfl, Nat.le_of_ble_eq_true rfl⟩ ?_
  refine b_ne (tgt := 19) hx hb dX7_whyNot_10 (by decide) (fun c10 => ?_) (fun h => absurd (isU hu (by omega)) h)
  refine lv_iload_n hx hb dX7_whyNot_19 rfl (lv_at hl 2 rfl) ?_
  refine lv_iconst (v := nI 1) hx hb dX7_whyNot_20 (by decide) ?_
  refine lv_iconst (v := nI 4) hx hb dX7_whyNot_21 (by decide) ?_
  refine k_S (As := [.int (nI 3), .int (nI 1), .int (nI 4)]) (rest := []) S hK (c_X7_in l E (nI 3) (nI 1) (nI 4)) gX7_whyNot_X7_in rfl hd_X7_in ⟨rfl, rfl⟩ ⟨Nat.le_of_ble_eq_true rfl, Nat.le_of_ble_eq_true rfl⟩ trivial rfl hl.1 rfl (Nat.le_of_ble_eq_true rfl) dX7_whyNot_22 ⟨Nat.le_of_ble_eq_true rfl, Nat.le_of_ble_eq_true rfl⟩ ?_
  refine b_eq (tgt := 37) hx hb dX7_whyNot_25 (by decide) (fun h => absurd (in_n (by decide) (by decide) (by decide)) h) (fun c25 => ?_)
  refine lv_aload_n hx hb dX7_whyNot_28 rfl (lv_at hl 0 rfl) ?_
  refine lv_iload_n hx hb dX7_whyNot_29 rfl (lv_at hl 1 rfl) ?_
  refine lv_iload_n hx hb dX7_whyNot_30 rfl (lv_at hl 2 rfl) ?_
  refine k_V (As := [.int (nI u), .int (nI 3)]) (rest := []) S hK (c_X7_why_3 l E o z (w_th w (nI 0)) u hI hu) gX7_whyNot_X7_why rfl hd_X7_why ⟨rfl, rfl⟩ ⟨Nat.le_of_ble_eq_true rfl, Nat.le_of_ble_eq_true rfl⟩ (k_recv hK hP.1 rfl) hP rfl hl.1 rfl (Nat.le_of_ble_eq_true rfl) dX7_whyNot_31 ⟨Nat.le_of_ble_eq_true rfl, Nat.le_of_ble_eq_true rfl⟩ ?_
  refine lv_goto (tgt := 42) hx hb dX7_whyNot_34 (by decide) ?_
  exact k_iretM hx hb hr hlk dX7_whyNot_42 hS hP (rfl)
def rm_X7_whyNot_4 : Room := { frames := 4, cells := 0, slots := 0, locals := 92 }
set_option maxHeartbeats 4000000 in
set_option maxRecDepth 100000 in
theorem c_X7_whyNot_4 (l : Launch) (E : ke_E) (o : Nat) (z : Nat → Int32) (w : md_w) (u : Nat) (hI : iv z) (hu : u < cn z) : Met l yX7_whyNot wsX7_whyNot rm_X7_whyNot_4 (kp E [.ref o, .int (nI u), .int (nI 4)] (md E o z w)) (qm (some (.int (wy4 z u))) (bl o 6) (md E o z (w_th w (nI 0)))) 0 0 (bl o 6) := by
  refine k_hd (cc := cX7_whyNot) (maxL := 3) (ret := (some .int)) (by decide) rfl (Nat.le_of_ble_eq_true rfl) ?_
  intro p e s m below meth c ls S hr hlk hnm hK hP hl
  have hx := S.1
  have hb := S.2.1
  have hts := S.2.2.2.2
  have hP : md E o z w s.heap := hP
  have hl : lv_has ls 3 [(0, .ref o), (1, .int (nI u)), (2, .int (nI 4))] := hl
  have hS : va_S (bl o 6) s.heap s.heap [] := va_S.rf
  have hcn := iv_c hI
  refine lv_aload_n hx hb dX7_whyNot_0 rfl (lv_at hl 0 rfl) ?_
  refine lv_iconst (v := nI 0) hx hb dX7_whyNot_1 (by decide) ?_
  refine md_put (w' := w_th w (nI 0)) S hK hP (fun _ h => List.mem_cons_of_mem _ (List.mem_append_right _ (h))) 6 (by decide) (List.mem_cons_of_mem _ (List.mem_append_left _ (List.mem_append_left _ (List.mem_of_getElem? (i := 0) rfl)))) rfl rfl rfl rfl rfl rfl rfl rfl rfl hS (fun _ h => h) dX7_whyNot_2 (fun H locs hP zH fH hS => ?_)
  refine lv_aload_n hx hb dX7_whyNot_5 rfl (lv_at hl 0 rfl) ?_
  refine lv_iload_n hx hb dX7_whyNot_6 rfl (lv_at hl 1 rfl) ?_
  refine k_V (As := [.int (nI u)]) (rest := []) S hK (c_X7_isUnit l E o z (w_th w (nI 0)) (nI u) hI) gX7_whyNot_X7_isUnit rfl hd_X7_isUnit ⟨rfl, rfl⟩ ⟨Nat.le_of_ble_eq_true rfl, Nat.le_of_ble_eq_true rfl⟩ (k_recv hK hP.1 rfl) hP rfl hl.1 rfl (Nat.le_of_ble_eq_true rfl) dX7_whyNot_7 ⟨Nat.le_of_ble_eq_true rfl, Nat.le_of_ble_eq_true rfl⟩ ?_
  refine b_ne (tgt := 19) hx hb dX7_whyNot_10 (by decide) (fun c10 => ?_) (fun h => absurd (isU hu (by omega)) h)
  refine lv_iload_n hx hb dX7_whyNot_19 rfl (lv_at hl 2 rfl) ?_
  refine lv_iconst (v := nI 1) hx hb dX7_whyNot_20 (by decide) ?_
  refine lv_iconst (v := nI 4) hx hb dX7_whyNot_21 (by decide) ?_
  refine k_S (As := [.int (nI 4), .int (nI 1), .int (nI 4)]) (rest := []) S hK (c_X7_in l E (nI 4) (nI 1) (nI 4)) gX7_whyNot_X7_in rfl hd_X7_in ⟨rfl, rfl⟩ ⟨Nat.le_of_ble_eq_true rfl, Nat.le_of_ble_eq_true rfl⟩ trivial rfl hl.1 rfl (Nat.le_of_ble_eq_true rfl) dX7_whyNot_22 ⟨Nat.le_of_ble_eq_true rfl, Nat.le_of_ble_eq_true rfl⟩ ?_
  refine b_eq (tgt := 37) hx hb dX7_whyNot_25 (by decide) (fun h => absurd (in_n (by decide) (by decide) (by decide)) h) (fun c25 => ?_)
  refine lv_aload_n hx hb dX7_whyNot_28 rfl (lv_at hl 0 rfl) ?_
  refine lv_iload_n hx hb dX7_whyNot_29 rfl (lv_at hl 1 rfl) ?_
  refine lv_iload_n hx hb dX7_whyNot_30 rfl (lv_at hl 2 rfl) ?_
  refine k_V (As := [.int (nI u), .int (nI 4)]) (rest := []) S hK (c_X7_why_4 l E o z (w_th w (nI 0)) u hI hu) gX7_whyNot_X7_why rfl hd_X7_why ⟨rfl, rfl⟩ ⟨Nat.le_of_ble_eq_true rfl, Nat.le_of_ble_eq_true rfl⟩ (k_recv hK hP.1 rfl) hP rfl hl.1 rfl (Nat.le_of_ble_eq_true rfl) dX7_whyNot_31 ⟨Nat.le_of_ble_eq_true rfl, Nat.le_of_ble_eq_true rfl⟩ ?_
  refine lv_goto (tgt := 42) hx hb dX7_whyNot_34 (by decide) ?_
  exact k_iretM hx hb hr hlk dX7_whyNot_42 hS hP (rfl)
def rm_X7_ifRepaired_f1 : Room := { frames := 2, cells := 0, slots := 0, locals := 43 }
theorem hd_X7_ifRepaired : k_hd1 yX7_ifRepaired RX7 2 := by decide +kernel
set_option maxHeartbeats 4000000 in
set_option maxRecDepth 100000 in
theorem c_X7_ifRepaired_f1 (l : Launch) (E : ke_E) (o : Nat) (z : Nat → Int32) (w : md_w) (x : Int32) (y : Int32) (hI : iv z) (h1 : ¬ inR x (cn z)) : Met l yX7_ifRepaired wsX7_ifRepaired rm_X7_ifRepaired_f1 (kp E [.ref o, .int x, .int y] (md E o z w)) (qm (some (.int (nI 0))) (bl o 6) (md E o z (w_th w (nI 1)))) 0 0 (bl o 6) := by
  refine k_hd (cc := cX7_ifRepaired) (maxL := 3) (ret := (some .int)) (by decide) rfl (Nat.le_of_ble_eq_true rfl) ?_
  intro p e s m below meth c ls S hr hlk hnm hK hP hl
  have hx := S.1
  have hb := S.2.1
  have hts := S.2.2.2.2
  have hP : md E o z w s.heap := hP
  have hl : lv_has ls 3 [(0, .ref o), (1, .int x), (2, .int y)] := hl
  have hS : va_S (bl o 6) s.heap s.heap [] := va_S.rf
  have hcn := iv_c hI
  refine lv_aload_n hx hb dX7_ifRepaired_0 rfl (lv_at hl 0 rfl) ?_
  refine lv_iconst (v := nI 0) hx hb dX7_ifRepaired_1 (by decide) ?_
  refine md_put (w' := w_th w (nI 0)) S hK hP (fun _ h => List.mem_cons_of_mem _ (List.mem_append_right _ (h))) 6 (by decide) (List.mem_cons_of_mem _ (List.mem_append_left _ (List.mem_append_left _ (List.mem_of_getElem? (i := 0) rfl)))) rfl rfl rfl rfl rfl rfl rfl rfl rfl hS (fun _ h => h) dX7_ifRepaired_2 (fun H locs hP zH fH hS => ?_)
  refine lv_aload_n hx hb dX7_ifRepaired_5 rfl (lv_at hl 0 rfl) ?_
  refine lv_iload_n hx hb dX7_ifRepaired_6 rfl (lv_at hl 1 rfl) ?_
  refine k_V (As := [.int x]) (rest := []) S hK (c_X7_isUnit l E o z (w_th w (nI 0)) x hI) gX7_ifRepaired_X7_isUnit rfl hd_X7_isUnit ⟨rfl, rfl⟩ ⟨Nat.le_of_ble_eq_true rfl, Nat.le_of_ble_eq_true rfl⟩ (k_recv hK hP.1 rfl) hP rfl hl.1 rfl (Nat.le_of_ble_eq_true rfl) dX7_ifRepaired_7 ⟨Nat.le_of_ble_eq_true rfl, Nat.le_of_ble_eq_true rfl⟩ ?_
  refine b_ne (tgt := 19) hx hb dX7_ifRepaired_10 (by decide) (fun h => absurd h (fun q => h1 ((isU_iff (by omega)).mp q))) (fun c10 => ?_)
  refine lv_aload_n hx hb dX7_ifRepaired_13 rfl (lv_at hl 0 rfl) ?_
  refine lv_iconst (v := nI 1) hx hb dX7_ifRepaired_14 (by decide) ?_
  refine k_VM (As := [.int (nI 1)]) (rest := []) S hK (c_X7_fails l E o z (w_th w (nI 0)) (nI 1)) gX7_ifRepaired_X7_fails rfl hd_X7_fails ⟨rfl, rfl⟩ ⟨Nat.le_of_ble_eq_true rfl, Nat.le_of_ble_eq_true rfl⟩ (k_recv hK hP.1 rfl) hP rfl hl.1 rfl (Nat.le_of_ble_eq_true rfl) dX7_ifRepaired_15 ⟨Nat.le_of_ble_eq_true rfl, Nat.le_of_ble_eq_true rfl⟩ hS (fun q h => h) (fun q h => h) (fun H locs hQ zH fH hS => ?_)
  have hP := hQ
  exact k_iretM hx hb hr hlk dX7_ifRepaired_18 hS (show md E o z (w_th w (nI 1)) _ from hP) (rfl)
def rm_X7_ifRepaired_f2 : Room := { frames := 2, cells := 0, slots := 0, locals := 43 }
set_option maxHeartbeats 4000000 in
set_option maxRecDepth 100000 in
theorem c_X7_ifRepaired_f2 (l : Launch) (E : ke_E) (o : Nat) (z : Nat → Int32) (w : md_w) (u : Nat) (x : Int32) (hI : iv z) (hu : u < cn z) (h1 : ¬ inR x 3) : Met l yX7_ifRepaired wsX7_ifRepaired rm_X7_ifRepaired_f2 (kp E [.ref o, .int (nI u), .int x] (md E o z w)) (qm (some (.int (nI 0))) (bl o 6) (md E o z (w_th w (nI 2)))) 0 0 (bl o 6) := by
  refine k_hd (cc := cX7_ifRepaired) (maxL := 3) (ret := (some .int)) (by decide) rfl (Nat.le_of_ble_eq_true rfl) ?_
  intro p e s m below meth c ls S hr hlk hnm hK hP hl
  have hx := S.1
  have hb := S.2.1
  have hts := S.2.2.2.2
  have hP : md E o z w s.heap := hP
  have hl : lv_has ls 3 [(0, .ref o), (1, .int (nI u)), (2, .int x)] := hl
  have hS : va_S (bl o 6) s.heap s.heap [] := va_S.rf
  have hcn := iv_c hI
  refine lv_aload_n hx hb dX7_ifRepaired_0 rfl (lv_at hl 0 rfl) ?_
  refine lv_iconst (v := nI 0) hx hb dX7_ifRepaired_1 (by decide) ?_
  refine md_put (w' := w_th w (nI 0)) S hK hP (fun _ h => List.mem_cons_of_mem _ (List.mem_append_right _ (h))) 6 (by decide) (List.mem_cons_of_mem _ (List.mem_append_left _ (List.mem_append_left _ (List.mem_of_getElem? (i := 0) rfl)))) rfl rfl rfl rfl rfl rfl rfl rfl rfl hS (fun _ h => h) dX7_ifRepaired_2 (fun H locs hP zH fH hS => ?_)
  refine lv_aload_n hx hb dX7_ifRepaired_5 rfl (lv_at hl 0 rfl) ?_
  refine lv_iload_n hx hb dX7_ifRepaired_6 rfl (lv_at hl 1 rfl) ?_
  refine k_V (As := [.int (nI u)]) (rest := []) S hK (c_X7_isUnit l E o z (w_th w (nI 0)) (nI u) hI) gX7_ifRepaired_X7_isUnit rfl hd_X7_isUnit ⟨rfl, rfl⟩ ⟨Nat.le_of_ble_eq_true rfl, Nat.le_of_ble_eq_true rfl⟩ (k_recv hK hP.1 rfl) hP rfl hl.1 rfl (Nat.le_of_ble_eq_true rfl) dX7_ifRepaired_7 ⟨Nat.le_of_ble_eq_true rfl, Nat.le_of_ble_eq_true rfl⟩ ?_
  refine b_ne (tgt := 19) hx hb dX7_ifRepaired_10 (by decide) (fun c10 => ?_) (fun h => absurd (isU hu (by omega)) h)
  refine lv_iload_n hx hb dX7_ifRepaired_19 rfl (lv_at hl 2 rfl) ?_
  refine lv_iconst (v := nI 0) hx hb dX7_ifRepaired_20 (by decide) ?_
  refine lv_iconst (v := nI 2) hx hb dX7_ifRepaired_21 (by decide) ?_
  refine k_S (As := [.int x, .int (nI 0), .int (nI 2)]) (rest := []) S hK (c_X7_in l E x (nI 0) (nI 2)) gX7_ifRepaired_X7_in rfl hd_X7_in ⟨rfl, rfl⟩ ⟨Nat.le_of_ble_eq_true rfl, Nat.le_of_ble_eq_true rfl⟩ trivial rfl hl.1 rfl (Nat.le_of_ble_eq_true rfl) dX7_ifRepaired_22 ⟨Nat.le_of_ble_eq_true rfl, Nat.le_of_ble_eq_true rfl⟩ ?_
  refine b_eq (tgt := 37) hx hb dX7_ifRepaired_25 (by decide) (fun c25 => ?_) (fun h => absurd h (fun q => h1 ((inR_iff (by decide)).mp q)))
  refine lv_aload_n hx hb dX7_ifRepaired_37 rfl (lv_at hl 0 rfl) ?_
  refine lv_iconst (v := nI 2) hx hb dX7_ifRepaired_38 (by decide) ?_
  refine k_VM (As := [.int (nI 2)]) (rest := []) S hK (c_X7_fails l E o z (w_th w (nI 0)) (nI 2)) gX7_ifRepaired_X7_fails rfl hd_X7_fails ⟨rfl, rfl⟩ ⟨Nat.le_of_ble_eq_true rfl, Nat.le_of_ble_eq_true rfl⟩ (k_recv hK hP.1 rfl) hP rfl hl.1 rfl (Nat.le_of_ble_eq_true rfl) dX7_ifRepaired_39 ⟨Nat.le_of_ble_eq_true rfl, Nat.le_of_ble_eq_true rfl⟩ hS (fun q h => h) (fun q h => h) (fun H locs hQ zH fH hS => ?_)
  have hP := hQ
  exact k_iretM hx hb hr hlk dX7_ifRepaired_42 hS (show md E o z (w_th w (nI 2)) _ from hP) (rfl)
def rm_X7_ifRepaired : Room := { frames := 4, cells := 0, slots := 0, locals := 92 }
set_option maxHeartbeats 4000000 in
set_option maxRecDepth 100000 in
theorem c_X7_ifRepaired (l : Launch) (E : ke_E) (o : Nat) (z : Nat → Int32) (w : md_w) (u : Nat) (k : Nat) (hI : iv z) (hu : u < cn z) (hk : k < 3) : Met l yX7_ifRepaired wsX7_ifRepaired rm_X7_ifRepaired (kp E [.ref o, .int (nI u), .int (nI k)] (md E o z w)) (qm (some (.int (rpV z u k))) (bl o 6) (md E o z (w_th w (nI 0)))) 0 0 (bl o 6) := by
  refine k_hd (cc := cX7_ifRepaired) (maxL := 3) (ret := (some .int)) (by decide) rfl (Nat.le_of_ble_eq_true rfl) ?_
  intro p e s m below meth c ls S hr hlk hnm hK hP hl
  have hx := S.1
  have hb := S.2.1
  have hts := S.2.2.2.2
  have hP : md E o z w s.heap := hP
  have hl : lv_has ls 3 [(0, .ref o), (1, .int (nI u)), (2, .int (nI k))] := hl
  have hS : va_S (bl o 6) s.heap s.heap [] := va_S.rf
  have hcn := iv_c hI
  refine lv_aload_n hx hb dX7_ifRepaired_0 rfl (lv_at hl 0 rfl) ?_
  refine lv_iconst (v := nI 0) hx hb dX7_ifRepaired_1 (by decide) ?_
  refine md_put (w' := w_th w (nI 0)) S hK hP (fun _ h => List.mem_cons_of_mem _ (List.mem_append_right _ (h))) 6 (by decide) (List.mem_cons_of_mem _ (List.mem_append_left _ (List.mem_append_left _ (List.mem_of_getElem? (i := 0) rfl)))) rfl rfl rfl rfl rfl rfl rfl rfl rfl hS (fun _ h => h) dX7_ifRepaired_2 (fun H locs hP zH fH hS => ?_)
  refine lv_aload_n hx hb dX7_ifRepaired_5 rfl (lv_at hl 0 rfl) ?_
  refine lv_iload_n hx hb dX7_ifRepaired_6 rfl (lv_at hl 1 rfl) ?_
  refine k_V (As := [.int (nI u)]) (rest := []) S hK (c_X7_isUnit l E o z (w_th w (nI 0)) (nI u) hI) gX7_ifRepaired_X7_isUnit rfl hd_X7_isUnit ⟨rfl, rfl⟩ ⟨Nat.le_of_ble_eq_true rfl, Nat.le_of_ble_eq_true rfl⟩ (k_recv hK hP.1 rfl) hP rfl hl.1 rfl (Nat.le_of_ble_eq_true rfl) dX7_ifRepaired_7 ⟨Nat.le_of_ble_eq_true rfl, Nat.le_of_ble_eq_true rfl⟩ ?_
  refine b_ne (tgt := 19) hx hb dX7_ifRepaired_10 (by decide) (fun c10 => ?_) (fun h => absurd (isU hu (by omega)) h)
  refine lv_iload_n hx hb dX7_ifRepaired_19 rfl (lv_at hl 2 rfl) ?_
  refine lv_iconst (v := nI 0) hx hb dX7_ifRepaired_20 (by decide) ?_
  refine lv_iconst (v := nI 2) hx hb dX7_ifRepaired_21 (by decide) ?_
  refine k_S (As := [.int (nI k), .int (nI 0), .int (nI 2)]) (rest := []) S hK (c_X7_in l E (nI k) (nI 0) (nI 2)) gX7_ifRepaired_X7_in rfl hd_X7_in ⟨rfl, rfl⟩ ⟨Nat.le_of_ble_eq_true rfl, Nat.le_of_ble_eq_true rfl⟩ trivial rfl hl.1 rfl (Nat.le_of_ble_eq_true rfl) dX7_ifRepaired_22 ⟨Nat.le_of_ble_eq_true rfl, Nat.le_of_ble_eq_true rfl⟩ ?_
  refine b_eq (tgt := 37) hx hb dX7_ifRepaired_25 (by decide) (fun h => absurd (in_n (by omega) (by omega) (by decide)) h) (fun c25 => ?_)
  refine lv_aload_n hx hb dX7_ifRepaired_28 rfl (lv_at hl 0 rfl) ?_
  refine lv_iload_n hx hb dX7_ifRepaired_29 rfl (lv_at hl 1 rfl) ?_
  refine lv_iload_n hx hb dX7_ifRepaired_30 rfl (lv_at hl 2 rfl) ?_
  refine k_V (As := [.int (nI u), .int (nI k)]) (rest := []) S hK (c_X7_repairedOf l E o z (w_th w (nI 0)) u k hI hu hk) gX7_ifRepaired_X7_repairedOf rfl hd_X7_repairedOf ⟨rfl, rfl⟩ ⟨Nat.le_of_ble_eq_true rfl, Nat.le_of_ble_eq_true rfl⟩ (k_recv hK hP.1 rfl) hP rfl hl.1 rfl (Nat.le_of_ble_eq_true rfl) dX7_ifRepaired_31 ⟨Nat.le_of_ble_eq_true rfl, Nat.le_of_ble_eq_true rfl⟩ ?_
  refine lv_goto (tgt := 42) hx hb dX7_ifRepaired_34 (by decide) ?_
  exact k_iretM hx hb hr hlk dX7_ifRepaired_42 hS hP (rfl)
def rm_X7_bestRoute_f1 : Room := { frames := 2, cells := 0, slots := 0, locals := 43 }
theorem hd_X7_bestRoute : k_hd1 yX7_bestRoute RX7 1 := by decide +kernel
set_option maxHeartbeats 4000000 in
set_option maxRecDepth 100000 in
theorem c_X7_bestRoute_f1 (l : Launch) (E : ke_E) (o : Nat) (z : Nat → Int32) (w : md_w) (x : Int32) (hI : iv z) (h1 : ¬ inR x (cn z)) : Met l yX7_bestRoute wsX7_bestRoute rm_X7_bestRoute_f1 (kp E [.ref o, .int x] (md E o z w)) (qm (some (.int (nI 0))) (bl o 6) (md E o z (w_th w (nI 1)))) 0 0 (bl o 6) := by
  refine k_hd (cc := cX7_bestRoute) (maxL := 2) (ret := (some .int)) (by decide) rfl (Nat.le_of_ble_eq_true rfl) ?_
  intro p e s m below meth c ls S hr hlk hnm hK hP hl
  have hx := S.1
  have hb := S.2.1
  have hts := S.2.2.2.2
  have hP : md E o z w s.heap := hP
  have hl : lv_has ls 2 [(0, .ref o), (1, .int x)] := hl
  have hS : va_S (bl o 6) s.heap s.heap [] := va_S.rf
  have hcn := iv_c hI
  refine lv_aload_n hx hb dX7_bestRoute_0 rfl (lv_at hl 0 rfl) ?_
  refine lv_iconst (v := nI 0) hx hb dX7_bestRoute_1 (by decide) ?_
  refine md_put (w' := w_th w (nI 0)) S hK hP (fun _ h => List.mem_cons_of_mem _ (List.mem_append_right _ (h))) 6 (by decide) (List.mem_cons_of_mem _ (List.mem_append_left _ (List.mem_append_left _ (List.mem_of_getElem? (i := 0) rfl)))) rfl rfl rfl rfl rfl rfl rfl rfl rfl hS (fun _ h => h) dX7_bestRoute_2 (fun H locs hP zH fH hS => ?_)
  refine lv_aload_n hx hb dX7_bestRoute_5 rfl (lv_at hl 0 rfl) ?_
  refine lv_iload_n hx hb dX7_bestRoute_6 rfl (lv_at hl 1 rfl) ?_
  refine k_V (As := [.int x]) (rest := []) S hK (c_X7_isUnit l E o z (w_th w (nI 0)) x hI) gX7_bestRoute_X7_isUnit rfl hd_X7_isUnit ⟨rfl, rfl⟩ ⟨Nat.le_of_ble_eq_true rfl, Nat.le_of_ble_eq_true rfl⟩ (k_recv hK hP.1 rfl) hP rfl hl.1 rfl (Nat.le_of_ble_eq_true rfl) dX7_bestRoute_7 ⟨Nat.le_of_ble_eq_true rfl, Nat.le_of_ble_eq_true rfl⟩ ?_
  refine b_eq (tgt := 21) hx hb dX7_bestRoute_10 (by decide) (fun c10 => ?_) (fun h => absurd h (fun q => h1 ((isU_iff (by omega)).mp q)))
  refine lv_aload_n hx hb dX7_bestRoute_21 rfl (lv_at hl 0 rfl) ?_
  refine lv_iconst (v := nI 1) hx hb dX7_bestRoute_22 (by decide) ?_
  refine k_VM (As := [.int (nI 1)]) (rest := []) S hK (c_X7_fails l E o z (w_th w (nI 0)) (nI 1)) gX7_bestRoute_X7_fails rfl hd_X7_fails ⟨rfl, rfl⟩ ⟨Nat.le_of_ble_eq_true rfl, Nat.le_of_ble_eq_true rfl⟩ (k_recv hK hP.1 rfl) hP rfl hl.1 rfl (Nat.le_of_ble_eq_true rfl) dX7_bestRoute_23 ⟨Nat.le_of_ble_eq_true rfl, Nat.le_of_ble_eq_true rfl⟩ hS (fun q h => h) (fun q h => h) (fun H locs hQ zH fH hS => ?_)
  have hP := hQ
  exact k_iretM hx hb hr hlk dX7_bestRoute_26 hS (show md E o z (w_th w (nI 1)) _ from hP) (rfl)
def rm_X7_bestRoute : Room := { frames := 5, cells := 0, slots := 0, locals := 118 }
set_option maxHeartbeats 4000000 in
set_option maxRecDepth 100000 in
theorem c_X7_bestRoute (l : Launch) (E : ke_E) (o : Nat) (z : Nat → Int32) (w : md_w) (u : Nat) (hI : iv z) (hu : u < cn z) : Met l yX7_bestRoute wsX7_bestRoute rm_X7_bestRoute (kp E [.ref o, .int (nI u)] (md E o z w)) (qm (some (.int (rt z u 5).1)) (bl o 6) (md E o z (w_th w (nI 0)))) 0 0 (bl o 6) := by
  refine k_hd (cc := cX7_bestRoute) (maxL := 2) (ret := (some .int)) (by decide) rfl (Nat.le_of_ble_eq_true rfl) ?_
  intro p e s m below meth c ls S hr hlk hnm hK hP hl
  have hx := S.1
  have hb := S.2.1
  have hts := S.2.2.2.2
  have hP : md E o z w s.heap := hP
  have hl : lv_has ls 2 [(0, .ref o), (1, .int (nI u))] := hl
  have hS : va_S (bl o 6) s.heap s.heap [] := va_S.rf
  have hcn := iv_c hI
  refine lv_aload_n hx hb dX7_bestRoute_0 rfl (lv_at hl 0 rfl) ?_
  refine lv_iconst (v := nI 0) hx hb dX7_bestRoute_1 (by decide) ?_
  refine md_put (w' := w_th w (nI 0)) S hK hP (fun _ h => List.mem_cons_of_mem _ (List.mem_append_right _ (h))) 6 (by decide) (List.mem_cons_of_mem _ (List.mem_append_left _ (List.mem_append_left _ (List.mem_of_getElem? (i := 0) rfl)))) rfl rfl rfl rfl rfl rfl rfl rfl rfl hS (fun _ h => h) dX7_bestRoute_2 (fun H locs hP zH fH hS => ?_)
  refine lv_aload_n hx hb dX7_bestRoute_5 rfl (lv_at hl 0 rfl) ?_
  refine lv_iload_n hx hb dX7_bestRoute_6 rfl (lv_at hl 1 rfl) ?_
  refine k_V (As := [.int (nI u)]) (rest := []) S hK (c_X7_isUnit l E o z (w_th w (nI 0)) (nI u) hI) gX7_bestRoute_X7_isUnit rfl hd_X7_isUnit ⟨rfl, rfl⟩ ⟨Nat.le_of_ble_eq_true rfl, Nat.le_of_ble_eq_true rfl⟩ (k_recv hK hP.1 rfl) hP rfl hl.1 rfl (Nat.le_of_ble_eq_true rfl) dX7_bestRoute_7 ⟨Nat.le_of_ble_eq_true rfl, Nat.le_of_ble_eq_true rfl⟩ ?_
  refine b_eq (tgt := 21) hx hb dX7_bestRoute_10 (by decide) (fun h => absurd (isU hu (by omega)) h) (fun c10 => ?_)
  refine lv_aload_n hx hb dX7_bestRoute_13 rfl (lv_at hl 0 rfl) ?_
  refine lv_iload_n hx hb dX7_bestRoute_14 rfl (lv_at hl 1 rfl) ?_
  refine k_V (As := [.int (nI u)]) (rest := []) S hK (c_X7_routeOf l E o z (w_th w (nI 0)) u hI hu) gX7_bestRoute_X7_routeOf rfl hd_X7_routeOf ⟨rfl, rfl⟩ ⟨Nat.le_of_ble_eq_true rfl, Nat.le_of_ble_eq_true rfl⟩ (k_recv hK hP.1 rfl) hP rfl hl.1 rfl (Nat.le_of_ble_eq_true rfl) dX7_bestRoute_15 ⟨Nat.le_of_ble_eq_true rfl, Nat.le_of_ble_eq_true rfl⟩ ?_
  refine lv_goto (tgt := 26) hx hb dX7_bestRoute_18 (by decide) ?_
  exact k_iretM hx hb hr hlk dX7_bestRoute_26 hS hP (rfl)
def rm_X7_claimable_f1 : Room := { frames := 2, cells := 0, slots := 0, locals := 43 }
theorem hd_X7_claimable : k_hd1 yX7_claimable RX7 1 := by decide +kernel
set_option maxHeartbeats 4000000 in
set_option maxRecDepth 100000 in
theorem c_X7_claimable_f1 (l : Launch) (E : ke_E) (o : Nat) (z : Nat → Int32) (w : md_w) (x : Int32) (hI : iv z) (h1 : ¬ inR x (cn z)) : Met l yX7_claimable wsX7_claimable rm_X7_claimable_f1 (kp E [.ref o, .int x] (md E o z w)) (qm (some (.int (nI 0))) (bl o 6) (md E o z (w_th w (nI 1)))) 0 0 (bl o 6) := by
  refine k_hd (cc := cX7_claimable) (maxL := 2) (ret := (some .int)) (by decide) rfl (Nat.le_of_ble_eq_true rfl) ?_
  intro p e s m below meth c ls S hr hlk hnm hK hP hl
  have hx := S.1
  have hb := S.2.1
  have hts := S.2.2.2.2
  have hP : md E o z w s.heap := hP
  have hl : lv_has ls 2 [(0, .ref o), (1, .int x)] := hl
  have hS : va_S (bl o 6) s.heap s.heap [] := va_S.rf
  have hcn := iv_c hI
  refine lv_aload_n hx hb dX7_claimable_0 rfl (lv_at hl 0 rfl) ?_
  refine lv_iconst (v := nI 0) hx hb dX7_claimable_1 (by decide) ?_
  refine md_put (w' := w_th w (nI 0)) S hK hP (fun _ h => List.mem_cons_of_mem _ (List.mem_append_right _ (h))) 6 (by decide) (List.mem_cons_of_mem _ (List.mem_append_left _ (List.mem_append_left _ (List.mem_of_getElem? (i := 0) rfl)))) rfl rfl rfl rfl rfl rfl rfl rfl rfl hS (fun _ h => h) dX7_claimable_2 (fun H locs hP zH fH hS => ?_)
  refine lv_aload_n hx hb dX7_claimable_5 rfl (lv_at hl 0 rfl) ?_
  refine lv_iload_n hx hb dX7_claimable_6 rfl (lv_at hl 1 rfl) ?_
  refine k_V (As := [.int x]) (rest := []) S hK (c_X7_isUnit l E o z (w_th w (nI 0)) x hI) gX7_claimable_X7_isUnit rfl hd_X7_isUnit ⟨rfl, rfl⟩ ⟨Nat.le_of_ble_eq_true rfl, Nat.le_of_ble_eq_true rfl⟩ (k_recv hK hP.1 rfl) hP rfl hl.1 rfl (Nat.le_of_ble_eq_true rfl) dX7_claimable_7 ⟨Nat.le_of_ble_eq_true rfl, Nat.le_of_ble_eq_true rfl⟩ ?_
  refine b_eq (tgt := 21) hx hb dX7_claimable_10 (by decide) (fun c10 => ?_) (fun h => absurd h (fun q => h1 ((isU_iff (by omega)).mp q)))
  refine lv_aload_n hx hb dX7_claimable_21 rfl (lv_at hl 0 rfl) ?_
  refine lv_iconst (v := nI 1) hx hb dX7_claimable_22 (by decide) ?_
  refine k_VM (As := [.int (nI 1)]) (rest := []) S hK (c_X7_fails l E o z (w_th w (nI 0)) (nI 1)) gX7_claimable_X7_fails rfl hd_X7_fails ⟨rfl, rfl⟩ ⟨Nat.le_of_ble_eq_true rfl, Nat.le_of_ble_eq_true rfl⟩ (k_recv hK hP.1 rfl) hP rfl hl.1 rfl (Nat.le_of_ble_eq_true rfl) dX7_claimable_23 ⟨Nat.le_of_ble_eq_true rfl, Nat.le_of_ble_eq_true rfl⟩ hS (fun q h => h) (fun q h => h) (fun H locs hQ zH fH hS => ?_)
  have hP := hQ
  exact k_iretM hx hb hr hlk dX7_claimable_26 hS (show md E o z (w_th w (nI 1)) _ from hP) (rfl)
def rm_X7_claimable : Room := { frames := 5, cells := 0, slots := 0, locals := 112 }
set_option maxHeartbeats 4000000 in
set_option maxRecDepth 100000 in
theorem c_X7_claimable (l : Launch) (E : ke_E) (o : Nat) (z : Nat → Int32) (w : md_w) (u : Nat) (hI : iv z) (hu : u < cn z) : Met l yX7_claimable wsX7_claimable rm_X7_claimable (kp E [.ref o, .int (nI u)] (md E o z w)) (qm (some (.int (amT z u))) (bl o 6) (md E o z (w_th w (nI 0)))) 0 0 (bl o 6) := by
  refine k_hd (cc := cX7_claimable) (maxL := 2) (ret := (some .int)) (by decide) rfl (Nat.le_of_ble_eq_true rfl) ?_
  intro p e s m below meth c ls S hr hlk hnm hK hP hl
  have hx := S.1
  have hb := S.2.1
  have hts := S.2.2.2.2
  have hP : md E o z w s.heap := hP
  have hl : lv_has ls 2 [(0, .ref o), (1, .int (nI u))] := hl
  have hS : va_S (bl o 6) s.heap s.heap [] := va_S.rf
  have hcn := iv_c hI
  refine lv_aload_n hx hb dX7_claimable_0 rfl (lv_at hl 0 rfl) ?_
  refine lv_iconst (v := nI 0) hx hb dX7_claimable_1 (by decide) ?_
  refine md_put (w' := w_th w (nI 0)) S hK hP (fun _ h => List.mem_cons_of_mem _ (List.mem_append_right _ (h))) 6 (by decide) (List.mem_cons_of_mem _ (List.mem_append_left _ (List.mem_append_left _ (List.mem_of_getElem? (i := 0) rfl)))) rfl rfl rfl rfl rfl rfl rfl rfl rfl hS (fun _ h => h) dX7_claimable_2 (fun H locs hP zH fH hS => ?_)
  refine lv_aload_n hx hb dX7_claimable_5 rfl (lv_at hl 0 rfl) ?_
  refine lv_iload_n hx hb dX7_claimable_6 rfl (lv_at hl 1 rfl) ?_
  refine k_V (As := [.int (nI u)]) (rest := []) S hK (c_X7_isUnit l E o z (w_th w (nI 0)) (nI u) hI) gX7_claimable_X7_isUnit rfl hd_X7_isUnit ⟨rfl, rfl⟩ ⟨Nat.le_of_ble_eq_true rfl, Nat.le_of_ble_eq_true rfl⟩ (k_recv hK hP.1 rfl) hP rfl hl.1 rfl (Nat.le_of_ble_eq_true rfl) dX7_claimable_7 ⟨Nat.le_of_ble_eq_true rfl, Nat.le_of_ble_eq_true rfl⟩ ?_
  refine b_eq (tgt := 21) hx hb dX7_claimable_10 (by decide) (fun h => absurd (isU hu (by omega)) h) (fun c10 => ?_)
  refine lv_aload_n hx hb dX7_claimable_13 rfl (lv_at hl 0 rfl) ?_
  refine lv_iload_n hx hb dX7_claimable_14 rfl (lv_at hl 1 rfl) ?_
  refine k_V (As := [.int (nI u)]) (rest := []) S hK (c_X7_claimableOf l E o z (w_th w (nI 0)) u hI hu) gX7_claimable_X7_claimableOf rfl hd_X7_claimableOf ⟨rfl, rfl⟩ ⟨Nat.le_of_ble_eq_true rfl, Nat.le_of_ble_eq_true rfl⟩ (k_recv hK hP.1 rfl) hP rfl hl.1 rfl (Nat.le_of_ble_eq_true rfl) dX7_claimable_15 ⟨Nat.le_of_ble_eq_true rfl, Nat.le_of_ble_eq_true rfl⟩ ?_
  refine lv_goto (tgt := 26) hx hb dX7_claimable_18 (by decide) ?_
  exact k_iretM hx hb hr hlk dX7_claimable_26 hS hP (rfl)
def rm_X7_ifClosed : Room := { frames := 5, cells := 0, slots := 0, locals := 109 }
theorem hd_X7_ifClosed : k_hd1 yX7_ifClosed RX7 0 := by decide +kernel
set_option maxHeartbeats 4000000 in
set_option maxRecDepth 100000 in
theorem c_X7_ifClosed (l : Launch) (E : ke_E) (o : Nat) (z : Nat → Int32) (w : md_w) (hI : iv z) : Met l yX7_ifClosed wsX7_ifClosed rm_X7_ifClosed (kp E [.ref o] (md E o z w)) (qm (some (.int (cloZ z).2)) (bl o 6) (md E o z (w_aside (w_th w (nI 0)) (asI (q_aside w) z 322)))) 0 0 (bl o 6) := by
  refine k_hd (cc := cX7_ifClosed) (maxL := 1) (ret := (some .int)) (by decide) rfl (Nat.le_of_ble_eq_true rfl) ?_
  intro p e s m below meth c ls S hr hlk hnm hK hP hl
  have hx := S.1
  have hb := S.2.1
  have hts := S.2.2.2.2
  have hP : md E o z w s.heap := hP
  have hl : lv_has ls 1 [(0, .ref o)] := hl
  have hS : va_S (bl o 6) s.heap s.heap [] := va_S.rf
  have hcn := iv_c hI
  refine lv_aload_n hx hb dX7_ifClosed_0 rfl (lv_at hl 0 rfl) ?_
  refine lv_iconst (v := nI 0) hx hb dX7_ifClosed_1 (by decide) ?_
  refine md_put (w' := w_th w (nI 0)) S hK hP (fun _ h => List.mem_cons_of_mem _ (List.mem_append_right _ (h))) 6 (by decide) (List.mem_cons_of_mem _ (List.mem_append_left _ (List.mem_append_left _ (List.mem_of_getElem? (i := 0) rfl)))) rfl rfl rfl rfl rfl rfl rfl rfl rfl hS (fun _ h => h) dX7_ifClosed_2 (fun H locs hP zH fH hS => ?_)
  refine lv_aload_n hx hb dX7_ifClosed_5 rfl (lv_at hl 0 rfl) ?_
  refine k_VM (As := []) (rest := []) S hK (c_X7_closedOf l E o z (w_th w (nI 0)) hI) gX7_ifClosed_X7_closedOf rfl hd_X7_closedOf ⟨rfl, rfl⟩ ⟨Nat.le_of_ble_eq_true rfl, Nat.le_of_ble_eq_true rfl⟩ (k_recv hK hP.1 rfl) hP rfl hl.1 rfl (Nat.le_of_ble_eq_true rfl) dX7_ifClosed_6 ⟨Nat.le_of_ble_eq_true rfl, Nat.le_of_ble_eq_true rfl⟩ hS (fun q h => h) (fun q h => h) (fun H locs hQ zH fH hS => ?_)
  have hP := hQ
  exact k_iretM hx hb hr hlk dX7_ifClosed_9 hS (show md E o z (w_aside (w_th w (nI 0)) (asI (q_aside w) z 322)) _ from hP) (rfl)
def rm_X7_workDays : Room := { frames := 3, cells := 0, slots := 0, locals := 63 }
theorem hd_X7_workDays : k_hd1 yX7_workDays RX7 0 := by decide +kernel
set_option maxHeartbeats 4000000 in
set_option maxRecDepth 100000 in
theorem c_X7_workDays (l : Launch) (E : ke_E) (o : Nat) (z : Nat → Int32) (w : md_w) (hI : iv z) : Met l yX7_workDays wsX7_workDays rm_X7_workDays (kp E [.ref o] (md E o z w)) (qm (some (.int (wdV z))) (bl o 6) (md E o z (w_th w (nI 0)))) 0 0 (bl o 6) := by
  refine k_hd (cc := cX7_workDays) (maxL := 1) (ret := (some .int)) (by decide) rfl (Nat.le_of_ble_eq_true rfl) ?_
  intro p e s m below meth c ls S hr hlk hnm hK hP hl
  have hx := S.1
  have hb := S.2.1
  have hts := S.2.2.2.2
  have hP : md E o z w s.heap := hP
  have hl : lv_has ls 1 [(0, .ref o)] := hl
  have hS : va_S (bl o 6) s.heap s.heap [] := va_S.rf
  have hcn := iv_c hI
  refine lv_aload_n hx hb dX7_workDays_0 rfl (lv_at hl 0 rfl) ?_
  refine lv_iconst (v := nI 0) hx hb dX7_workDays_1 (by decide) ?_
  refine md_put (w' := w_th w (nI 0)) S hK hP (fun _ h => List.mem_cons_of_mem _ (List.mem_append_right _ (h))) 6 (by decide) (List.mem_cons_of_mem _ (List.mem_append_left _ (List.mem_of_getElem? (i := 0) rfl))) rfl rfl rfl rfl rfl rfl rfl rfl rfl hS (fun _ h => h) dX7_workDays_2 (fun H locs hP zH fH hS => ?_)
  refine lv_aload_n hx hb dX7_workDays_5 rfl (lv_at hl 0 rfl) ?_
  refine k_V (As := []) (rest := []) S hK (c_X7_workOf l E o z (w_th w (nI 0)) hI) gX7_workDays_X7_workOf rfl hd_X7_workOf ⟨rfl, rfl⟩ ⟨Nat.le_of_ble_eq_true rfl, Nat.le_of_ble_eq_true rfl⟩ (k_recv hK hP.1 rfl) hP rfl hl.1 rfl (Nat.le_of_ble_eq_true rfl) dX7_workDays_6 ⟨Nat.le_of_ble_eq_true rfl, Nat.le_of_ble_eq_true rfl⟩ ?_
  exact k_iretM hx hb hr hlk dX7_workDays_9 hS hP (rfl)
