def rm_X7_next : Room := { frames := 0, cells := 0, slots := 0, locals := 0 }
theorem hd_X7_next : k_hd1 yX7_next RX7 0 := by decide +kernel
set_option maxHeartbeats 4000000 in
set_option maxRecDepth 100000 in
theorem c_X7_next (l : Launch) (E : ke_E) (o : Nat) (z : Nat → Int32) (w : md_w) (b : Nat → Int32) (bn : Nat) (pn : Nat) (hbf : q_buf w = b) (hbm : q_bm w = nI bn) (hbn : bn ≤ 60) (hpl : q_pl w = nI pn) (hpn : pn ≤ bn) : Met l yX7_next wsX7_next rm_X7_next (kp E [.ref o] (md E o z w)) (qp (some (.int (chr b bn pn)))) 0 0 nof := by
  refine k_hd (cc := cX7_next) (maxL := 1) (ret := (some .int)) (by decide) rfl (Nat.le_of_ble_eq_true rfl) ?_
  intro p e s m below meth c ls S hr hlk hnm hK hP hl
  have hx := S.1
  have hb := S.2.1
  have hts := S.2.2.2.2
  have hP : md E o z w s.heap := hP
  have hl : lv_has ls 1 [(0, .ref o)] := hl
  refine lv_aload_n hx hb dX7_next_0 rfl (lv_at hl 0 rfl) ?_
  refine k_get S hK hP.1 rfl (fun _ h => List.mem_cons_of_mem _ (List.mem_append_right _ (h))) 7 (by decide) (List.mem_cons_of_mem _ (List.mem_append_left _ (List.mem_of_getElem? (i := 0) rfl))) rfl (v := .int (nI pn)) (congrArg (fun x => some (Value.int x)) (hpl)) dX7_next_1 ?_
  refine lv_aload_n hx hb dX7_next_4 rfl (lv_at hl 0 rfl) ?_
  refine k_get S hK hP.1 rfl (fun _ h => List.mem_cons_of_mem _ (List.mem_append_right _ (h))) 5 (by decide) (List.mem_cons_of_mem _ (List.mem_append_left _ (List.mem_of_getElem? (i := 1) rfl))) rfl (v := .int (nI bn)) (congrArg (fun x => some (Value.int x)) (hbm)) dX7_next_5 ?_
  refine n_ige (tgt := 23) hx hb dX7_next_8 (by decide) (by omega) (by omega) (fun c8 => ?_) (fun c8 => ?_)
  · refine lv_iconst (v := nI 0) hx hb dX7_next_23 (by decide) ?_
    exact k_iret hx hb hr hlk dX7_next_24 (iF_f (by omega))
  · refine lv_aload_n hx hb dX7_next_11 rfl (lv_at hl 0 rfl) ?_
    refine k_get S hK hP.1 rfl (fun _ h => List.mem_cons_of_mem _ (List.mem_append_right _ (h))) 4 (by decide) (List.mem_cons_of_mem _ (List.mem_append_left _ (List.mem_of_getElem? (i := 2) rfl))) rfl (v := .ref (o + 4)) rfl dX7_next_12 ?_
    refine lv_aload_n hx hb dX7_next_15 rfl (lv_at hl 0 rfl) ?_
    refine k_get S hK hP.1 rfl (fun _ h => List.mem_cons_of_mem _ (List.mem_append_right _ (h))) 7 (by decide) (List.mem_cons_of_mem _ (List.mem_append_left _ (List.mem_of_getElem? (i := 0) rfl))) rfl (v := .int (nI pn)) (congrArg (fun x => some (Value.int x)) (hpl)) dX7_next_16 ?_
    refine k_iald hx hb hK hP.2.2.2.2.1 (by omega) (by decide) (v := b pn) (congrFun hbf _) dX7_next_19 ?_
    refine lv_goto (tgt := 24) hx hb dX7_next_20 (by decide) ?_
    exact k_iret hx hb hr hlk dX7_next_24 (iF_t c8)
def rm_X7_takes : Room := { frames := 1, cells := 0, slots := 0, locals := 20 }
theorem hd_X7_takes : k_hd1 yX7_takes RX7 1 := by decide +kernel
set_option maxHeartbeats 4000000 in
set_option maxRecDepth 100000 in
theorem c_X7_takes_t (l : Launch) (E : ke_E) (o : Nat) (z : Nat → Int32) (w : md_w) (b : Nat → Int32) (bn : Nat) (pn : Nat) (x : Int32) (hbf : q_buf w = b) (hbm : q_bm w = nI bn) (hbn : bn ≤ 60) (hpl : q_pl w = nI pn) (hpn : pn ≤ bn) (h1 : chr b bn pn = x) : Met l yX7_takes wsX7_takes rm_X7_takes (kp E [.ref o, .int x] (md E o z w)) (qm (some (.int (nI 1))) (bl o 6) (md E o z (w_pl w (nI (pn + 1))))) 0 0 (bl o 6) := by
  refine k_hd (cc := cX7_takes) (maxL := 3) (ret := (some .boolean)) (by decide) rfl (Nat.le_of_ble_eq_true rfl) ?_
  intro p e s m below meth c ls S hr hlk hnm hK hP hl
  have hx := S.1
  have hb := S.2.1
  have hts := S.2.2.2.2
  have hP : md E o z w s.heap := hP
  have hl : lv_has ls 3 [(0, .ref o), (1, .int x)] := hl
  have hS : va_S (bl o 6) s.heap s.heap [] := va_S.rf
  refine lv_aload_n hx hb dX7_takes_0 rfl (lv_at hl 0 rfl) ?_
  refine k_V (As := []) (rest := []) S hK (c_X7_next l E o z w b bn pn hbf hbm hbn hpl hpn) gX7_takes_X7_next rfl hd_X7_next ⟨rfl, rfl⟩ ⟨Nat.le_of_ble_eq_true rfl, Nat.le_of_ble_eq_true rfl⟩ (k_recv hK hP.1 rfl) hP rfl hl.1 rfl (Nat.le_of_ble_eq_true rfl) dX7_takes_1 ⟨Nat.le_of_ble_eq_true rfl, Nat.le_of_ble_eq_true rfl⟩ ?_
  refine lv_iload_n hx hb dX7_takes_4 rfl (lv_at hl 1 rfl) ?_
  refine lv_icmp_ne (tgt := 12) hx hb dX7_takes_5 (by decide) (fun h => absurd h1 h) (fun c5 => ?_)
  refine lv_iconst (v := nI 1) hx hb dX7_takes_8 (by decide) ?_
  refine lv_goto (tgt := 13) hx hb dX7_takes_9 (by decide) ?_
  refine lv_istore_n (lv' := [(2, .int (nI 1)), (0, .ref o), (1, .int x)]) hx hb dX7_takes_13 rfl hl (by decide) rfl (fun ls hl => ?_)
  refine lv_aload_n hx hb dX7_takes_14 rfl (lv_at hl 1 rfl) ?_
  refine lv_dup hx hb dX7_takes_15 rfl ?_
  refine k_get S hK hP.1 rfl (fun _ h => List.mem_cons_of_mem _ (List.mem_append_right _ (h))) 7 (by decide) (List.mem_cons_of_mem _ (List.mem_append_left _ (List.mem_of_getElem? (i := 0) rfl))) rfl (v := .int (nI pn)) (congrArg (fun x => some (Value.int x)) (hpl)) dX7_takes_16 ?_
  refine lv_iload_n hx hb dX7_takes_19 rfl (lv_at hl 0 rfl) ?_
  refine lv_if_eq (tgt := 27) hx hb dX7_takes_20 (by decide) (fun h => absurd h (by decide)) (fun c20 => ?_)
  refine lv_iconst (v := nI 1) hx hb dX7_takes_23 (by decide) ?_
  refine lv_goto (tgt := 28) hx hb dX7_takes_24 (by decide) ?_
  refine n_iadd (n := pn + 1) hx hb dX7_takes_28 (by omega) ?_
  refine md_put (w' := w_pl w (nI (pn + 1))) S hK hP (fun _ h => List.mem_cons_of_mem _ (List.mem_append_right _ (h))) 7 (by decide) (List.mem_cons_of_mem _ (List.mem_append_left _ (List.mem_of_getElem? (i := 0) rfl))) rfl rfl rfl rfl rfl rfl rfl rfl rfl hS (fun _ h => h) dX7_takes_29 (fun H locs hP zH fH hS => ?_)
  refine lv_iload_n hx hb dX7_takes_32 rfl (lv_at hl 0 rfl) ?_
  exact k_bretM hx hb hr hlk dX7_takes_33 rfl hS hP (rfl)
set_option maxHeartbeats 4000000 in
set_option maxRecDepth 100000 in
theorem c_X7_takes_f (l : Launch) (E : ke_E) (o : Nat) (z : Nat → Int32) (w : md_w) (b : Nat → Int32) (bn : Nat) (pn : Nat) (x : Int32) (hbf : q_buf w = b) (hbm : q_bm w = nI bn) (hbn : bn ≤ 60) (hpl : q_pl w = nI pn) (hpn : pn ≤ bn) (h1 : ¬ chr b bn pn = x) : Met l yX7_takes wsX7_takes rm_X7_takes (kp E [.ref o, .int x] (md E o z w)) (qm (some (.int (nI 0))) (bl o 6) (md E o z (w_pl w (nI pn)))) 0 0 (bl o 6) := by
  refine k_hd (cc := cX7_takes) (maxL := 3) (ret := (some .boolean)) (by decide) rfl (Nat.le_of_ble_eq_true rfl) ?_
  intro p e s m below meth c ls S hr hlk hnm hK hP hl
  have hx := S.1
  have hb := S.2.1
  have hts := S.2.2.2.2
  have hP : md E o z w s.heap := hP
  have hl : lv_has ls 3 [(0, .ref o), (1, .int x)] := hl
  have hS : va_S (bl o 6) s.heap s.heap [] := va_S.rf
  refine lv_aload_n hx hb dX7_takes_0 rfl (lv_at hl 0 rfl) ?_
  refine k_V (As := []) (rest := []) S hK (c_X7_next l E o z w b bn pn hbf hbm hbn hpl hpn) gX7_takes_X7_next rfl hd_X7_next ⟨rfl, rfl⟩ ⟨Nat.le_of_ble_eq_true rfl, Nat.le_of_ble_eq_true rfl⟩ (k_recv hK hP.1 rfl) hP rfl hl.1 rfl (Nat.le_of_ble_eq_true rfl) dX7_takes_1 ⟨Nat.le_of_ble_eq_true rfl, Nat.le_of_ble_eq_true rfl⟩ ?_
  refine lv_iload_n hx hb dX7_takes_4 rfl (lv_at hl 1 rfl) ?_
  refine lv_icmp_ne (tgt := 12) hx hb dX7_takes_5 (by decide) (fun c5 => ?_) (fun h => absurd h h1)
  refine lv_iconst (v := nI 0) hx hb dX7_takes_12 (by decide) ?_
  refine lv_istore_n (lv' := [(2, .int (nI 0)), (0, .ref o), (1, .int x)]) hx hb dX7_takes_13 rfl hl (by decide) rfl (fun ls hl => ?_)
  refine lv_aload_n hx hb dX7_takes_14 rfl (lv_at hl 1 rfl) ?_
  refine lv_dup hx hb dX7_takes_15 rfl ?_
  refine k_get S hK hP.1 rfl (fun _ h => List.mem_cons_of_mem _ (List.mem_append_right _ (h))) 7 (by decide) (List.mem_cons_of_mem _ (List.mem_append_left _ (List.mem_of_getElem? (i := 0) rfl))) rfl (v := .int (nI pn)) (congrArg (fun x => some (Value.int x)) (hpl)) dX7_takes_16 ?_
  refine lv_iload_n hx hb dX7_takes_19 rfl (lv_at hl 0 rfl) ?_
  refine lv_if_eq (tgt := 27) hx hb dX7_takes_20 (by decide) (fun c20 => ?_) (fun h => absurd h (by decide))
  refine lv_iconst (v := nI 0) hx hb dX7_takes_27 (by decide) ?_
  refine n_iadd (n := pn) hx hb dX7_takes_28 (by omega) ?_
  refine md_put (w' := w_pl w (nI pn)) S hK hP (fun _ h => List.mem_cons_of_mem _ (List.mem_append_right _ (h))) 7 (by decide) (List.mem_cons_of_mem _ (List.mem_append_left _ (List.mem_of_getElem? (i := 0) rfl))) rfl rfl rfl rfl rfl rfl rfl rfl rfl hS (fun _ h => h) dX7_takes_29 (fun H locs hP zH fH hS => ?_)
  refine lv_iload_n hx hb dX7_takes_32 rfl (lv_at hl 0 rfl) ?_
  exact k_bretM hx hb hr hlk dX7_takes_33 rfl hS hP (rfl)
def rm_X7_digit : Room := { frames := 1, cells := 0, slots := 0, locals := 22 }
theorem hd_X7_digit : k_hd1 yX7_digit RX7 2 := by decide +kernel
set_option maxHeartbeats 4000000 in
set_option maxRecDepth 100000 in
theorem c_X7_digit_t (l : Launch) (E : ke_E) (o : Nat) (z : Nat → Int32) (w : md_w) (b : Nat → Int32) (bn : Nat) (pn : Nat) (sl : Nat) (x : Int32) (hbf : q_buf w = b) (hbm : q_bm w = nI bn) (hbn : bn ≤ 60) (hpl : q_pl w = nI pn) (hpn : pn ≤ bn) (hsl : sl < 96) (h1 : dgt (chr b bn pn) x) : Met l yX7_digit wsX7_digit rm_X7_digit (kp E [.ref o, .int (nI sl), .int x] (md E o z w)) (qm (some (.int (nI 1))) (bl o 6) (md E o z (w_pl (w_rd w (upd (q_rd w) sl ((chr b bn pn) - (nI 48)))) (nI (pn + 1))))) 0 0 (bl o 6) := by
  refine k_hd (cc := cX7_digit) (maxL := 5) (ret := (some .boolean)) (by decide) rfl (Nat.le_of_ble_eq_true rfl) ?_
  intro p e s m below meth c ls S hr hlk hnm hK hP hl
  have hx := S.1
  have hb := S.2.1
  have hts := S.2.2.2.2
  have hP : md E o z w s.heap := hP
  have hl : lv_has ls 5 [(0, .ref o), (1, .int (nI sl)), (2, .int x)] := hl
  have hS : va_S (bl o 6) s.heap s.heap [] := va_S.rf
  refine lv_aload_n hx hb dX7_digit_0 rfl (lv_at hl 0 rfl) ?_
  refine k_V (As := []) (rest := []) S hK (c_X7_next l E o z w b bn pn hbf hbm hbn hpl hpn) gX7_digit_X7_next rfl hd_X7_next ⟨rfl, rfl⟩ ⟨Nat.le_of_ble_eq_true rfl, Nat.le_of_ble_eq_true rfl⟩ (k_recv hK hP.1 rfl) hP rfl hl.1 rfl (Nat.le_of_ble_eq_true rfl) dX7_digit_1 ⟨Nat.le_of_ble_eq_true rfl, Nat.le_of_ble_eq_true rfl⟩ ?_
  refine lv_bipush (v := nI 48) hx hb dX7_digit_4 (by decide) ?_
  refine lv_isub hx hb dX7_digit_6 ?_
  refine lv_istore_n (lv' := [(3, .int ((chr b bn pn) - (nI 48))), (0, .ref o), (1, .int (nI sl)), (2, .int x)]) hx hb dX7_digit_7 rfl hl (by decide) rfl (fun ls hl => ?_)
  refine lv_iload_n hx hb dX7_digit_8 rfl (lv_at hl 0 rfl) ?_
  refine lv_iconst (v := nI 0) hx hb dX7_digit_9 (by decide) ?_
  refine lv_iload_n hx hb dX7_digit_10 rfl (lv_at hl 3 rfl) ?_
  refine k_S (As := [.int ((chr b bn pn) - (nI 48)), .int (nI 0), .int x]) (rest := []) S hK (c_X7_in l E ((chr b bn pn) - (nI 48)) (nI 0) x) gX7_digit_X7_in rfl hd_X7_in ⟨rfl, rfl⟩ ⟨Nat.le_of_ble_eq_true rfl, Nat.le_of_ble_eq_true rfl⟩ trivial rfl hl.1 rfl (Nat.le_of_ble_eq_true rfl) dX7_digit_11 ⟨Nat.le_of_ble_eq_true rfl, Nat.le_of_ble_eq_true rfl⟩ ?_
  refine lv_istore (lv' := [(4, .int (bI ((nI 0) ≤ ((chr b bn pn) - (nI 48)) ∧ ((chr b bn pn) - (nI 48)) ≤ x))), (3, .int ((chr b bn pn) - (nI 48))), (0, .ref o), (1, .int (nI sl)), (2, .int x)]) hx hb dX7_digit_14 hl (by decide) rfl (fun ls hl => ?_)
  refine lv_aload_n hx hb dX7_digit_16 rfl (lv_at hl 2 rfl) ?_
  refine k_get S hK hP.1 rfl (fun _ h => List.mem_cons_of_mem _ (List.mem_append_right _ (h))) 9 (by decide) (List.mem_cons_of_mem _ (List.mem_append_left _ (List.mem_of_getElem? (i := 0) rfl))) rfl (v := .ref (o + 5)) rfl dX7_digit_17 ?_
  refine lv_iload_n hx hb dX7_digit_20 rfl (lv_at hl 3 rfl) ?_
  refine lv_iload_n hx hb dX7_digit_21 rfl (lv_at hl 1 rfl) ?_
  refine md_ast_rd hx hb hK hP (by omega) hS (fun _ h => h) dX7_digit_22 (fun H locs hP zH fH hS => ?_)
  refine lv_aload_n hx hb dX7_digit_23 rfl (lv_at hl 2 rfl) ?_
  refine lv_dup hx hb dX7_digit_24 rfl ?_
  refine k_get S hK hP.1 rfl (fun _ h => List.mem_cons_of_mem _ (List.mem_append_right _ (h))) 7 (by decide) (List.mem_cons_of_mem _ (List.mem_append_left _ (List.mem_of_getElem? (i := 1) rfl))) rfl (v := .int (nI pn)) (congrArg (fun x => some (Value.int x)) (hpl)) dX7_digit_25 ?_
  refine lv_iload hx hb dX7_digit_28 (lv_at hl 0 rfl) ?_
  refine b_eq (tgt := 37) hx hb dX7_digit_30 (by decide) (fun h => absurd h1 h) (fun c30 => ?_)
  refine lv_iconst (v := nI 1) hx hb dX7_digit_33 (by decide) ?_
  refine lv_goto (tgt := 38) hx hb dX7_digit_34 (by decide) ?_
  refine n_iadd (n := pn + 1) hx hb dX7_digit_38 (by omega) ?_
  refine md_put (w' := w_pl (w_rd w (upd (q_rd w) sl ((chr b bn pn) - (nI 48)))) (nI (pn + 1))) S hK hP (fun _ h => List.mem_cons_of_mem _ (List.mem_append_right _ (h))) 7 (by decide) (List.mem_cons_of_mem _ (List.mem_append_left _ (List.mem_of_getElem? (i := 1) rfl))) rfl rfl rfl rfl rfl rfl rfl rfl rfl hS (fun _ h => h) dX7_digit_39 (fun H locs hP zH fH hS => ?_)
  refine lv_iload hx hb dX7_digit_42 (lv_at hl 0 rfl) ?_
  exact k_bretM hx hb hr hlk dX7_digit_44 (bI_nar _) hS hP ((bI_t h1).symm)
set_option maxHeartbeats 4000000 in
set_option maxRecDepth 100000 in
theorem c_X7_digit_f (l : Launch) (E : ke_E) (o : Nat) (z : Nat → Int32) (w : md_w) (b : Nat → Int32) (bn : Nat) (pn : Nat) (sl : Nat) (x : Int32) (hbf : q_buf w = b) (hbm : q_bm w = nI bn) (hbn : bn ≤ 60) (hpl : q_pl w = nI pn) (hpn : pn ≤ bn) (hsl : sl < 96) (h1 : ¬ dgt (chr b bn pn) x) : Met l yX7_digit wsX7_digit rm_X7_digit (kp E [.ref o, .int (nI sl), .int x] (md E o z w)) (qm (some (.int (nI 0))) (bl o 6) (md E o z (w_pl (w_rd w (upd (q_rd w) sl ((chr b bn pn) - (nI 48)))) (nI (pn))))) 0 0 (bl o 6) := by
  refine k_hd (cc := cX7_digit) (maxL := 5) (ret := (some .boolean)) (by decide) rfl (Nat.le_of_ble_eq_true rfl) ?_
  intro p e s m below meth c ls S hr hlk hnm hK hP hl
  have hx := S.1
  have hb := S.2.1
  have hts := S.2.2.2.2
  have hP : md E o z w s.heap := hP
  have hl : lv_has ls 5 [(0, .ref o), (1, .int (nI sl)), (2, .int x)] := hl
  have hS : va_S (bl o 6) s.heap s.heap [] := va_S.rf
  refine lv_aload_n hx hb dX7_digit_0 rfl (lv_at hl 0 rfl) ?_
  refine k_V (As := []) (rest := []) S hK (c_X7_next l E o z w b bn pn hbf hbm hbn hpl hpn) gX7_digit_X7_next rfl hd_X7_next ⟨rfl, rfl⟩ ⟨Nat.le_of_ble_eq_true rfl, Nat.le_of_ble_eq_true rfl⟩ (k_recv hK hP.1 rfl) hP rfl hl.1 rfl (Nat.le_of_ble_eq_true rfl) dX7_digit_1 ⟨Nat.le_of_ble_eq_true rfl, Nat.le_of_ble_eq_true rfl⟩ ?_
  refine lv_bipush (v := nI 48) hx hb dX7_digit_4 (by decide) ?_
  refine lv_isub hx hb dX7_digit_6 ?_
  refine lv_istore_n (lv' := [(3, .int ((chr b bn pn) - (nI 48))), (0, .ref o), (1, .int (nI sl)), (2, .int x)]) hx hb dX7_digit_7 rfl hl (by decide) rfl (fun ls hl => ?_)
  refine lv_iload_n hx hb dX7_digit_8 rfl (lv_at hl 0 rfl) ?_
  refine lv_iconst (v := nI 0) hx hb dX7_digit_9 (by decide) ?_
  refine lv_iload_n hx hb dX7_digit_10 rfl (lv_at hl 3 rfl) ?_
  refine k_S (As := [.int ((chr b bn pn) - (nI 48)), .int (nI 0), .int x]) (rest := []) S hK (c_X7_in l E ((chr b bn pn) - (nI 48)) (nI 0) x) gX7_digit_X7_in rfl hd_X7_in ⟨rfl, rfl⟩ ⟨Nat.le_of_ble_eq_true rfl, Nat.le_of_ble_eq_true rfl⟩ trivial rfl hl.1 rfl (Nat.le_of_ble_eq_true rfl) dX7_digit_11 ⟨Nat.le_of_ble_eq_true rfl, Nat.le_of_ble_eq_true rfl⟩ ?_
  refine lv_istore (lv' := [(4, .int (bI ((nI 0) ≤ ((chr b bn pn) - (nI 48)) ∧ ((chr b bn pn) - (nI 48)) ≤ x))), (3, .int ((chr b bn pn) - (nI 48))), (0, .ref o), (1, .int (nI sl)), (2, .int x)]) hx hb dX7_digit_14 hl (by decide) rfl (fun ls hl => ?_)
  refine lv_aload_n hx hb dX7_digit_16 rfl (lv_at hl 2 rfl) ?_
  refine k_get S hK hP.1 rfl (fun _ h => List.mem_cons_of_mem _ (List.mem_append_right _ (h))) 9 (by decide) (List.mem_cons_of_mem _ (List.mem_append_left _ (List.mem_of_getElem? (i := 0) rfl))) rfl (v := .ref (o + 5)) rfl dX7_digit_17 ?_
  refine lv_iload_n hx hb dX7_digit_20 rfl (lv_at hl 3 rfl) ?_
  refine lv_iload_n hx hb dX7_digit_21 rfl (lv_at hl 1 rfl) ?_
  refine md_ast_rd hx hb hK hP (by omega) hS (fun _ h => h) dX7_digit_22 (fun H locs hP zH fH hS => ?_)
  refine lv_aload_n hx hb dX7_digit_23 rfl (lv_at hl 2 rfl) ?_
  refine lv_dup hx hb dX7_digit_24 rfl ?_
  refine k_get S hK hP.1 rfl (fun _ h => List.mem_cons_of_mem _ (List.mem_append_right _ (h))) 7 (by decide) (List.mem_cons_of_mem _ (List.mem_append_left _ (List.mem_of_getElem? (i := 1) rfl))) rfl (v := .int (nI pn)) (congrArg (fun x => some (Value.int x)) (hpl)) dX7_digit_25 ?_
  refine lv_iload hx hb dX7_digit_28 (lv_at hl 0 rfl) ?_
  refine b_eq (tgt := 37) hx hb dX7_digit_30 (by decide) (fun c30 => ?_) (fun h => absurd h h1)
  refine lv_iconst (v := nI 0) hx hb dX7_digit_37 (by decide) ?_
  refine n_iadd (n := pn) hx hb dX7_digit_38 (by omega) ?_
  refine md_put (w' := w_pl (w_rd w (upd (q_rd w) sl ((chr b bn pn) - (nI 48)))) (nI pn)) S hK hP (fun _ h => List.mem_cons_of_mem _ (List.mem_append_right _ (h))) 7 (by decide) (List.mem_cons_of_mem _ (List.mem_append_left _ (List.mem_of_getElem? (i := 1) rfl))) rfl rfl rfl rfl rfl rfl rfl rfl rfl hS (fun _ h => h) dX7_digit_39 (fun H locs hP zH fH hS => ?_)
  refine lv_iload hx hb dX7_digit_42 (lv_at hl 0 rfl) ?_
  exact k_bretM hx hb hr hlk dX7_digit_44 (bI_nar _) hS (show md E o z (w_pl (w_rd w (upd (q_rd w) sl ((chr b bn pn) - (nI 48)))) (nI (pn))) _ from hP) ((bI_f h1).symm)
def rm_X7_isReturn : Room := { frames := 2, cells := 0, slots := 0, locals := 46 }
theorem hd_X7_isReturn : k_hd1 yX7_isReturn RX7 0 := by decide +kernel
set_option maxHeartbeats 4000000 in
set_option maxRecDepth 100000 in
theorem c_X7_isReturn (l : Launch) (E : ke_E) (o : Nat) (z : Nat → Int32) (w : md_w) (b : Nat → Int32) (bn : Nat) (pn : Nat) (tn : Nat) (hbf : q_buf w = b) (hbm : q_bm w = nI bn) (hbn : bn ≤ 60) (hpl : q_pl w = nI pn) (hpn : pn ≤ bn) (htd : q_td w = nI tn) (htn : 5*tn ≤ pn) : Met l yX7_isReturn wsX7_isReturn rm_X7_isReturn (kp E [.ref o] (md E o z w)) (qm (some (.int (nI ((irT b bn pn tn (q_rd w)).2.1)))) (bl o 6) (md E o z (w_td (w_rd (w_pl w (nI (irT b bn pn tn (q_rd w)).1)) (irT b bn pn tn (q_rd w)).2.2) (nI (tn + 1))))) 0 0 (bl o 6) := by
  refine k_hd (cc := cX7_isReturn) (maxL := 5) (ret := (some .boolean)) (by decide) rfl (Nat.le_of_ble_eq_true rfl) ?_
  intro p e s m below meth c ls S hr hlk hnm hK hP hl
  have hx := S.1
  have hb := S.2.1
  have hts := S.2.2.2.2
  have hP : md E o z w s.heap := hP
  have hl : lv_has ls 5 [(0, .ref o)] := hl
  have hS : va_S (bl o 6) s.heap s.heap [] := va_S.rf
  have htn9 : tn ≤ 12 := by omega
  refine lv_bipush (v := nI 6) hx hb dX7_isReturn_0 (by decide) ?_
  refine lv_aload_n hx hb dX7_isReturn_2 rfl (lv_at hl 0 rfl) ?_
  refine k_get S hK hP.1 rfl (fun _ h => List.mem_cons_of_mem _ (List.mem_append_right _ (h))) 8 (by decide) (List.mem_cons_of_mem _ (List.mem_append_left _ (List.mem_of_getElem? (i := 0) rfl))) rfl (v := .int (nI tn)) (congrArg (fun x => some (Value.int x)) (htd)) dX7_isReturn_3 ?_
  refine n_imul (n := 6*tn) hx hb dX7_isReturn_6 (by omega) ?_
  refine lv_istore_n (lv' := [(1, .int (nI (6*tn))), (0, .ref o)]) hx hb dX7_isReturn_7 rfl hl (by decide) rfl (fun ls hl => ?_)
  refine lv_aload_n hx hb dX7_isReturn_8 rfl (lv_at hl 1 rfl) ?_
  refine lv_bipush (v := nI 112) hx hb dX7_isReturn_9 (by decide) ?_
  rcases Classical.em (chr b bn pn = nI 112) with d11_pn | d11_pn
  · have hlt11_pn : pn < bn := chr_lt d11_pn (by decide) (by decide)
    refine k_VM (As := [.int (nI 112)]) (rest := []) S hK (c_X7_takes_t l E o z w b bn pn (nI 112) hbf hbm hbn hpl hpn (by omega)) gX7_isReturn_X7_takes rfl hd_X7_takes ⟨rfl, rfl⟩ ⟨Nat.le_of_ble_eq_true rfl, Nat.le_of_ble_eq_true rfl⟩ (k_recv hK hP.1 rfl) hP rfl hl.1 rfl (Nat.le_of_ble_eq_true rfl) dX7_isReturn_11 ⟨Nat.le_of_ble_eq_true rfl, Nat.le_of_ble_eq_true rfl⟩ hS (fun q h => h) (fun q h => h) (fun H locs hQ zH fH hS => ?_)
    have hP := hQ
    refine lv_if_eq (tgt := 50) hx hb dX7_isReturn_14 (by decide) (fun h => absurd h (by decide)) (fun c14 => ?_)
    refine lv_aload_n hx hb dX7_isReturn_17 rfl (lv_at hl 1 rfl) ?_
    refine lv_iload_n hx hb dX7_isReturn_18 rfl (lv_at hl 0 rfl) ?_
    refine lv_iconst (v := nI 5) hx hb dX7_isReturn_19 (by decide) ?_
    rcases Classical.em (dgt (chr b bn (pn + 1)) (nI 5)) with d20_pn1 | d20_pn1
    · have hlt20_pn1 : pn + 1 < bn := dgt_lt d20_pn1
      refine k_VM (As := [.int (nI (6*tn)), .int (nI 5)]) (rest := []) S hK (c_X7_digit_t l E o z (w_pl w (nI (pn + 1))) b bn (pn + 1) (6*tn) (nI 5) hbf hbm hbn rfl (by omega) (by omega) d20_pn1) gX7_isReturn_X7_digit rfl hd_X7_digit ⟨rfl, rfl⟩ ⟨Nat.le_of_ble_eq_true rfl, Nat.le_of_ble_eq_true rfl⟩ (k_recv hK hP.1 rfl) hP rfl hl.1 rfl (Nat.le_of_ble_eq_true rfl) dX7_isReturn_20 ⟨Nat.le_of_ble_eq_true rfl, Nat.le_of_ble_eq_true rfl⟩ hS (fun q h => h) (fun q h => h) (fun H locs hQ zH fH hS => ?_)
      have hP := hQ
      have hP : md E o z (w_pl (w_rd w (upd (q_rd w) (6*tn) ((chr b bn (pn + 1)) - (nI 48)))) (nI ((pn + 1) + 1))) H := hP
      refine lv_if_eq (tgt := 50) hx hb dX7_isReturn_23 (by decide) (fun h => absurd h (by decide)) (fun c23 => ?_)
      refine lv_aload_n hx hb dX7_isReturn_26 rfl (lv_at hl 1 rfl) ?_
      refine lv_bipush (v := nI 114) hx hb dX7_isReturn_27 (by decide) ?_
      rcases Classical.em (chr b bn (pn + 2) = nI 114) with d29_pn2 | d29_pn2
      · have hlt29_pn2 : pn + 2 < bn := chr_lt d29_pn2 (by decide) (by decide)
        refine k_VM (As := [.int (nI 114)]) (rest := []) S hK (c_X7_takes_t l E o z (w_pl (w_rd w (upd (q_rd w) (6*tn) ((chr b bn (pn + 1)) - (nI 48)))) (nI ((pn + 1) + 1))) b bn (pn + 2) (nI 114) hbf hbm hbn rfl (by omega) (by omega)) gX7_isReturn_X7_takes rfl hd_X7_takes ⟨rfl, rfl⟩ ⟨Nat.le_of_ble_eq_true rfl, Nat.le_of_ble_eq_true rfl⟩ (k_recv hK hP.1 rfl) hP rfl hl.1 rfl (Nat.le_of_ble_eq_true rfl) dX7_isReturn_29 ⟨Nat.le_of_ble_eq_true rfl, Nat.le_of_ble_eq_true rfl⟩ hS (fun q h => h) (fun q h => h) (fun H locs hQ zH fH hS => ?_)
        have hP := hQ
        have hP : md E o z (w_pl (w_rd w (upd (q_rd w) (6*tn) ((chr b bn (pn + 1)) - (nI 48)))) (nI ((pn + 2) + 1))) H := hP
        refine lv_if_eq (tgt := 50) hx hb dX7_isReturn_32 (by decide) (fun h => absurd h (by decide)) (fun c32 => ?_)
        refine lv_aload_n hx hb dX7_isReturn_35 rfl (lv_at hl 1 rfl) ?_
        refine lv_iload_n hx hb dX7_isReturn_36 rfl (lv_at hl 0 rfl) ?_
        refine lv_iconst (v := nI 1) hx hb dX7_isReturn_37 (by decide) ?_
        refine n_iadd (n := 6*tn + 1) hx hb dX7_isReturn_38 (by omega) ?_
        refine lv_iconst (v := nI 3) hx hb dX7_isReturn_39 (by decide) ?_
        rcases Classical.em (dgt (chr b bn (pn + 3)) (nI 3)) with d40_pn3 | d40_pn3
        · have hlt40_pn3 : pn + 3 < bn := dgt_lt d40_pn3
          refine k_VM (As := [.int (nI (6*tn + 1)), .int (nI 3)]) (rest := []) S hK (c_X7_digit_t l E o z (w_pl (w_rd w (upd (q_rd w) (6*tn) ((chr b bn (pn + 1)) - (nI 48)))) (nI ((pn + 2) + 1))) b bn (pn + 3) (6*tn + 1) (nI 3) hbf hbm hbn rfl (by omega) (by omega) d40_pn3) gX7_isReturn_X7_digit rfl hd_X7_digit ⟨rfl, rfl⟩ ⟨Nat.le_of_ble_eq_true rfl, Nat.le_of_ble_eq_true rfl⟩ (k_recv hK hP.1 rfl) hP rfl hl.1 rfl (Nat.le_of_ble_eq_true rfl) dX7_isReturn_40 ⟨Nat.le_of_ble_eq_true rfl, Nat.le_of_ble_eq_true rfl⟩ hS (fun q h => h) (fun q h => h) (fun H locs hQ zH fH hS => ?_)
          have hP := hQ
          have hP : md E o z (w_pl (w_rd w (upd (upd (q_rd w) (6*tn) ((chr b bn (pn + 1)) - (nI 48))) (6*tn + 1) ((chr b bn (pn + 3)) - (nI 48)))) (nI ((pn + 3) + 1))) H := hP
          refine lv_if_eq (tgt := 50) hx hb dX7_isReturn_43 (by decide) (fun h => absurd h (by decide)) (fun c43 => ?_)
          refine lv_iconst (v := nI 1) hx hb dX7_isReturn_46 (by decide) ?_
          refine lv_goto (tgt := 51) hx hb dX7_isReturn_47 (by decide) ?_
          refine lv_istore_n (lv' := [(2, .int (nI 1)), (1, .int (nI (6*tn))), (0, .ref o)]) hx hb dX7_isReturn_51 rfl hl (by decide) rfl (fun ls hl => ?_)
          refine lv_iload_n hx hb dX7_isReturn_52 rfl (lv_at hl 0 rfl) ?_
          refine lv_if_eq (tgt := 69) hx hb dX7_isReturn_53 (by decide) (fun h => absurd h (by decide)) (fun c53 => ?_)
          refine lv_aload_n hx hb dX7_isReturn_56 rfl (lv_at hl 2 rfl) ?_
          refine lv_bipush (v := nI 58) hx hb dX7_isReturn_57 (by decide) ?_
          rcases Classical.em (chr b bn (pn + 4) = nI 58) with d59_pn4 | d59_pn4
          · have hlt59_pn4 : pn + 4 < bn := chr_lt d59_pn4 (by decide) (by decide)
            refine k_VM (As := [.int (nI 58)]) (rest := []) S hK (c_X7_takes_t l E o z (w_pl (w_rd w (upd (upd (q_rd w) (6*tn) ((chr b bn (pn + 1)) - (nI 48))) (6*tn + 1) ((chr b bn (pn + 3)) - (nI 48)))) (nI ((pn + 3) + 1))) b bn (pn + 4) (nI 58) hbf hbm hbn rfl (by omega) (by omega)) gX7_isReturn_X7_takes rfl hd_X7_takes ⟨rfl, rfl⟩ ⟨Nat.le_of_ble_eq_true rfl, Nat.le_of_ble_eq_true rfl⟩ (k_recv hK hP.1 rfl) hP rfl hl.1 rfl (Nat.le_of_ble_eq_true rfl) dX7_isReturn_59 ⟨Nat.le_of_ble_eq_true rfl, Nat.le_of_ble_eq_true rfl⟩ hS (fun q h => h) (fun q h => h) (fun H locs hQ zH fH hS => ?_)
            have hP := hQ
            have hP : md E o z (w_pl (w_rd w (upd (upd (q_rd w) (6*tn) ((chr b bn (pn + 1)) - (nI 48))) (6*tn + 1) ((chr b bn (pn + 3)) - (nI 48)))) (nI ((pn + 4) + 1))) H := hP
            refine lv_if_eq (tgt := 69) hx hb dX7_isReturn_62 (by decide) (fun h => absurd h (by decide)) (fun c62 => ?_)
            refine lv_iconst (v := nI 1) hx hb dX7_isReturn_65 (by decide) ?_
            refine lv_goto (tgt := 70) hx hb dX7_isReturn_66 (by decide) ?_
            refine lv_istore_n (lv' := [(3, .int (nI 1)), (2, .int (nI 1)), (1, .int (nI (6*tn))), (0, .ref o)]) hx hb dX7_isReturn_70 rfl hl (by decide) rfl (fun ls hl => ?_)
            refine lv_iconst (v := nI 0) hx hb dX7_isReturn_71 (by decide) ?_
            refine lv_istore (lv' := [(4, .int (nI 0)), (3, .int (nI 1)), (2, .int (nI 1)), (1, .int (nI (6*tn))), (0, .ref o)]) hx hb dX7_isReturn_72 hl (by decide) rfl (fun ls hl => ?_)
            refine lv_iload hx hb dX7_isReturn_74 (lv_at hl 0 rfl) ?_
            refine lv_iconst (v := nI 4) hx hb dX7_isReturn_76 (by decide) ?_
            refine n_ige (tgt := 130) hx hb dX7_isReturn_77 (by decide) (by omega) (by omega) (fun h => absurd h (by decide)) (fun c77 => ?_)
            refine lv_iload_n hx hb dX7_isReturn_80 rfl (lv_at hl 1 rfl) ?_
            refine lv_if_eq (tgt := 112) hx hb dX7_isReturn_81 (by decide) (fun h => absurd h (by decide)) (fun c81 => ?_)
            refine lv_iload_n hx hb dX7_isReturn_84 rfl (lv_at hl 2 rfl) ?_
            refine lv_if_eq (tgt := 107) hx hb dX7_isReturn_85 (by decide) (fun h => absurd h (by decide)) (fun c85 => ?_)
            refine lv_aload_n hx hb dX7_isReturn_88 rfl (lv_at hl 4 rfl) ?_
            refine lv_iload_n hx hb dX7_isReturn_89 rfl (lv_at hl 3 rfl) ?_
            refine lv_iconst (v := nI 2) hx hb dX7_isReturn_90 (by decide) ?_
            refine n_iadd (n := 6*tn + 2) hx hb dX7_isReturn_91 (by omega) ?_
            refine lv_iload hx hb dX7_isReturn_92 (lv_at hl 0 rfl) ?_
            refine n_iadd (n := 6*tn + 2) hx hb dX7_isReturn_94 (by omega) ?_
            refine lv_bipush (v := nI 9) hx hb dX7_isReturn_95 (by decide) ?_
            rcases Classical.em (dgt (chr b bn (pn + 5)) (nI 9)) with d97_pn5 | d97_pn5
            · have hlt97_pn5 : pn + 5 < bn := dgt_lt d97_pn5
              refine k_VM (As := [.int (nI (6*tn + 2)), .int (nI 9)]) (rest := []) S hK (c_X7_digit_t l E o z (w_pl (w_rd w (upd (upd (q_rd w) (6*tn) ((chr b bn (pn + 1)) - (nI 48))) (6*tn + 1) ((chr b bn (pn + 3)) - (nI 48)))) (nI ((pn + 4) + 1))) b bn (pn + 5) (6*tn + 2) (nI 9) hbf hbm hbn rfl (by omega) (by omega) d97_pn5) gX7_isReturn_X7_digit rfl hd_X7_digit ⟨rfl, rfl⟩ ⟨Nat.le_of_ble_eq_true rfl, Nat.le_of_ble_eq_true rfl⟩ (k_recv hK hP.1 rfl) hP rfl hl.1 rfl (Nat.le_of_ble_eq_true rfl) dX7_isReturn_97 ⟨Nat.le_of_ble_eq_true rfl, Nat.le_of_ble_eq_true rfl⟩ hS (fun q h => h) (fun q h => h) (fun H locs hQ zH fH hS => ?_)
              have hP := hQ
              have hP : md E o z (w_pl (w_rd w (upd (upd (upd (q_rd w) (6*tn) ((chr b bn (pn + 1)) - (nI 48))) (6*tn + 1) ((chr b bn (pn + 3)) - (nI 48))) (6*tn + 2) ((chr b bn (pn + 5)) - (nI 48)))) (nI ((pn + 5) + 1))) H := hP
              refine lv_if_eq (tgt := 107) hx hb dX7_isReturn_100 (by decide) (fun h => absurd h (by decide)) (fun c100 => ?_)
              refine lv_iconst (v := nI 1) hx hb dX7_isReturn_103 (by decide) ?_
              refine lv_goto (tgt := 108) hx hb dX7_isReturn_104 (by decide) ?_
              refine lv_istore_n (lv' := [(2, .int (nI 1)), (4, .int (nI 0)), (3, .int (nI 1)), (1, .int (nI (6*tn))), (0, .ref o)]) hx hb dX7_isReturn_108 rfl hl (by decide) rfl (fun ls hl => ?_)
              refine lv_goto (tgt := 124) hx hb dX7_isReturn_109 (by decide) ?_
              refine lv_iinc (v := nI 1) (lv' := [(4, .int (nI 1)), (2, .int (nI 1)), (3, .int (nI 1)), (1, .int (nI (6*tn))), (0, .ref o)]) hx hb dX7_isReturn_124 hl (k := 1) rfl (by decide) (by decide) rfl (fun ls hl => ?_)
              refine lv_goto (tgt := 74) hx hb dX7_isReturn_127 (by decide) ?_
              refine lv_iload hx hb dX7_isReturn_74 (lv_at hl 0 rfl) ?_
              refine lv_iconst (v := nI 4) hx hb dX7_isReturn_76 (by decide) ?_
              refine n_ige (tgt := 130) hx hb dX7_isReturn_77 (by decide) (by omega) (by omega) (fun h => absurd h (by decide)) (fun c77_1 => ?_)
              refine lv_iload_n hx hb dX7_isReturn_80 rfl (lv_at hl 2 rfl) ?_
              refine lv_if_eq (tgt := 112) hx hb dX7_isReturn_81 (by decide) (fun h => absurd h (by decide)) (fun c81_1 => ?_)
              refine lv_iload_n hx hb dX7_isReturn_84 rfl (lv_at hl 1 rfl) ?_
              refine lv_if_eq (tgt := 107) hx hb dX7_isReturn_85 (by decide) (fun h => absurd h (by decide)) (fun c85_1 => ?_)
              refine lv_aload_n hx hb dX7_isReturn_88 rfl (lv_at hl 4 rfl) ?_
              refine lv_iload_n hx hb dX7_isReturn_89 rfl (lv_at hl 3 rfl) ?_
              refine lv_iconst (v := nI 2) hx hb dX7_isReturn_90 (by decide) ?_
              refine n_iadd (n := 6*tn + 2) hx hb dX7_isReturn_91 (by omega) ?_
              refine lv_iload hx hb dX7_isReturn_92 (lv_at hl 0 rfl) ?_
              refine n_iadd (n := 6*tn + 3) hx hb dX7_isReturn_94 (by omega) ?_
              refine lv_bipush (v := nI 9) hx hb dX7_isReturn_95 (by decide) ?_
              rcases Classical.em (dgt (chr b bn (pn + 6)) (nI 9)) with d97_pn6 | d97_pn6
              · have hlt97_pn6 : pn + 6 < bn := dgt_lt d97_pn6
                refine k_VM (As := [.int (nI (6*tn + 3)), .int (nI 9)]) (rest := []) S hK (c_X7_digit_t l E o z (w_pl (w_rd w (upd (upd (upd (q_rd w) (6*tn) ((chr b bn (pn + 1)) - (nI 48))) (6*tn + 1) ((chr b bn (pn + 3)) - (nI 48))) (6*tn + 2) ((chr b bn (pn + 5)) - (nI 48)))) (nI ((pn + 5) + 1))) b bn (pn + 6) (6*tn + 3) (nI 9) hbf hbm hbn rfl (by omega) (by omega) d97_pn6) gX7_isReturn_X7_digit rfl hd_X7_digit ⟨rfl, rfl⟩ ⟨Nat.le_of_ble_eq_true rfl, Nat.le_of_ble_eq_true rfl⟩ (k_recv hK hP.1 rfl) hP rfl hl.1 rfl (Nat.le_of_ble_eq_true rfl) dX7_isReturn_97 ⟨Nat.le_of_ble_eq_true rfl, Nat.le_of_ble_eq_true rfl⟩ hS (fun q h => h) (fun q h => h) (fun H locs hQ zH fH hS => ?_)
                have hP := hQ
                have hP : md E o z (w_pl (w_rd w (upd (upd (upd (upd (q_rd w) (6*tn) ((chr b bn (pn + 1)) - (nI 48))) (6*tn + 1) ((chr b bn (pn + 3)) - (nI 48))) (6*tn + 2) ((chr b bn (pn + 5)) - (nI 48))) (6*tn + 3) ((chr b bn (pn + 6)) - (nI 48)))) (nI ((pn + 6) + 1))) H := hP
                refine lv_if_eq (tgt := 107) hx hb dX7_isReturn_100 (by decide) (fun h => absurd h (by decide)) (fun c100_1 => ?_)
                refine lv_iconst (v := nI 1) hx hb dX7_isReturn_103 (by decide) ?_
                refine lv_goto (tgt := 108) hx hb dX7_isReturn_104 (by decide) ?_
                refine lv_istore_n (lv' := [(2, .int (nI 1)), (4, .int (nI 1)), (3, .int (nI 1)), (1, .int (nI (6*tn))), (0, .ref o)]) hx hb dX7_isReturn_108 rfl hl (by decide) rfl (fun ls hl => ?_)
                refine lv_goto (tgt := 124) hx hb dX7_isReturn_109 (by decide) ?_
                refine lv_iinc (v := nI 2) (lv' := [(4, .int (nI 2)), (2, .int (nI 1)), (3, .int (nI 1)), (1, .int (nI (6*tn))), (0, .ref o)]) hx hb dX7_isReturn_124 hl (k := 1) rfl (by decide) (by decide) rfl (fun ls hl => ?_)
                refine lv_goto (tgt := 74) hx hb dX7_isReturn_127 (by decide) ?_
                refine lv_iload hx hb dX7_isReturn_74 (lv_at hl 0 rfl) ?_
                refine lv_iconst (v := nI 4) hx hb dX7_isReturn_76 (by decide) ?_
                refine n_ige (tgt := 130) hx hb dX7_isReturn_77 (by decide) (by omega) (by omega) (fun h => absurd h (by decide)) (fun c77_2 => ?_)
                refine lv_iload_n hx hb dX7_isReturn_80 rfl (lv_at hl 2 rfl) ?_
                refine lv_if_eq (tgt := 112) hx hb dX7_isReturn_81 (by decide) (fun h => absurd h (by decide)) (fun c81_2 => ?_)
                refine lv_iload_n hx hb dX7_isReturn_84 rfl (lv_at hl 1 rfl) ?_
                refine lv_if_eq (tgt := 107) hx hb dX7_isReturn_85 (by decide) (fun h => absurd h (by decide)) (fun c85_2 => ?_)
                refine lv_aload_n hx hb dX7_isReturn_88 rfl (lv_at hl 4 rfl) ?_
                refine lv_iload_n hx hb dX7_isReturn_89 rfl (lv_at hl 3 rfl) ?_
                refine lv_iconst (v := nI 2) hx hb dX7_isReturn_90 (by decide) ?_
                refine n_iadd (n := 6*tn + 2) hx hb dX7_isReturn_91 (by omega) ?_
                refine lv_iload hx hb dX7_isReturn_92 (lv_at hl 0 rfl) ?_
                refine n_iadd (n := 6*tn + 4) hx hb dX7_isReturn_94 (by omega) ?_
                refine lv_bipush (v := nI 9) hx hb dX7_isReturn_95 (by decide) ?_
                rcases Classical.em (dgt (chr b bn (pn + 7)) (nI 9)) with d97_pn7 | d97_pn7
                · have hlt97_pn7 : pn + 7 < bn := dgt_lt d97_pn7
                  refine k_VM (As := [.int (nI (6*tn + 4)), .int (nI 9)]) (rest := []) S hK (c_X7_digit_t l E o z (w_pl (w_rd w (upd (upd (upd (upd (q_rd w) (6*tn) ((chr b bn (pn + 1)) - (nI 48))) (6*tn + 1) ((chr b bn (pn + 3)) - (nI 48))) (6*tn + 2) ((chr b bn (pn + 5)) - (nI 48))) (6*tn + 3) ((chr b bn (pn + 6)) - (nI 48)))) (nI ((pn + 6) + 1))) b bn (pn + 7) (6*tn + 4) (nI 9) hbf hbm hbn rfl (by omega) (by omega) d97_pn7) gX7_isReturn_X7_digit rfl hd_X7_digit ⟨rfl, rfl⟩ ⟨Nat.le_of_ble_eq_true rfl, Nat.le_of_ble_eq_true rfl⟩ (k_recv hK hP.1 rfl) hP rfl hl.1 rfl (Nat.le_of_ble_eq_true rfl) dX7_isReturn_97 ⟨Nat.le_of_ble_eq_true rfl, Nat.le_of_ble_eq_true rfl⟩ hS (fun q h => h) (fun q h => h) (fun H locs hQ zH fH hS => ?_)
                  have hP := hQ
                  have hP : md E o z (w_pl (w_rd w (upd (upd (upd (upd (upd (q_rd w) (6*tn) ((chr b bn (pn + 1)) - (nI 48))) (6*tn + 1) ((chr b bn (pn + 3)) - (nI 48))) (6*tn + 2) ((chr b bn (pn + 5)) - (nI 48))) (6*tn + 3) ((chr b bn (pn + 6)) - (nI 48))) (6*tn + 4) ((chr b bn (pn + 7)) - (nI 48)))) (nI ((pn + 7) + 1))) H := hP
                  refine lv_if_eq (tgt := 107) hx hb dX7_isReturn_100 (by decide) (fun h => absurd h (by decide)) (fun c100_2 => ?_)
                  refine lv_iconst (v := nI 1) hx hb dX7_isReturn_103 (by decide) ?_
                  refine lv_goto (tgt := 108) hx hb dX7_isReturn_104 (by decide) ?_
                  refine lv_istore_n (lv' := [(2, .int (nI 1)), (4, .int (nI 2)), (3, .int (nI 1)), (1, .int (nI (6*tn))), (0, .ref o)]) hx hb dX7_isReturn_108 rfl hl (by decide) rfl (fun ls hl => ?_)
                  refine lv_goto (tgt := 124) hx hb dX7_isReturn_109 (by decide) ?_
                  refine lv_iinc (v := nI 3) (lv' := [(4, .int (nI 3)), (2, .int (nI 1)), (3, .int (nI 1)), (1, .int (nI (6*tn))), (0, .ref o)]) hx hb dX7_isReturn_124 hl (k := 1) rfl (by decide) (by decide) rfl (fun ls hl => ?_)
                  refine lv_goto (tgt := 74) hx hb dX7_isReturn_127 (by decide) ?_
                  refine lv_iload hx hb dX7_isReturn_74 (lv_at hl 0 rfl) ?_
                  refine lv_iconst (v := nI 4) hx hb dX7_isReturn_76 (by decide) ?_
                  refine n_ige (tgt := 130) hx hb dX7_isReturn_77 (by decide) (by omega) (by omega) (fun h => absurd h (by decide)) (fun c77_3 => ?_)
                  refine lv_iload_n hx hb dX7_isReturn_80 rfl (lv_at hl 2 rfl) ?_
                  refine lv_if_eq (tgt := 112) hx hb dX7_isReturn_81 (by decide) (fun h => absurd h (by decide)) (fun c81_3 => ?_)
                  refine lv_iload_n hx hb dX7_isReturn_84 rfl (lv_at hl 1 rfl) ?_
                  refine lv_if_eq (tgt := 107) hx hb dX7_isReturn_85 (by decide) (fun h => absurd h (by decide)) (fun c85_3 => ?_)
                  refine lv_aload_n hx hb dX7_isReturn_88 rfl (lv_at hl 4 rfl) ?_
                  refine lv_iload_n hx hb dX7_isReturn_89 rfl (lv_at hl 3 rfl) ?_
                  refine lv_iconst (v := nI 2) hx hb dX7_isReturn_90 (by decide) ?_
                  refine n_iadd (n := 6*tn + 2) hx hb dX7_isReturn_91 (by omega) ?_
                  refine lv_iload hx hb dX7_isReturn_92 (lv_at hl 0 rfl) ?_
                  refine n_iadd (n := 6*tn + 5) hx hb dX7_isReturn_94 (by omega) ?_
                  refine lv_bipush (v := nI 9) hx hb dX7_isReturn_95 (by decide) ?_
                  rcases Classical.em (dgt (chr b bn (pn + 8)) (nI 9)) with d97_pn8 | d97_pn8
                  · have hlt97_pn8 : pn + 8 < bn := dgt_lt d97_pn8
                    refine k_VM (As := [.int (nI (6*tn + 5)), .int (nI 9)]) (rest := []) S hK (c_X7_digit_t l E o z (w_pl (w_rd w (upd (upd (upd (upd (upd (q_rd w) (6*tn) ((chr b bn (pn + 1)) - (nI 48))) (6*tn + 1) ((chr b bn (pn + 3)) - (nI 48))) (6*tn + 2) ((chr b bn (pn + 5)) - (nI 48))) (6*tn + 3) ((chr b bn (pn + 6)) - (nI 48))) (6*tn + 4) ((chr b bn (pn + 7)) - (nI 48)))) (nI ((pn + 7) + 1))) b bn (pn + 8) (6*tn + 5) (nI 9) hbf hbm hbn rfl (by omega) (by omega) d97_pn8) gX7_isReturn_X7_digit rfl hd_X7_digit ⟨rfl, rfl⟩ ⟨Nat.le_of_ble_eq_true rfl, Nat.le_of_ble_eq_true rfl⟩ (k_recv hK hP.1 rfl) hP rfl hl.1 rfl (Nat.le_of_ble_eq_true rfl) dX7_isReturn_97 ⟨Nat.le_of_ble_eq_true rfl, Nat.le_of_ble_eq_true rfl⟩ hS (fun q h => h) (fun q h => h) (fun H locs hQ zH fH hS => ?_)
                    have hP := hQ
                    have hP : md E o z (w_pl (w_rd w (upd (upd (upd (upd (upd (upd (q_rd w) (6*tn) ((chr b bn (pn + 1)) - (nI 48))) (6*tn + 1) ((chr b bn (pn + 3)) - (nI 48))) (6*tn + 2) ((chr b bn (pn + 5)) - (nI 48))) (6*tn + 3) ((chr b bn (pn + 6)) - (nI 48))) (6*tn + 4) ((chr b bn (pn + 7)) - (nI 48))) (6*tn + 5) ((chr b bn (pn + 8)) - (nI 48)))) (nI ((pn + 8) + 1))) H := hP
                    refine lv_if_eq (tgt := 107) hx hb dX7_isReturn_100 (by decide) (fun h => absurd h (by decide)) (fun c100_3 => ?_)
                    refine lv_iconst (v := nI 1) hx hb dX7_isReturn_103 (by decide) ?_
                    refine lv_goto (tgt := 108) hx hb dX7_isReturn_104 (by decide) ?_
                    refine lv_istore_n (lv' := [(2, .int (nI 1)), (4, .int (nI 3)), (3, .int (nI 1)), (1, .int (nI (6*tn))), (0, .ref o)]) hx hb dX7_isReturn_108 rfl hl (by decide) rfl (fun ls hl => ?_)
                    refine lv_goto (tgt := 124) hx hb dX7_isReturn_109 (by decide) ?_
                    refine lv_iinc (v := nI 4) (lv' := [(4, .int (nI 4)), (2, .int (nI 1)), (3, .int (nI 1)), (1, .int (nI (6*tn))), (0, .ref o)]) hx hb dX7_isReturn_124 hl (k := 1) rfl (by decide) (by decide) rfl (fun ls hl => ?_)
                    refine lv_goto (tgt := 74) hx hb dX7_isReturn_127 (by decide) ?_
                    refine lv_iload hx hb dX7_isReturn_74 (lv_at hl 0 rfl) ?_
                    refine lv_iconst (v := nI 4) hx hb dX7_isReturn_76 (by decide) ?_
                    refine n_ige (tgt := 130) hx hb dX7_isReturn_77 (by decide) (by omega) (by omega) (fun c77_4 => ?_) (fun h => absurd h (by decide))
                    refine lv_aload_n hx hb dX7_isReturn_130 rfl (lv_at hl 4 rfl) ?_
                    refine lv_dup hx hb dX7_isReturn_131 rfl ?_
                    refine k_get S hK hP.1 rfl (fun _ h => List.mem_cons_of_mem _ (List.mem_append_right _ (h))) 8 (by decide) (List.mem_cons_of_mem _ (List.mem_append_left _ (List.mem_of_getElem? (i := 0) rfl))) rfl (v := .int (nI tn)) (congrArg (fun x => some (Value.int x)) (htd)) dX7_isReturn_132 ?_
                    refine lv_iconst (v := nI 1) hx hb dX7_isReturn_135 (by decide) ?_
                    refine n_iadd (n := tn + 1) hx hb dX7_isReturn_136 (by omega) ?_
                    refine md_put (w' := w_td (w_pl (w_rd w (upd (upd (upd (upd (upd (upd (q_rd w) (6*tn) ((chr b bn (pn + 1)) - (nI 48))) (6*tn + 1) ((chr b bn (pn + 3)) - (nI 48))) (6*tn + 2) ((chr b bn (pn + 5)) - (nI 48))) (6*tn + 3) ((chr b bn (pn + 6)) - (nI 48))) (6*tn + 4) ((chr b bn (pn + 7)) - (nI 48))) (6*tn + 5) ((chr b bn (pn + 8)) - (nI 48)))) (nI ((pn + 8) + 1))) (nI (tn + 1))) S hK hP (fun _ h => List.mem_cons_of_mem _ (List.mem_append_right _ (h))) 8 (by decide) (List.mem_cons_of_mem _ (List.mem_append_left _ (List.mem_of_getElem? (i := 0) rfl))) rfl rfl rfl rfl rfl rfl rfl rfl rfl hS (fun _ h => h) dX7_isReturn_137 (fun H locs hP zH fH hS => ?_)
                    refine lv_iload_n hx hb dX7_isReturn_140 rfl (lv_at hl 1 rfl) ?_
                    exact k_bretM hx hb hr hlk dX7_isReturn_141 rfl hS (show md E o z (w_td (w_rd (w_pl w (nI (irT b bn pn tn (q_rd w)).1)) (irT b bn pn tn (q_rd w)).2.2) (nI (tn + 1))) _ from (by rw [show irT b bn pn tn (q_rd w) = _ from (iF_f (fun h => h d11_pn)).trans ((iF_f (fun h => h d20_pn1)).trans ((iF_f (fun h => h d29_pn2)).trans ((iF_f (fun h => h d40_pn3)).trans ((iF_f (fun h => h d59_pn4)).trans ((iF_f (fun h => h d97_pn5)).trans ((iF_f (fun h => h d97_pn6)).trans ((iF_f (fun h => h d97_pn7)).trans (iF_f (fun h => h d97_pn8)))))))))]; exact hP)) (congrArg (fun y9 => nI y9.2.1) (show irT b bn pn tn (q_rd w) = _ from (iF_f (fun h => h d11_pn)).trans ((iF_f (fun h => h d20_pn1)).trans ((iF_f (fun h => h d29_pn2)).trans ((iF_f (fun h => h d40_pn3)).trans ((iF_f (fun h => h d59_pn4)).trans ((iF_f (fun h => h d97_pn5)).trans ((iF_f (fun h => h d97_pn6)).trans ((iF_f (fun h => h d97_pn7)).trans (iF_f (fun h => h d97_pn8)))))))))))
                  · refine k_VM (As := [.int (nI (6*tn + 5)), .int (nI 9)]) (rest := []) S hK (c_X7_digit_f l E o z (w_pl (w_rd w (upd (upd (upd (upd (upd (q_rd w) (6*tn) ((chr b bn (pn + 1)) - (nI 48))) (6*tn + 1) ((chr b bn (pn + 3)) - (nI 48))) (6*tn + 2) ((chr b bn (pn + 5)) - (nI 48))) (6*tn + 3) ((chr b bn (pn + 6)) - (nI 48))) (6*tn + 4) ((chr b bn (pn + 7)) - (nI 48)))) (nI ((pn + 7) + 1))) b bn (pn + 8) (6*tn + 5) (nI 9) hbf hbm hbn rfl (by omega) (by omega) d97_pn8) gX7_isReturn_X7_digit rfl hd_X7_digit ⟨rfl, rfl⟩ ⟨Nat.le_of_ble_eq_true rfl, Nat.le_of_ble_eq_true rfl⟩ (k_recv hK hP.1 rfl) hP rfl hl.1 rfl (Nat.le_of_ble_eq_true rfl) dX7_isReturn_97 ⟨Nat.le_of_ble_eq_true rfl, Nat.le_of_ble_eq_true rfl⟩ hS (fun q h => h) (fun q h => h) (fun H locs hQ zH fH hS => ?_)
                    have hP := hQ
                    have hP : md E o z (w_pl (w_rd w (upd (upd (upd (upd (upd (upd (q_rd w) (6*tn) ((chr b bn (pn + 1)) - (nI 48))) (6*tn + 1) ((chr b bn (pn + 3)) - (nI 48))) (6*tn + 2) ((chr b bn (pn + 5)) - (nI 48))) (6*tn + 3) ((chr b bn (pn + 6)) - (nI 48))) (6*tn + 4) ((chr b bn (pn + 7)) - (nI 48))) (6*tn + 5) ((chr b bn (pn + 8)) - (nI 48)))) (nI ((pn + 8)))) H := hP
                    refine lv_if_eq (tgt := 107) hx hb dX7_isReturn_100 (by decide) (fun c100_3 => ?_) (fun h => absurd h (by decide))
                    refine lv_iconst (v := nI 0) hx hb dX7_isReturn_107 (by decide) ?_
                    refine lv_istore_n (lv' := [(2, .int (nI 0)), (4, .int (nI 3)), (3, .int (nI 1)), (1, .int (nI (6*tn))), (0, .ref o)]) hx hb dX7_isReturn_108 rfl hl (by decide) rfl (fun ls hl => ?_)
                    refine lv_goto (tgt := 124) hx hb dX7_isReturn_109 (by decide) ?_
                    refine lv_iinc (v := nI 4) (lv' := [(4, .int (nI 4)), (2, .int (nI 0)), (3, .int (nI 1)), (1, .int (nI (6*tn))), (0, .ref o)]) hx hb dX7_isReturn_124 hl (k := 1) rfl (by decide) (by decide) rfl (fun ls hl => ?_)
                    refine lv_goto (tgt := 74) hx hb dX7_isReturn_127 (by decide) ?_
                    refine lv_iload hx hb dX7_isReturn_74 (lv_at hl 0 rfl) ?_
                    refine lv_iconst (v := nI 4) hx hb dX7_isReturn_76 (by decide) ?_
                    refine n_ige (tgt := 130) hx hb dX7_isReturn_77 (by decide) (by omega) (by omega) (fun c77_4 => ?_) (fun h => absurd h (by decide))
                    refine lv_aload_n hx hb dX7_isReturn_130 rfl (lv_at hl 4 rfl) ?_
                    refine lv_dup hx hb dX7_isReturn_131 rfl ?_
                    refine k_get S hK hP.1 rfl (fun _ h => List.mem_cons_of_mem _ (List.mem_append_right _ (h))) 8 (by decide) (List.mem_cons_of_mem _ (List.mem_append_left _ (List.mem_of_getElem? (i := 0) rfl))) rfl (v := .int (nI tn)) (congrArg (fun x => some (Value.int x)) (htd)) dX7_isReturn_132 ?_
                    refine lv_iconst (v := nI 1) hx hb dX7_isReturn_135 (by decide) ?_
                    refine n_iadd (n := tn + 1) hx hb dX7_isReturn_136 (by omega) ?_
                    refine md_put (w' := w_td (w_pl (w_rd w (upd (upd (upd (upd (upd (upd (q_rd w) (6*tn) ((chr b bn (pn + 1)) - (nI 48))) (6*tn + 1) ((chr b bn (pn + 3)) - (nI 48))) (6*tn + 2) ((chr b bn (pn + 5)) - (nI 48))) (6*tn + 3) ((chr b bn (pn + 6)) - (nI 48))) (6*tn + 4) ((chr b bn (pn + 7)) - (nI 48))) (6*tn + 5) ((chr b bn (pn + 8)) - (nI 48)))) (nI ((pn + 8)))) (nI (tn + 1))) S hK hP (fun _ h => List.mem_cons_of_mem _ (List.mem_append_right _ (h))) 8 (by decide) (List.mem_cons_of_mem _ (List.mem_append_left _ (List.mem_of_getElem? (i := 0) rfl))) rfl rfl rfl rfl rfl rfl rfl rfl rfl hS (fun _ h => h) dX7_isReturn_137 (fun H locs hP zH fH hS => ?_)
                    refine lv_iload_n hx hb dX7_isReturn_140 rfl (lv_at hl 1 rfl) ?_
                    exact k_bretM hx hb hr hlk dX7_isReturn_141 rfl hS (show md E o z (w_td (w_rd (w_pl w (nI (irT b bn pn tn (q_rd w)).1)) (irT b bn pn tn (q_rd w)).2.2) (nI (tn + 1))) _ from (by rw [show irT b bn pn tn (q_rd w) = _ from (iF_f (fun h => h d11_pn)).trans ((iF_f (fun h => h d20_pn1)).trans ((iF_f (fun h => h d29_pn2)).trans ((iF_f (fun h => h d40_pn3)).trans ((iF_f (fun h => h d59_pn4)).trans ((iF_f (fun h => h d97_pn5)).trans ((iF_f (fun h => h d97_pn6)).trans ((iF_f (fun h => h d97_pn7)).trans (iF_t d97_pn8))))))))]; exact hP)) (congrArg (fun y9 => nI y9.2.1) (show irT b bn pn tn (q_rd w) = _ from (iF_f (fun h => h d11_pn)).trans ((iF_f (fun h => h d20_pn1)).trans ((iF_f (fun h => h d29_pn2)).trans ((iF_f (fun h => h d40_pn3)).trans ((iF_f (fun h => h d59_pn4)).trans ((iF_f (fun h => h d97_pn5)).trans ((iF_f (fun h => h d97_pn6)).trans ((iF_f (fun h => h d97_pn7)).trans (iF_t d97_pn8))))))))))
                · refine k_VM (As := [.int (nI (6*tn + 4)), .int (nI 9)]) (rest := []) S hK (c_X7_digit_f l E o z (w_pl (w_rd w (upd (upd (upd (upd (q_rd w) (6*tn) ((chr b bn (pn + 1)) - (nI 48))) (6*tn + 1) ((chr b bn (pn + 3)) - (nI 48))) (6*tn + 2) ((chr b bn (pn + 5)) - (nI 48))) (6*tn + 3) ((chr b bn (pn + 6)) - (nI 48)))) (nI ((pn + 6) + 1))) b bn (pn + 7) (6*tn + 4) (nI 9) hbf hbm hbn rfl (by omega) (by omega) d97_pn7) gX7_isReturn_X7_digit rfl hd_X7_digit ⟨rfl, rfl⟩ ⟨Nat.le_of_ble_eq_true rfl, Nat.le_of_ble_eq_true rfl⟩ (k_recv hK hP.1 rfl) hP rfl hl.1 rfl (Nat.le_of_ble_eq_true rfl) dX7_isReturn_97 ⟨Nat.le_of_ble_eq_true rfl, Nat.le_of_ble_eq_true rfl⟩ hS (fun q h => h) (fun q h => h) (fun H locs hQ zH fH hS => ?_)
                  have hP := hQ
                  have hP : md E o z (w_pl (w_rd w (upd (upd (upd (upd (upd (q_rd w) (6*tn) ((chr b bn (pn + 1)) - (nI 48))) (6*tn + 1) ((chr b bn (pn + 3)) - (nI 48))) (6*tn + 2) ((chr b bn (pn + 5)) - (nI 48))) (6*tn + 3) ((chr b bn (pn + 6)) - (nI 48))) (6*tn + 4) ((chr b bn (pn + 7)) - (nI 48)))) (nI ((pn + 7)))) H := hP
                  refine lv_if_eq (tgt := 107) hx hb dX7_isReturn_100 (by decide) (fun c100_2 => ?_) (fun h => absurd h (by decide))
                  refine lv_iconst (v := nI 0) hx hb dX7_isReturn_107 (by decide) ?_
                  refine lv_istore_n (lv' := [(2, .int (nI 0)), (4, .int (nI 2)), (3, .int (nI 1)), (1, .int (nI (6*tn))), (0, .ref o)]) hx hb dX7_isReturn_108 rfl hl (by decide) rfl (fun ls hl => ?_)
                  refine lv_goto (tgt := 124) hx hb dX7_isReturn_109 (by decide) ?_
                  refine lv_iinc (v := nI 3) (lv' := [(4, .int (nI 3)), (2, .int (nI 0)), (3, .int (nI 1)), (1, .int (nI (6*tn))), (0, .ref o)]) hx hb dX7_isReturn_124 hl (k := 1) rfl (by decide) (by decide) rfl (fun ls hl => ?_)
                  refine lv_goto (tgt := 74) hx hb dX7_isReturn_127 (by decide) ?_
                  refine lv_iload hx hb dX7_isReturn_74 (lv_at hl 0 rfl) ?_
                  refine lv_iconst (v := nI 4) hx hb dX7_isReturn_76 (by decide) ?_
                  refine n_ige (tgt := 130) hx hb dX7_isReturn_77 (by decide) (by omega) (by omega) (fun h => absurd h (by decide)) (fun c77_3 => ?_)
                  refine lv_iload_n hx hb dX7_isReturn_80 rfl (lv_at hl 2 rfl) ?_
                  refine lv_if_eq (tgt := 112) hx hb dX7_isReturn_81 (by decide) (fun h => absurd h (by decide)) (fun c81_3 => ?_)
                  refine lv_iload_n hx hb dX7_isReturn_84 rfl (lv_at hl 1 rfl) ?_
                  refine lv_if_eq (tgt := 107) hx hb dX7_isReturn_85 (by decide) (fun c85_3 => ?_) (fun h => absurd h (by decide))
                  refine lv_iconst (v := nI 0) hx hb dX7_isReturn_107 (by decide) ?_
                  refine lv_istore_n (lv' := [(2, .int (nI 0)), (4, .int (nI 3)), (3, .int (nI 1)), (1, .int (nI (6*tn))), (0, .ref o)]) hx hb dX7_isReturn_108 rfl hl (by decide) rfl (fun ls hl => ?_)
                  refine lv_goto (tgt := 124) hx hb dX7_isReturn_109 (by decide) ?_
                  refine lv_iinc (v := nI 4) (lv' := [(4, .int (nI 4)), (2, .int (nI 0)), (3, .int (nI 1)), (1, .int (nI (6*tn))), (0, .ref o)]) hx hb dX7_isReturn_124 hl (k := 1) rfl (by decide) (by decide) rfl (fun ls hl => ?_)
                  refine lv_goto (tgt := 74) hx hb dX7_isReturn_127 (by decide) ?_
                  refine lv_iload hx hb dX7_isReturn_74 (lv_at hl 0 rfl) ?_
                  refine lv_iconst (v := nI 4) hx hb dX7_isReturn_76 (by decide) ?_
                  refine n_ige (tgt := 130) hx hb dX7_isReturn_77 (by decide) (by omega) (by omega) (fun c77_4 => ?_) (fun h => absurd h (by decide))
                  refine lv_aload_n hx hb dX7_isReturn_130 rfl (lv_at hl 4 rfl) ?_
                  refine lv_dup hx hb dX7_isReturn_131 rfl ?_
                  refine k_get S hK hP.1 rfl (fun _ h => List.mem_cons_of_mem _ (List.mem_append_right _ (h))) 8 (by decide) (List.mem_cons_of_mem _ (List.mem_append_left _ (List.mem_of_getElem? (i := 0) rfl))) rfl (v := .int (nI tn)) (congrArg (fun x => some (Value.int x)) (htd)) dX7_isReturn_132 ?_
                  refine lv_iconst (v := nI 1) hx hb dX7_isReturn_135 (by decide) ?_
                  refine n_iadd (n := tn + 1) hx hb dX7_isReturn_136 (by omega) ?_
                  refine md_put (w' := w_td (w_pl (w_rd w (upd (upd (upd (upd (upd (q_rd w) (6*tn) ((chr b bn (pn + 1)) - (nI 48))) (6*tn + 1) ((chr b bn (pn + 3)) - (nI 48))) (6*tn + 2) ((chr b bn (pn + 5)) - (nI 48))) (6*tn + 3) ((chr b bn (pn + 6)) - (nI 48))) (6*tn + 4) ((chr b bn (pn + 7)) - (nI 48)))) (nI ((pn + 7)))) (nI (tn + 1))) S hK hP (fun _ h => List.mem_cons_of_mem _ (List.mem_append_right _ (h))) 8 (by decide) (List.mem_cons_of_mem _ (List.mem_append_left _ (List.mem_of_getElem? (i := 0) rfl))) rfl rfl rfl rfl rfl rfl rfl rfl rfl hS (fun _ h => h) dX7_isReturn_137 (fun H locs hP zH fH hS => ?_)
                  refine lv_iload_n hx hb dX7_isReturn_140 rfl (lv_at hl 1 rfl) ?_
                  exact k_bretM hx hb hr hlk dX7_isReturn_141 rfl hS (show md E o z (w_td (w_rd (w_pl w (nI (irT b bn pn tn (q_rd w)).1)) (irT b bn pn tn (q_rd w)).2.2) (nI (tn + 1))) _ from (by rw [show irT b bn pn tn (q_rd w) = _ from (iF_f (fun h => h d11_pn)).trans ((iF_f (fun h => h d20_pn1)).trans ((iF_f (fun h => h d29_pn2)).trans ((iF_f (fun h => h d40_pn3)).trans ((iF_f (fun h => h d59_pn4)).trans ((iF_f (fun h => h d97_pn5)).trans ((iF_f (fun h => h d97_pn6)).trans (iF_t d97_pn7)))))))]; exact hP)) (congrArg (fun y9 => nI y9.2.1) (show irT b bn pn tn (q_rd w) = _ from (iF_f (fun h => h d11_pn)).trans ((iF_f (fun h => h d20_pn1)).trans ((iF_f (fun h => h d29_pn2)).trans ((iF_f (fun h => h d40_pn3)).trans ((iF_f (fun h => h d59_pn4)).trans ((iF_f (fun h => h d97_pn5)).trans ((iF_f (fun h => h d97_pn6)).trans (iF_t d97_pn7)))))))))
              · refine k_VM (As := [.int (nI (6*tn + 3)), .int (nI 9)]) (rest := []) S hK (c_X7_digit_f l E o z (w_pl (w_rd w (upd (upd (upd (q_rd w) (6*tn) ((chr b bn (pn + 1)) - (nI 48))) (6*tn + 1) ((chr b bn (pn + 3)) - (nI 48))) (6*tn + 2) ((chr b bn (pn + 5)) - (nI 48)))) (nI ((pn + 5) + 1))) b bn (pn + 6) (6*tn + 3) (nI 9) hbf hbm hbn rfl (by omega) (by omega) d97_pn6) gX7_isReturn_X7_digit rfl hd_X7_digit ⟨rfl, rfl⟩ ⟨Nat.le_of_ble_eq_true rfl, Nat.le_of_ble_eq_true rfl⟩ (k_recv hK hP.1 rfl) hP rfl hl.1 rfl (Nat.le_of_ble_eq_true rfl) dX7_isReturn_97 ⟨Nat.le_of_ble_eq_true rfl, Nat.le_of_ble_eq_true rfl⟩ hS (fun q h => h) (fun q h => h) (fun H locs hQ zH fH hS => ?_)
                have hP := hQ
                have hP : md E o z (w_pl (w_rd w (upd (upd (upd (upd (q_rd w) (6*tn) ((chr b bn (pn + 1)) - (nI 48))) (6*tn + 1) ((chr b bn (pn + 3)) - (nI 48))) (6*tn + 2) ((chr b bn (pn + 5)) - (nI 48))) (6*tn + 3) ((chr b bn (pn + 6)) - (nI 48)))) (nI ((pn + 6)))) H := hP
                refine lv_if_eq (tgt := 107) hx hb dX7_isReturn_100 (by decide) (fun c100_1 => ?_) (fun h => absurd h (by decide))
                refine lv_iconst (v := nI 0) hx hb dX7_isReturn_107 (by decide) ?_
                refine lv_istore_n (lv' := [(2, .int (nI 0)), (4, .int (nI 1)), (3, .int (nI 1)), (1, .int (nI (6*tn))), (0, .ref o)]) hx hb dX7_isReturn_108 rfl hl (by decide) rfl (fun ls hl => ?_)
                refine lv_goto (tgt := 124) hx hb dX7_isReturn_109 (by decide) ?_
                refine lv_iinc (v := nI 2) (lv' := [(4, .int (nI 2)), (2, .int (nI 0)), (3, .int (nI 1)), (1, .int (nI (6*tn))), (0, .ref o)]) hx hb dX7_isReturn_124 hl (k := 1) rfl (by decide) (by decide) rfl (fun ls hl => ?_)
                refine lv_goto (tgt := 74) hx hb dX7_isReturn_127 (by decide) ?_
                refine lv_iload hx hb dX7_isReturn_74 (lv_at hl 0 rfl) ?_
                refine lv_iconst (v := nI 4) hx hb dX7_isReturn_76 (by decide) ?_
                refine n_ige (tgt := 130) hx hb dX7_isReturn_77 (by decide) (by omega) (by omega) (fun h => absurd h (by decide)) (fun c77_2 => ?_)
                refine lv_iload_n hx hb dX7_isReturn_80 rfl (lv_at hl 2 rfl) ?_
                refine lv_if_eq (tgt := 112) hx hb dX7_isReturn_81 (by decide) (fun h => absurd h (by decide)) (fun c81_2 => ?_)
                refine lv_iload_n hx hb dX7_isReturn_84 rfl (lv_at hl 1 rfl) ?_
                refine lv_if_eq (tgt := 107) hx hb dX7_isReturn_85 (by decide) (fun c85_2 => ?_) (fun h => absurd h (by decide))
                refine lv_iconst (v := nI 0) hx hb dX7_isReturn_107 (by decide) ?_
                refine lv_istore_n (lv' := [(2, .int (nI 0)), (4, .int (nI 2)), (3, .int (nI 1)), (1, .int (nI (6*tn))), (0, .ref o)]) hx hb dX7_isReturn_108 rfl hl (by decide) rfl (fun ls hl => ?_)
                refine lv_goto (tgt := 124) hx hb dX7_isReturn_109 (by decide) ?_
                refine lv_iinc (v := nI 3) (lv' := [(4, .int (nI 3)), (2, .int (nI 0)), (3, .int (nI 1)), (1, .int (nI (6*tn))), (0, .ref o)]) hx hb dX7_isReturn_124 hl (k := 1) rfl (by decide) (by decide) rfl (fun ls hl => ?_)
                refine lv_goto (tgt := 74) hx hb dX7_isReturn_127 (by decide) ?_
                refine lv_iload hx hb dX7_isReturn_74 (lv_at hl 0 rfl) ?_
                refine lv_iconst (v := nI 4) hx hb dX7_isReturn_76 (by decide) ?_
                refine n_ige (tgt := 130) hx hb dX7_isReturn_77 (by decide) (by omega) (by omega) (fun h => absurd h (by decide)) (fun c77_3 => ?_)
                refine lv_iload_n hx hb dX7_isReturn_80 rfl (lv_at hl 2 rfl) ?_
                refine lv_if_eq (tgt := 112) hx hb dX7_isReturn_81 (by decide) (fun h => absurd h (by decide)) (fun c81_3 => ?_)
                refine lv_iload_n hx hb dX7_isReturn_84 rfl (lv_at hl 1 rfl) ?_
                refine lv_if_eq (tgt := 107) hx hb dX7_isReturn_85 (by decide) (fun c85_3 => ?_) (fun h => absurd h (by decide))
                refine lv_iconst (v := nI 0) hx hb dX7_isReturn_107 (by decide) ?_
                refine lv_istore_n (lv' := [(2, .int (nI 0)), (4, .int (nI 3)), (3, .int (nI 1)), (1, .int (nI (6*tn))), (0, .ref o)]) hx hb dX7_isReturn_108 rfl hl (by decide) rfl (fun ls hl => ?_)
                refine lv_goto (tgt := 124) hx hb dX7_isReturn_109 (by decide) ?_
                refine lv_iinc (v := nI 4) (lv' := [(4, .int (nI 4)), (2, .int (nI 0)), (3, .int (nI 1)), (1, .int (nI (6*tn))), (0, .ref o)]) hx hb dX7_isReturn_124 hl (k := 1) rfl (by decide) (by decide) rfl (fun ls hl => ?_)
                refine lv_goto (tgt := 74) hx hb dX7_isReturn_127 (by decide) ?_
                refine lv_iload hx hb dX7_isReturn_74 (lv_at hl 0 rfl) ?_
                refine lv_iconst (v := nI 4) hx hb dX7_isReturn_76 (by decide) ?_
                refine n_ige (tgt := 130) hx hb dX7_isReturn_77 (by decide) (by omega) (by omega) (fun c77_4 => ?_) (fun h => absurd h (by decide))
                refine lv_aload_n hx hb dX7_isReturn_130 rfl (lv_at hl 4 rfl) ?_
                refine lv_dup hx hb dX7_isReturn_131 rfl ?_
                refine k_get S hK hP.1 rfl (fun _ h => List.mem_cons_of_mem _ (List.mem_append_right _ (h))) 8 (by decide) (List.mem_cons_of_mem _ (List.mem_append_left _ (List.mem_of_getElem? (i := 0) rfl))) rfl (v := .int (nI tn)) (congrArg (fun x => some (Value.int x)) (htd)) dX7_isReturn_132 ?_
                refine lv_iconst (v := nI 1) hx hb dX7_isReturn_135 (by decide) ?_
                refine n_iadd (n := tn + 1) hx hb dX7_isReturn_136 (by omega) ?_
                refine md_put (w' := w_td (w_pl (w_rd w (upd (upd (upd (upd (q_rd w) (6*tn) ((chr b bn (pn + 1)) - (nI 48))) (6*tn + 1) ((chr b bn (pn + 3)) - (nI 48))) (6*tn + 2) ((chr b bn (pn + 5)) - (nI 48))) (6*tn + 3) ((chr b bn (pn + 6)) - (nI 48)))) (nI ((pn + 6)))) (nI (tn + 1))) S hK hP (fun _ h => List.mem_cons_of_mem _ (List.mem_append_right _ (h))) 8 (by decide) (List.mem_cons_of_mem _ (List.mem_append_left _ (List.mem_of_getElem? (i := 0) rfl))) rfl rfl rfl rfl rfl rfl rfl rfl rfl hS (fun _ h => h) dX7_isReturn_137 (fun H locs hP zH fH hS => ?_)
                refine lv_iload_n hx hb dX7_isReturn_140 rfl (lv_at hl 1 rfl) ?_
                exact k_bretM hx hb hr hlk dX7_isReturn_141 rfl hS (show md E o z (w_td (w_rd (w_pl w (nI (irT b bn pn tn (q_rd w)).1)) (irT b bn pn tn (q_rd w)).2.2) (nI (tn + 1))) _ from (by rw [show irT b bn pn tn (q_rd w) = _ from (iF_f (fun h => h d11_pn)).trans ((iF_f (fun h => h d20_pn1)).trans ((iF_f (fun h => h d29_pn2)).trans ((iF_f (fun h => h d40_pn3)).trans ((iF_f (fun h => h d59_pn4)).trans ((iF_f (fun h => h d97_pn5)).trans (iF_t d97_pn6))))))]; exact hP)) (congrArg (fun y9 => nI y9.2.1) (show irT b bn pn tn (q_rd w) = _ from (iF_f (fun h => h d11_pn)).trans ((iF_f (fun h => h d20_pn1)).trans ((iF_f (fun h => h d29_pn2)).trans ((iF_f (fun h => h d40_pn3)).trans ((iF_f (fun h => h d59_pn4)).trans ((iF_f (fun h => h d97_pn5)).trans (iF_t d97_pn6))))))))
            · refine k_VM (As := [.int (nI (6*tn + 2)), .int (nI 9)]) (rest := []) S hK (c_X7_digit_f l E o z (w_pl (w_rd w (upd (upd (q_rd w) (6*tn) ((chr b bn (pn + 1)) - (nI 48))) (6*tn + 1) ((chr b bn (pn + 3)) - (nI 48)))) (nI ((pn + 4) + 1))) b bn (pn + 5) (6*tn + 2) (nI 9) hbf hbm hbn rfl (by omega) (by omega) d97_pn5) gX7_isReturn_X7_digit rfl hd_X7_digit ⟨rfl, rfl⟩ ⟨Nat.le_of_ble_eq_true rfl, Nat.le_of_ble_eq_true rfl⟩ (k_recv hK hP.1 rfl) hP rfl hl.1 rfl (Nat.le_of_ble_eq_true rfl) dX7_isReturn_97 ⟨Nat.le_of_ble_eq_true rfl, Nat.le_of_ble_eq_true rfl⟩ hS (fun q h => h) (fun q h => h) (fun H locs hQ zH fH hS => ?_)
              have hP := hQ
              have hP : md E o z (w_pl (w_rd w (upd (upd (upd (q_rd w) (6*tn) ((chr b bn (pn + 1)) - (nI 48))) (6*tn + 1) ((chr b bn (pn + 3)) - (nI 48))) (6*tn + 2) ((chr b bn (pn + 5)) - (nI 48)))) (nI ((pn + 5)))) H := hP
              refine lv_if_eq (tgt := 107) hx hb dX7_isReturn_100 (by decide) (fun c100 => ?_) (fun h => absurd h (by decide))
              refine lv_iconst (v := nI 0) hx hb dX7_isReturn_107 (by decide) ?_
              refine lv_istore_n (lv' := [(2, .int (nI 0)), (4, .int (nI 0)), (3, .int (nI 1)), (1, .int (nI (6*tn))), (0, .ref o)]) hx hb dX7_isReturn_108 rfl hl (by decide) rfl (fun ls hl => ?_)
              refine lv_goto (tgt := 124) hx hb dX7_isReturn_109 (by decide) ?_
              refine lv_iinc (v := nI 1) (lv' := [(4, .int (nI 1)), (2, .int (nI 0)), (3, .int (nI 1)), (1, .int (nI (6*tn))), (0, .ref o)]) hx hb dX7_isReturn_124 hl (k := 1) rfl (by decide) (by decide) rfl (fun ls hl => ?_)
              refine lv_goto (tgt := 74) hx hb dX7_isReturn_127 (by decide) ?_
              refine lv_iload hx hb dX7_isReturn_74 (lv_at hl 0 rfl) ?_
              refine lv_iconst (v := nI 4) hx hb dX7_isReturn_76 (by decide) ?_
              refine n_ige (tgt := 130) hx hb dX7_isReturn_77 (by decide) (by omega) (by omega) (fun h => absurd h (by decide)) (fun c77_1 => ?_)
              refine lv_iload_n hx hb dX7_isReturn_80 rfl (lv_at hl 2 rfl) ?_
              refine lv_if_eq (tgt := 112) hx hb dX7_isReturn_81 (by decide) (fun h => absurd h (by decide)) (fun c81_1 => ?_)
              refine lv_iload_n hx hb dX7_isReturn_84 rfl (lv_at hl 1 rfl) ?_
              refine lv_if_eq (tgt := 107) hx hb dX7_isReturn_85 (by decide) (fun c85_1 => ?_) (fun h => absurd h (by decide))
              refine lv_iconst (v := nI 0) hx hb dX7_isReturn_107 (by decide) ?_
              refine lv_istore_n (lv' := [(2, .int (nI 0)), (4, .int (nI 1)), (3, .int (nI 1)), (1, .int (nI (6*tn))), (0, .ref o)]) hx hb dX7_isReturn_108 rfl hl (by decide) rfl (fun ls hl => ?_)
              refine lv_goto (tgt := 124) hx hb dX7_isReturn_109 (by decide) ?_
              refine lv_iinc (v := nI 2) (lv' := [(4, .int (nI 2)), (2, .int (nI 0)), (3, .int (nI 1)), (1, .int (nI (6*tn))), (0, .ref o)]) hx hb dX7_isReturn_124 hl (k := 1) rfl (by decide) (by decide) rfl (fun ls hl => ?_)
              refine lv_goto (tgt := 74) hx hb dX7_isReturn_127 (by decide) ?_
              refine lv_iload hx hb dX7_isReturn_74 (lv_at hl 0 rfl) ?_
              refine lv_iconst (v := nI 4) hx hb dX7_isReturn_76 (by decide) ?_
              refine n_ige (tgt := 130) hx hb dX7_isReturn_77 (by decide) (by omega) (by omega) (fun h => absurd h (by decide)) (fun c77_2 => ?_)
              refine lv_iload_n hx hb dX7_isReturn_80 rfl (lv_at hl 2 rfl) ?_
              refine lv_if_eq (tgt := 112) hx hb dX7_isReturn_81 (by decide) (fun h => absurd h (by decide)) (fun c81_2 => ?_)
              refine lv_iload_n hx hb dX7_isReturn_84 rfl (lv_at hl 1 rfl) ?_
              refine lv_if_eq (tgt := 107) hx hb dX7_isReturn_85 (by decide) (fun c85_2 => ?_) (fun h => absurd h (by decide))
              refine lv_iconst (v := nI 0) hx hb dX7_isReturn_107 (by decide) ?_
              refine lv_istore_n (lv' := [(2, .int (nI 0)), (4, .int (nI 2)), (3, .int (nI 1)), (1, .int (nI (6*tn))), (0, .ref o)]) hx hb dX7_isReturn_108 rfl hl (by decide) rfl (fun ls hl => ?_)
              refine lv_goto (tgt := 124) hx hb dX7_isReturn_109 (by decide) ?_
              refine lv_iinc (v := nI 3) (lv' := [(4, .int (nI 3)), (2, .int (nI 0)), (3, .int (nI 1)), (1, .int (nI (6*tn))), (0, .ref o)]) hx hb dX7_isReturn_124 hl (k := 1) rfl (by decide) (by decide) rfl (fun ls hl => ?_)
              refine lv_goto (tgt := 74) hx hb dX7_isReturn_127 (by decide) ?_
              refine lv_iload hx hb dX7_isReturn_74 (lv_at hl 0 rfl) ?_
              refine lv_iconst (v := nI 4) hx hb dX7_isReturn_76 (by decide) ?_
              refine n_ige (tgt := 130) hx hb dX7_isReturn_77 (by decide) (by omega) (by omega) (fun h => absurd h (by decide)) (fun c77_3 => ?_)
              refine lv_iload_n hx hb dX7_isReturn_80 rfl (lv_at hl 2 rfl) ?_
              refine lv_if_eq (tgt := 112) hx hb dX7_isReturn_81 (by decide) (fun h => absurd h (by decide)) (fun c81_3 => ?_)
              refine lv_iload_n hx hb dX7_isReturn_84 rfl (lv_at hl 1 rfl) ?_
              refine lv_if_eq (tgt := 107) hx hb dX7_isReturn_85 (by decide) (fun c85_3 => ?_) (fun h => absurd h (by decide))
              refine lv_iconst (v := nI 0) hx hb dX7_isReturn_107 (by decide) ?_
              refine lv_istore_n (lv' := [(2, .int (nI 0)), (4, .int (nI 3)), (3, .int (nI 1)), (1, .int (nI (6*tn))), (0, .ref o)]) hx hb dX7_isReturn_108 rfl hl (by decide) rfl (fun ls hl => ?_)
              refine lv_goto (tgt := 124) hx hb dX7_isReturn_109 (by decide) ?_
              refine lv_iinc (v := nI 4) (lv' := [(4, .int (nI 4)), (2, .int (nI 0)), (3, .int (nI 1)), (1, .int (nI (6*tn))), (0, .ref o)]) hx hb dX7_isReturn_124 hl (k := 1) rfl (by decide) (by decide) rfl (fun ls hl => ?_)
              refine lv_goto (tgt := 74) hx hb dX7_isReturn_127 (by decide) ?_
              refine lv_iload hx hb dX7_isReturn_74 (lv_at hl 0 rfl) ?_
              refine lv_iconst (v := nI 4) hx hb dX7_isReturn_76 (by decide) ?_
              refine n_ige (tgt := 130) hx hb dX7_isReturn_77 (by decide) (by omega) (by omega) (fun c77_4 => ?_) (fun h => absurd h (by decide))
              refine lv_aload_n hx hb dX7_isReturn_130 rfl (lv_at hl 4 rfl) ?_
              refine lv_dup hx hb dX7_isReturn_131 rfl ?_
              refine k_get S hK hP.1 rfl (fun _ h => List.mem_cons_of_mem _ (List.mem_append_right _ (h))) 8 (by decide) (List.mem_cons_of_mem _ (List.mem_append_left _ (List.mem_of_getElem? (i := 0) rfl))) rfl (v := .int (nI tn)) (congrArg (fun x => some (Value.int x)) (htd)) dX7_isReturn_132 ?_
              refine lv_iconst (v := nI 1) hx hb dX7_isReturn_135 (by decide) ?_
              refine n_iadd (n := tn + 1) hx hb dX7_isReturn_136 (by omega) ?_
              refine md_put (w' := w_td (w_pl (w_rd w (upd (upd (upd (q_rd w) (6*tn) ((chr b bn (pn + 1)) - (nI 48))) (6*tn + 1) ((chr b bn (pn + 3)) - (nI 48))) (6*tn + 2) ((chr b bn (pn + 5)) - (nI 48)))) (nI ((pn + 5)))) (nI (tn + 1))) S hK hP (fun _ h => List.mem_cons_of_mem _ (List.mem_append_right _ (h))) 8 (by decide) (List.mem_cons_of_mem _ (List.mem_append_left _ (List.mem_of_getElem? (i := 0) rfl))) rfl rfl rfl rfl rfl rfl rfl rfl rfl hS (fun _ h => h) dX7_isReturn_137 (fun H locs hP zH fH hS => ?_)
              refine lv_iload_n hx hb dX7_isReturn_140 rfl (lv_at hl 1 rfl) ?_
              exact k_bretM hx hb hr hlk dX7_isReturn_141 rfl hS (show md E o z (w_td (w_rd (w_pl w (nI (irT b bn pn tn (q_rd w)).1)) (irT b bn pn tn (q_rd w)).2.2) (nI (tn + 1))) _ from (by rw [show irT b bn pn tn (q_rd w) = _ from (iF_f (fun h => h d11_pn)).trans ((iF_f (fun h => h d20_pn1)).trans ((iF_f (fun h => h d29_pn2)).trans ((iF_f (fun h => h d40_pn3)).trans ((iF_f (fun h => h d59_pn4)).trans (iF_t d97_pn5)))))]; exact hP)) (congrArg (fun y9 => nI y9.2.1) (show irT b bn pn tn (q_rd w) = _ from (iF_f (fun h => h d11_pn)).trans ((iF_f (fun h => h d20_pn1)).trans ((iF_f (fun h => h d29_pn2)).trans ((iF_f (fun h => h d40_pn3)).trans ((iF_f (fun h => h d59_pn4)).trans (iF_t d97_pn5)))))))
          · refine k_VM (As := [.int (nI 58)]) (rest := []) S hK (c_X7_takes_f l E o z (w_pl (w_rd w (upd (upd (q_rd w) (6*tn) ((chr b bn (pn + 1)) - (nI 48))) (6*tn + 1) ((chr b bn (pn + 3)) - (nI 48)))) (nI ((pn + 3) + 1))) b bn (pn + 4) (nI 58) hbf hbm hbn rfl (by omega) (by omega)) gX7_isReturn_X7_takes rfl hd_X7_takes ⟨rfl, rfl⟩ ⟨Nat.le_of_ble_eq_true rfl, Nat.le_of_ble_eq_true rfl⟩ (k_recv hK hP.1 rfl) hP rfl hl.1 rfl (Nat.le_of_ble_eq_true rfl) dX7_isReturn_59 ⟨Nat.le_of_ble_eq_true rfl, Nat.le_of_ble_eq_true rfl⟩ hS (fun q h => h) (fun q h => h) (fun H locs hQ zH fH hS => ?_)
            have hP := hQ
            have hP : md E o z (w_pl (w_rd w (upd (upd (q_rd w) (6*tn) ((chr b bn (pn + 1)) - (nI 48))) (6*tn + 1) ((chr b bn (pn + 3)) - (nI 48)))) (nI (pn + 4))) H := hP
            refine lv_if_eq (tgt := 69) hx hb dX7_isReturn_62 (by decide) (fun c62 => ?_) (fun h => absurd h (by decide))
            refine lv_iconst (v := nI 0) hx hb dX7_isReturn_69 (by decide) ?_
            refine lv_istore_n (lv' := [(3, .int (nI 0)), (2, .int (nI 1)), (1, .int (nI (6*tn))), (0, .ref o)]) hx hb dX7_isReturn_70 rfl hl (by decide) rfl (fun ls hl => ?_)
            refine lv_iconst (v := nI 0) hx hb dX7_isReturn_71 (by decide) ?_
            refine lv_istore (lv' := [(4, .int (nI 0)), (3, .int (nI 0)), (2, .int (nI 1)), (1, .int (nI (6*tn))), (0, .ref o)]) hx hb dX7_isReturn_72 hl (by decide) rfl (fun ls hl => ?_)
            refine lv_iload hx hb dX7_isReturn_74 (lv_at hl 0 rfl) ?_
            refine lv_iconst (v := nI 4) hx hb dX7_isReturn_76 (by decide) ?_
            refine n_ige (tgt := 130) hx hb dX7_isReturn_77 (by decide) (by omega) (by omega) (fun h => absurd h (by decide)) (fun c77 => ?_)
            refine lv_iload_n hx hb dX7_isReturn_80 rfl (lv_at hl 1 rfl) ?_
            refine lv_if_eq (tgt := 112) hx hb dX7_isReturn_81 (by decide) (fun c81 => ?_) (fun h => absurd h (by decide))
            refine lv_aload_n hx hb dX7_isReturn_112 rfl (lv_at hl 4 rfl) ?_
            refine k_get S hK hP.1 rfl (fun _ h => List.mem_cons_of_mem _ (List.mem_append_right _ (h))) 9 (by decide) (List.mem_cons_of_mem _ (List.mem_append_left _ (List.mem_of_getElem? (i := 1) rfl))) rfl (v := .ref (o + 5)) rfl dX7_isReturn_113 ?_
            refine lv_iload_n hx hb dX7_isReturn_116 rfl (lv_at hl 3 rfl) ?_
            refine lv_iconst (v := nI 2) hx hb dX7_isReturn_117 (by decide) ?_
            refine n_iadd (n := 6*tn + 2) hx hb dX7_isReturn_118 (by omega) ?_
            refine lv_iload hx hb dX7_isReturn_119 (lv_at hl 0 rfl) ?_
            refine n_iadd (n := 6*tn + 2) hx hb dX7_isReturn_121 (by omega) ?_
            refine lv_iconst (v := (-1)) hx hb dX7_isReturn_122 (by decide) ?_
            refine md_ast_rd hx hb hK hP (by omega) hS (fun _ h => h) dX7_isReturn_123 (fun H locs hP zH fH hS => ?_)
            refine lv_iinc (v := nI 1) (lv' := [(4, .int (nI 1)), (3, .int (nI 0)), (2, .int (nI 1)), (1, .int (nI (6*tn))), (0, .ref o)]) hx hb dX7_isReturn_124 hl (k := 0) rfl (by decide) (by decide) rfl (fun ls hl => ?_)
            refine lv_goto (tgt := 74) hx hb dX7_isReturn_127 (by decide) ?_
            refine lv_iload hx hb dX7_isReturn_74 (lv_at hl 0 rfl) ?_
            refine lv_iconst (v := nI 4) hx hb dX7_isReturn_76 (by decide) ?_
            refine n_ige (tgt := 130) hx hb dX7_isReturn_77 (by decide) (by omega) (by omega) (fun h => absurd h (by decide)) (fun c77_1 => ?_)
            refine lv_iload_n hx hb dX7_isReturn_80 rfl (lv_at hl 1 rfl) ?_
            refine lv_if_eq (tgt := 112) hx hb dX7_isReturn_81 (by decide) (fun c81_1 => ?_) (fun h => absurd h (by decide))
            refine lv_aload_n hx hb dX7_isReturn_112 rfl (lv_at hl 4 rfl) ?_
            refine k_get S hK hP.1 rfl (fun _ h => List.mem_cons_of_mem _ (List.mem_append_right _ (h))) 9 (by decide) (List.mem_cons_of_mem _ (List.mem_append_left _ (List.mem_of_getElem? (i := 1) rfl))) rfl (v := .ref (o + 5)) rfl dX7_isReturn_113 ?_
            refine lv_iload_n hx hb dX7_isReturn_116 rfl (lv_at hl 3 rfl) ?_
            refine lv_iconst (v := nI 2) hx hb dX7_isReturn_117 (by decide) ?_
            refine n_iadd (n := 6*tn + 2) hx hb dX7_isReturn_118 (by omega) ?_
            refine lv_iload hx hb dX7_isReturn_119 (lv_at hl 0 rfl) ?_
            refine n_iadd (n := 6*tn + 3) hx hb dX7_isReturn_121 (by omega) ?_
            refine lv_iconst (v := (-1)) hx hb dX7_isReturn_122 (by decide) ?_
            refine md_ast_rd hx hb hK hP (by omega) hS (fun _ h => h) dX7_isReturn_123 (fun H locs hP zH fH hS => ?_)
            refine lv_iinc (v := nI 2) (lv' := [(4, .int (nI 2)), (3, .int (nI 0)), (2, .int (nI 1)), (1, .int (nI (6*tn))), (0, .ref o)]) hx hb dX7_isReturn_124 hl (k := 0) rfl (by decide) (by decide) rfl (fun ls hl => ?_)
            refine lv_goto (tgt := 74) hx hb dX7_isReturn_127 (by decide) ?_
            refine lv_iload hx hb dX7_isReturn_74 (lv_at hl 0 rfl) ?_
            refine lv_iconst (v := nI 4) hx hb dX7_isReturn_76 (by decide) ?_
            refine n_ige (tgt := 130) hx hb dX7_isReturn_77 (by decide) (by omega) (by omega) (fun h => absurd h (by decide)) (fun c77_2 => ?_)
            refine lv_iload_n hx hb dX7_isReturn_80 rfl (lv_at hl 1 rfl) ?_
            refine lv_if_eq (tgt := 112) hx hb dX7_isReturn_81 (by decide) (fun c81_2 => ?_) (fun h => absurd h (by decide))
            refine lv_aload_n hx hb dX7_isReturn_112 rfl (lv_at hl 4 rfl) ?_
            refine k_get S hK hP.1 rfl (fun _ h => List.mem_cons_of_mem _ (List.mem_append_right _ (h))) 9 (by decide) (List.mem_cons_of_mem _ (List.mem_append_left _ (List.mem_of_getElem? (i := 1) rfl))) rfl (v := .ref (o + 5)) rfl dX7_isReturn_113 ?_
            refine lv_iload_n hx hb dX7_isReturn_116 rfl (lv_at hl 3 rfl) ?_
            refine lv_iconst (v := nI 2) hx hb dX7_isReturn_117 (by decide) ?_
            refine n_iadd (n := 6*tn + 2) hx hb dX7_isReturn_118 (by omega) ?_
            refine lv_iload hx hb dX7_isReturn_119 (lv_at hl 0 rfl) ?_
            refine n_iadd (n := 6*tn + 4) hx hb dX7_isReturn_121 (by omega) ?_
            refine lv_iconst (v := (-1)) hx hb dX7_isReturn_122 (by decide) ?_
            refine md_ast_rd hx hb hK hP (by omega) hS (fun _ h => h) dX7_isReturn_123 (fun H locs hP zH fH hS => ?_)
            refine lv_iinc (v := nI 3) (lv' := [(4, .int (nI 3)), (3, .int (nI 0)), (2, .int (nI 1)), (1, .int (nI (6*tn))), (0, .ref o)]) hx hb dX7_isReturn_124 hl (k := 0) rfl (by decide) (by decide) rfl (fun ls hl => ?_)
            refine lv_goto (tgt := 74) hx hb dX7_isReturn_127 (by decide) ?_
            refine lv_iload hx hb dX7_isReturn_74 (lv_at hl 0 rfl) ?_
            refine lv_iconst (v := nI 4) hx hb dX7_isReturn_76 (by decide) ?_
            refine n_ige (tgt := 130) hx hb dX7_isReturn_77 (by decide) (by omega) (by omega) (fun h => absurd h (by decide)) (fun c77_3 => ?_)
            refine lv_iload_n hx hb dX7_isReturn_80 rfl (lv_at hl 1 rfl) ?_
            refine lv_if_eq (tgt := 112) hx hb dX7_isReturn_81 (by decide) (fun c81_3 => ?_) (fun h => absurd h (by decide))
            refine lv_aload_n hx hb dX7_isReturn_112 rfl (lv_at hl 4 rfl) ?_
            refine k_get S hK hP.1 rfl (fun _ h => List.mem_cons_of_mem _ (List.mem_append_right _ (h))) 9 (by decide) (List.mem_cons_of_mem _ (List.mem_append_left _ (List.mem_of_getElem? (i := 1) rfl))) rfl (v := .ref (o + 5)) rfl dX7_isReturn_113 ?_
            refine lv_iload_n hx hb dX7_isReturn_116 rfl (lv_at hl 3 rfl) ?_
            refine lv_iconst (v := nI 2) hx hb dX7_isReturn_117 (by decide) ?_
            refine n_iadd (n := 6*tn + 2) hx hb dX7_isReturn_118 (by omega) ?_
            refine lv_iload hx hb dX7_isReturn_119 (lv_at hl 0 rfl) ?_
            refine n_iadd (n := 6*tn + 5) hx hb dX7_isReturn_121 (by omega) ?_
            refine lv_iconst (v := (-1)) hx hb dX7_isReturn_122 (by decide) ?_
            refine md_ast_rd hx hb hK hP (by omega) hS (fun _ h => h) dX7_isReturn_123 (fun H locs hP zH fH hS => ?_)
            refine lv_iinc (v := nI 4) (lv' := [(4, .int (nI 4)), (3, .int (nI 0)), (2, .int (nI 1)), (1, .int (nI (6*tn))), (0, .ref o)]) hx hb dX7_isReturn_124 hl (k := 0) rfl (by decide) (by decide) rfl (fun ls hl => ?_)
            refine lv_goto (tgt := 74) hx hb dX7_isReturn_127 (by decide) ?_
            refine lv_iload hx hb dX7_isReturn_74 (lv_at hl 0 rfl) ?_
            refine lv_iconst (v := nI 4) hx hb dX7_isReturn_76 (by decide) ?_
            refine n_ige (tgt := 130) hx hb dX7_isReturn_77 (by decide) (by omega) (by omega) (fun c77_4 => ?_) (fun h => absurd h (by decide))
            refine lv_aload_n hx hb dX7_isReturn_130 rfl (lv_at hl 4 rfl) ?_
            refine lv_dup hx hb dX7_isReturn_131 rfl ?_
            refine k_get S hK hP.1 rfl (fun _ h => List.mem_cons_of_mem _ (List.mem_append_right _ (h))) 8 (by decide) (List.mem_cons_of_mem _ (List.mem_append_left _ (List.mem_of_getElem? (i := 0) rfl))) rfl (v := .int (nI tn)) (congrArg (fun x => some (Value.int x)) (htd)) dX7_isReturn_132 ?_
            refine lv_iconst (v := nI 1) hx hb dX7_isReturn_135 (by decide) ?_
            refine n_iadd (n := tn + 1) hx hb dX7_isReturn_136 (by omega) ?_
            refine md_put (w' := w_td (w_rd (w_rd (w_rd (w_rd (w_pl (w_rd w (upd (upd (q_rd w) (6*tn) ((chr b bn (pn + 1)) - (nI 48))) (6*tn + 1) ((chr b bn (pn + 3)) - (nI 48)))) (nI (pn + 4))) (upd (upd (upd (q_rd w) (6*tn) ((chr b bn (pn + 1)) - (nI 48))) (6*tn + 1) ((chr b bn (pn + 3)) - (nI 48))) (6*tn + 2) (-1))) (upd (upd (upd (upd (q_rd w) (6*tn) ((chr b bn (pn + 1)) - (nI 48))) (6*tn + 1) ((chr b bn (pn + 3)) - (nI 48))) (6*tn + 2) (-1)) (6*tn + 3) (-1))) (upd (upd (upd (upd (upd (q_rd w) (6*tn) ((chr b bn (pn + 1)) - (nI 48))) (6*tn + 1) ((chr b bn (pn + 3)) - (nI 48))) (6*tn + 2) (-1)) (6*tn + 3) (-1)) (6*tn + 4) (-1))) (upd (upd (upd (upd (upd (upd (q_rd w) (6*tn) ((chr b bn (pn + 1)) - (nI 48))) (6*tn + 1) ((chr b bn (pn + 3)) - (nI 48))) (6*tn + 2) (-1)) (6*tn + 3) (-1)) (6*tn + 4) (-1)) (6*tn + 5) (-1))) (nI (tn + 1))) S hK hP (fun _ h => List.mem_cons_of_mem _ (List.mem_append_right _ (h))) 8 (by decide) (List.mem_cons_of_mem _ (List.mem_append_left _ (List.mem_of_getElem? (i := 0) rfl))) rfl rfl rfl rfl rfl rfl rfl rfl rfl hS (fun _ h => h) dX7_isReturn_137 (fun H locs hP zH fH hS => ?_)
            refine lv_iload_n hx hb dX7_isReturn_140 rfl (lv_at hl 2 rfl) ?_
            exact k_bretM hx hb hr hlk dX7_isReturn_141 rfl hS (show md E o z (w_td (w_rd (w_pl w (nI (irT b bn pn tn (q_rd w)).1)) (irT b bn pn tn (q_rd w)).2.2) (nI (tn + 1))) _ from (by rw [show irT b bn pn tn (q_rd w) = _ from (iF_f (fun h => h d11_pn)).trans ((iF_f (fun h => h d20_pn1)).trans ((iF_f (fun h => h d29_pn2)).trans ((iF_f (fun h => h d40_pn3)).trans (iF_t d59_pn4))))]; exact hP)) (congrArg (fun y9 => nI y9.2.1) (show irT b bn pn tn (q_rd w) = _ from (iF_f (fun h => h d11_pn)).trans ((iF_f (fun h => h d20_pn1)).trans ((iF_f (fun h => h d29_pn2)).trans ((iF_f (fun h => h d40_pn3)).trans (iF_t d59_pn4))))))
        · refine k_VM (As := [.int (nI (6*tn + 1)), .int (nI 3)]) (rest := []) S hK (c_X7_digit_f l E o z (w_pl (w_rd w (upd (q_rd w) (6*tn) ((chr b bn (pn + 1)) - (nI 48)))) (nI ((pn + 2) + 1))) b bn (pn + 3) (6*tn + 1) (nI 3) hbf hbm hbn rfl (by omega) (by omega) d40_pn3) gX7_isReturn_X7_digit rfl hd_X7_digit ⟨rfl, rfl⟩ ⟨Nat.le_of_ble_eq_true rfl, Nat.le_of_ble_eq_true rfl⟩ (k_recv hK hP.1 rfl) hP rfl hl.1 rfl (Nat.le_of_ble_eq_true rfl) dX7_isReturn_40 ⟨Nat.le_of_ble_eq_true rfl, Nat.le_of_ble_eq_true rfl⟩ hS (fun q h => h) (fun q h => h) (fun H locs hQ zH fH hS => ?_)
          have hP := hQ
          have hP : md E o z (w_pl (w_rd w (upd (upd (q_rd w) (6*tn) ((chr b bn (pn + 1)) - (nI 48))) (6*tn + 1) ((chr b bn (pn + 3)) - (nI 48)))) (nI ((pn + 3)))) H := hP
          refine lv_if_eq (tgt := 50) hx hb dX7_isReturn_43 (by decide) (fun c43 => ?_) (fun h => absurd h (by decide))
          refine lv_iconst (v := nI 0) hx hb dX7_isReturn_50 (by decide) ?_
          refine lv_istore_n (lv' := [(2, .int (nI 0)), (1, .int (nI (6*tn))), (0, .ref o)]) hx hb dX7_isReturn_51 rfl hl (by decide) rfl (fun ls hl => ?_)
          refine lv_iload_n hx hb dX7_isReturn_52 rfl (lv_at hl 0 rfl) ?_
          refine lv_if_eq (tgt := 69) hx hb dX7_isReturn_53 (by decide) (fun c53 => ?_) (fun h => absurd h (by decide))
          refine lv_iconst (v := nI 0) hx hb dX7_isReturn_69 (by decide) ?_
          refine lv_istore_n (lv' := [(3, .int (nI 0)), (2, .int (nI 0)), (1, .int (nI (6*tn))), (0, .ref o)]) hx hb dX7_isReturn_70 rfl hl (by decide) rfl (fun ls hl => ?_)
          refine lv_iconst (v := nI 0) hx hb dX7_isReturn_71 (by decide) ?_
          refine lv_istore (lv' := [(4, .int (nI 0)), (3, .int (nI 0)), (2, .int (nI 0)), (1, .int (nI (6*tn))), (0, .ref o)]) hx hb dX7_isReturn_72 hl (by decide) rfl (fun ls hl => ?_)
          refine lv_iload hx hb dX7_isReturn_74 (lv_at hl 0 rfl) ?_
          refine lv_iconst (v := nI 4) hx hb dX7_isReturn_76 (by decide) ?_
          refine n_ige (tgt := 130) hx hb dX7_isReturn_77 (by decide) (by omega) (by omega) (fun h => absurd h (by decide)) (fun c77 => ?_)
          refine lv_iload_n hx hb dX7_isReturn_80 rfl (lv_at hl 1 rfl) ?_
          refine lv_if_eq (tgt := 112) hx hb dX7_isReturn_81 (by decide) (fun c81 => ?_) (fun h => absurd h (by decide))
          refine lv_aload_n hx hb dX7_isReturn_112 rfl (lv_at hl 4 rfl) ?_
          refine k_get S hK hP.1 rfl (fun _ h => List.mem_cons_of_mem _ (List.mem_append_right _ (h))) 9 (by decide) (List.mem_cons_of_mem _ (List.mem_append_left _ (List.mem_of_getElem? (i := 1) rfl))) rfl (v := .ref (o + 5)) rfl dX7_isReturn_113 ?_
          refine lv_iload_n hx hb dX7_isReturn_116 rfl (lv_at hl 3 rfl) ?_
          refine lv_iconst (v := nI 2) hx hb dX7_isReturn_117 (by decide) ?_
          refine n_iadd (n := 6*tn + 2) hx hb dX7_isReturn_118 (by omega) ?_
          refine lv_iload hx hb dX7_isReturn_119 (lv_at hl 0 rfl) ?_
          refine n_iadd (n := 6*tn + 2) hx hb dX7_isReturn_121 (by omega) ?_
          refine lv_iconst (v := (-1)) hx hb dX7_isReturn_122 (by decide) ?_
          refine md_ast_rd hx hb hK hP (by omega) hS (fun _ h => h) dX7_isReturn_123 (fun H locs hP zH fH hS => ?_)
          refine lv_iinc (v := nI 1) (lv' := [(4, .int (nI 1)), (3, .int (nI 0)), (2, .int (nI 0)), (1, .int (nI (6*tn))), (0, .ref o)]) hx hb dX7_isReturn_124 hl (k := 0) rfl (by decide) (by decide) rfl (fun ls hl => ?_)
          refine lv_goto (tgt := 74) hx hb dX7_isReturn_127 (by decide) ?_
          refine lv_iload hx hb dX7_isReturn_74 (lv_at hl 0 rfl) ?_
          refine lv_iconst (v := nI 4) hx hb dX7_isReturn_76 (by decide) ?_
          refine n_ige (tgt := 130) hx hb dX7_isReturn_77 (by decide) (by omega) (by omega) (fun h => absurd h (by decide)) (fun c77_1 => ?_)
          refine lv_iload_n hx hb dX7_isReturn_80 rfl (lv_at hl 1 rfl) ?_
          refine lv_if_eq (tgt := 112) hx hb dX7_isReturn_81 (by decide) (fun c81_1 => ?_) (fun h => absurd h (by decide))
          refine lv_aload_n hx hb dX7_isReturn_112 rfl (lv_at hl 4 rfl) ?_
          refine k_get S hK hP.1 rfl (fun _ h => List.mem_cons_of_mem _ (List.mem_append_right _ (h))) 9 (by decide) (List.mem_cons_of_mem _ (List.mem_append_left _ (List.mem_of_getElem? (i := 1) rfl))) rfl (v := .ref (o + 5)) rfl dX7_isReturn_113 ?_
          refine lv_iload_n hx hb dX7_isReturn_116 rfl (lv_at hl 3 rfl) ?_
          refine lv_iconst (v := nI 2) hx hb dX7_isReturn_117 (by decide) ?_
          refine n_iadd (n := 6*tn + 2) hx hb dX7_isReturn_118 (by omega) ?_
          refine lv_iload hx hb dX7_isReturn_119 (lv_at hl 0 rfl) ?_
          refine n_iadd (n := 6*tn + 3) hx hb dX7_isReturn_121 (by omega) ?_
          refine lv_iconst (v := (-1)) hx hb dX7_isReturn_122 (by decide) ?_
          refine md_ast_rd hx hb hK hP (by omega) hS (fun _ h => h) dX7_isReturn_123 (fun H locs hP zH fH hS => ?_)
          refine lv_iinc (v := nI 2) (lv' := [(4, .int (nI 2)), (3, .int (nI 0)), (2, .int (nI 0)), (1, .int (nI (6*tn))), (0, .ref o)]) hx hb dX7_isReturn_124 hl (k := 0) rfl (by decide) (by decide) rfl (fun ls hl => ?_)
          refine lv_goto (tgt := 74) hx hb dX7_isReturn_127 (by decide) ?_
          refine lv_iload hx hb dX7_isReturn_74 (lv_at hl 0 rfl) ?_
          refine lv_iconst (v := nI 4) hx hb dX7_isReturn_76 (by decide) ?_
          refine n_ige (tgt := 130) hx hb dX7_isReturn_77 (by decide) (by omega) (by omega) (fun h => absurd h (by decide)) (fun c77_2 => ?_)
          refine lv_iload_n hx hb dX7_isReturn_80 rfl (lv_at hl 1 rfl) ?_
          refine lv_if_eq (tgt := 112) hx hb dX7_isReturn_81 (by decide) (fun c81_2 => ?_) (fun h => absurd h (by decide))
          refine lv_aload_n hx hb dX7_isReturn_112 rfl (lv_at hl 4 rfl) ?_
          refine k_get S hK hP.1 rfl (fun _ h => List.mem_cons_of_mem _ (List.mem_append_right _ (h))) 9 (by decide) (List.mem_cons_of_mem _ (List.mem_append_left _ (List.mem_of_getElem? (i := 1) rfl))) rfl (v := .ref (o + 5)) rfl dX7_isReturn_113 ?_
          refine lv_iload_n hx hb dX7_isReturn_116 rfl (lv_at hl 3 rfl) ?_
          refine lv_iconst (v := nI 2) hx hb dX7_isReturn_117 (by decide) ?_
          refine n_iadd (n := 6*tn + 2) hx hb dX7_isReturn_118 (by omega) ?_
          refine lv_iload hx hb dX7_isReturn_119 (lv_at hl 0 rfl) ?_
          refine n_iadd (n := 6*tn + 4) hx hb dX7_isReturn_121 (by omega) ?_
          refine lv_iconst (v := (-1)) hx hb dX7_isReturn_122 (by decide) ?_
          refine md_ast_rd hx hb hK hP (by omega) hS (fun _ h => h) dX7_isReturn_123 (fun H locs hP zH fH hS => ?_)
          refine lv_iinc (v := nI 3) (lv' := [(4, .int (nI 3)), (3, .int (nI 0)), (2, .int (nI 0)), (1, .int (nI (6*tn))), (0, .ref o)]) hx hb dX7_isReturn_124 hl (k := 0) rfl (by decide) (by decide) rfl (fun ls hl => ?_)
          refine lv_goto (tgt := 74) hx hb dX7_isReturn_127 (by decide) ?_
          refine lv_iload hx hb dX7_isReturn_74 (lv_at hl 0 rfl) ?_
          refine lv_iconst (v := nI 4) hx hb dX7_isReturn_76 (by decide) ?_
          refine n_ige (tgt := 130) hx hb dX7_isReturn_77 (by decide) (by omega) (by omega) (fun h => absurd h (by decide)) (fun c77_3 => ?_)
          refine lv_iload_n hx hb dX7_isReturn_80 rfl (lv_at hl 1 rfl) ?_
          refine lv_if_eq (tgt := 112) hx hb dX7_isReturn_81 (by decide) (fun c81_3 => ?_) (fun h => absurd h (by decide))
          refine lv_aload_n hx hb dX7_isReturn_112 rfl (lv_at hl 4 rfl) ?_
          refine k_get S hK hP.1 rfl (fun _ h => List.mem_cons_of_mem _ (List.mem_append_right _ (h))) 9 (by decide) (List.mem_cons_of_mem _ (List.mem_append_left _ (List.mem_of_getElem? (i := 1) rfl))) rfl (v := .ref (o + 5)) rfl dX7_isReturn_113 ?_
          refine lv_iload_n hx hb dX7_isReturn_116 rfl (lv_at hl 3 rfl) ?_
          refine lv_iconst (v := nI 2) hx hb dX7_isReturn_117 (by decide) ?_
          refine n_iadd (n := 6*tn + 2) hx hb dX7_isReturn_118 (by omega) ?_
          refine lv_iload hx hb dX7_isReturn_119 (lv_at hl 0 rfl) ?_
          refine n_iadd (n := 6*tn + 5) hx hb dX7_isReturn_121 (by omega) ?_
          refine lv_iconst (v := (-1)) hx hb dX7_isReturn_122 (by decide) ?_
          refine md_ast_rd hx hb hK hP (by omega) hS (fun _ h => h) dX7_isReturn_123 (fun H locs hP zH fH hS => ?_)
          refine lv_iinc (v := nI 4) (lv' := [(4, .int (nI 4)), (3, .int (nI 0)), (2, .int (nI 0)), (1, .int (nI (6*tn))), (0, .ref o)]) hx hb dX7_isReturn_124 hl (k := 0) rfl (by decide) (by decide) rfl (fun ls hl => ?_)
          refine lv_goto (tgt := 74) hx hb dX7_isReturn_127 (by decide) ?_
          refine lv_iload hx hb dX7_isReturn_74 (lv_at hl 0 rfl) ?_
          refine lv_iconst (v := nI 4) hx hb dX7_isReturn_76 (by decide) ?_
          refine n_ige (tgt := 130) hx hb dX7_isReturn_77 (by decide) (by omega) (by omega) (fun c77_4 => ?_) (fun h => absurd h (by decide))
          refine lv_aload_n hx hb dX7_isReturn_130 rfl (lv_at hl 4 rfl) ?_
          refine lv_dup hx hb dX7_isReturn_131 rfl ?_
          refine k_get S hK hP.1 rfl (fun _ h => List.mem_cons_of_mem _ (List.mem_append_right _ (h))) 8 (by decide) (List.mem_cons_of_mem _ (List.mem_append_left _ (List.mem_of_getElem? (i := 0) rfl))) rfl (v := .int (nI tn)) (congrArg (fun x => some (Value.int x)) (htd)) dX7_isReturn_132 ?_
          refine lv_iconst (v := nI 1) hx hb dX7_isReturn_135 (by decide) ?_
          refine n_iadd (n := tn + 1) hx hb dX7_isReturn_136 (by omega) ?_
          refine md_put (w' := w_td (w_rd (w_rd (w_rd (w_rd (w_pl (w_rd w (upd (upd (q_rd w) (6*tn) ((chr b bn (pn + 1)) - (nI 48))) (6*tn + 1) ((chr b bn (pn + 3)) - (nI 48)))) (nI ((pn + 3)))) (upd (upd (upd (q_rd w) (6*tn) ((chr b bn (pn + 1)) - (nI 48))) (6*tn + 1) ((chr b bn (pn + 3)) - (nI 48))) (6*tn + 2) (-1))) (upd (upd (upd (upd (q_rd w) (6*tn) ((chr b bn (pn + 1)) - (nI 48))) (6*tn + 1) ((chr b bn (pn + 3)) - (nI 48))) (6*tn + 2) (-1)) (6*tn + 3) (-1))) (upd (upd (upd (upd (upd (q_rd w) (6*tn) ((chr b bn (pn + 1)) - (nI 48))) (6*tn + 1) ((chr b bn (pn + 3)) - (nI 48))) (6*tn + 2) (-1)) (6*tn + 3) (-1)) (6*tn + 4) (-1))) (upd (upd (upd (upd (upd (upd (q_rd w) (6*tn) ((chr b bn (pn + 1)) - (nI 48))) (6*tn + 1) ((chr b bn (pn + 3)) - (nI 48))) (6*tn + 2) (-1)) (6*tn + 3) (-1)) (6*tn + 4) (-1)) (6*tn + 5) (-1))) (nI (tn + 1))) S hK hP (fun _ h => List.mem_cons_of_mem _ (List.mem_append_right _ (h))) 8 (by decide) (List.mem_cons_of_mem _ (List.mem_append_left _ (List.mem_of_getElem? (i := 0) rfl))) rfl rfl rfl rfl rfl rfl rfl rfl rfl hS (fun _ h => h) dX7_isReturn_137 (fun H locs hP zH fH hS => ?_)
          refine lv_iload_n hx hb dX7_isReturn_140 rfl (lv_at hl 2 rfl) ?_
          exact k_bretM hx hb hr hlk dX7_isReturn_141 rfl hS (show md E o z (w_td (w_rd (w_pl w (nI (irT b bn pn tn (q_rd w)).1)) (irT b bn pn tn (q_rd w)).2.2) (nI (tn + 1))) _ from (by rw [show irT b bn pn tn (q_rd w) = _ from (iF_f (fun h => h d11_pn)).trans ((iF_f (fun h => h d20_pn1)).trans ((iF_f (fun h => h d29_pn2)).trans (iF_t d40_pn3)))]; exact hP)) (congrArg (fun y9 => nI y9.2.1) (show irT b bn pn tn (q_rd w) = _ from (iF_f (fun h => h d11_pn)).trans ((iF_f (fun h => h d20_pn1)).trans ((iF_f (fun h => h d29_pn2)).trans (iF_t d40_pn3)))))
      · refine k_VM (As := [.int (nI 114)]) (rest := []) S hK (c_X7_takes_f l E o z (w_pl (w_rd w (upd (q_rd w) (6*tn) ((chr b bn (pn + 1)) - (nI 48)))) (nI ((pn + 1) + 1))) b bn (pn + 2) (nI 114) hbf hbm hbn rfl (by omega) (by omega)) gX7_isReturn_X7_takes rfl hd_X7_takes ⟨rfl, rfl⟩ ⟨Nat.le_of_ble_eq_true rfl, Nat.le_of_ble_eq_true rfl⟩ (k_recv hK hP.1 rfl) hP rfl hl.1 rfl (Nat.le_of_ble_eq_true rfl) dX7_isReturn_29 ⟨Nat.le_of_ble_eq_true rfl, Nat.le_of_ble_eq_true rfl⟩ hS (fun q h => h) (fun q h => h) (fun H locs hQ zH fH hS => ?_)
        have hP := hQ
        have hP : md E o z (w_pl (w_rd w (upd (q_rd w) (6*tn) ((chr b bn (pn + 1)) - (nI 48)))) (nI (pn + 2))) H := hP
        refine lv_if_eq (tgt := 50) hx hb dX7_isReturn_32 (by decide) (fun c32 => ?_) (fun h => absurd h (by decide))
        refine lv_iconst (v := nI 0) hx hb dX7_isReturn_50 (by decide) ?_
        refine lv_istore_n (lv' := [(2, .int (nI 0)), (1, .int (nI (6*tn))), (0, .ref o)]) hx hb dX7_isReturn_51 rfl hl (by decide) rfl (fun ls hl => ?_)
        refine lv_iload_n hx hb dX7_isReturn_52 rfl (lv_at hl 0 rfl) ?_
        refine lv_if_eq (tgt := 69) hx hb dX7_isReturn_53 (by decide) (fun c53 => ?_) (fun h => absurd h (by decide))
        refine lv_iconst (v := nI 0) hx hb dX7_isReturn_69 (by decide) ?_
        refine lv_istore_n (lv' := [(3, .int (nI 0)), (2, .int (nI 0)), (1, .int (nI (6*tn))), (0, .ref o)]) hx hb dX7_isReturn_70 rfl hl (by decide) rfl (fun ls hl => ?_)
        refine lv_iconst (v := nI 0) hx hb dX7_isReturn_71 (by decide) ?_
        refine lv_istore (lv' := [(4, .int (nI 0)), (3, .int (nI 0)), (2, .int (nI 0)), (1, .int (nI (6*tn))), (0, .ref o)]) hx hb dX7_isReturn_72 hl (by decide) rfl (fun ls hl => ?_)
        refine lv_iload hx hb dX7_isReturn_74 (lv_at hl 0 rfl) ?_
        refine lv_iconst (v := nI 4) hx hb dX7_isReturn_76 (by decide) ?_
        refine n_ige (tgt := 130) hx hb dX7_isReturn_77 (by decide) (by omega) (by omega) (fun h => absurd h (by decide)) (fun c77 => ?_)
        refine lv_iload_n hx hb dX7_isReturn_80 rfl (lv_at hl 1 rfl) ?_
        refine lv_if_eq (tgt := 112) hx hb dX7_isReturn_81 (by decide) (fun c81 => ?_) (fun h => absurd h (by decide))
        refine lv_aload_n hx hb dX7_isReturn_112 rfl (lv_at hl 4 rfl) ?_
        refine k_get S hK hP.1 rfl (fun _ h => List.mem_cons_of_mem _ (List.mem_append_right _ (h))) 9 (by decide) (List.mem_cons_of_mem _ (List.mem_append_left _ (List.mem_of_getElem? (i := 1) rfl))) rfl (v := .ref (o + 5)) rfl dX7_isReturn_113 ?_
        refine lv_iload_n hx hb dX7_isReturn_116 rfl (lv_at hl 3 rfl) ?_
        refine lv_iconst (v := nI 2) hx hb dX7_isReturn_117 (by decide) ?_
        refine n_iadd (n := 6*tn + 2) hx hb dX7_isReturn_118 (by omega) ?_
        refine lv_iload hx hb dX7_isReturn_119 (lv_at hl 0 rfl) ?_
        refine n_iadd (n := 6*tn + 2) hx hb dX7_isReturn_121 (by omega) ?_
        refine lv_iconst (v := (-1)) hx hb dX7_isReturn_122 (by decide) ?_
        refine md_ast_rd hx hb hK hP (by omega) hS (fun _ h => h) dX7_isReturn_123 (fun H locs hP zH fH hS => ?_)
        refine lv_iinc (v := nI 1) (lv' := [(4, .int (nI 1)), (3, .int (nI 0)), (2, .int (nI 0)), (1, .int (nI (6*tn))), (0, .ref o)]) hx hb dX7_isReturn_124 hl (k := 0) rfl (by decide) (by decide) rfl (fun ls hl => ?_)
        refine lv_goto (tgt := 74) hx hb dX7_isReturn_127 (by decide) ?_
        refine lv_iload hx hb dX7_isReturn_74 (lv_at hl 0 rfl) ?_
        refine lv_iconst (v := nI 4) hx hb dX7_isReturn_76 (by decide) ?_
        refine n_ige (tgt := 130) hx hb dX7_isReturn_77 (by decide) (by omega) (by omega) (fun h => absurd h (by decide)) (fun c77_1 => ?_)
        refine lv_iload_n hx hb dX7_isReturn_80 rfl (lv_at hl 1 rfl) ?_
        refine lv_if_eq (tgt := 112) hx hb dX7_isReturn_81 (by decide) (fun c81_1 => ?_) (fun h => absurd h (by decide))
        refine lv_aload_n hx hb dX7_isReturn_112 rfl (lv_at hl 4 rfl) ?_
        refine k_get S hK hP.1 rfl (fun _ h => List.mem_cons_of_mem _ (List.mem_append_right _ (h))) 9 (by decide) (List.mem_cons_of_mem _ (List.mem_append_left _ (List.mem_of_getElem? (i := 1) rfl))) rfl (v := .ref (o + 5)) rfl dX7_isReturn_113 ?_
        refine lv_iload_n hx hb dX7_isReturn_116 rfl (lv_at hl 3 rfl) ?_
        refine lv_iconst (v := nI 2) hx hb dX7_isReturn_117 (by decide) ?_
        refine n_iadd (n := 6*tn + 2) hx hb dX7_isReturn_118 (by omega) ?_
        refine lv_iload hx hb dX7_isReturn_119 (lv_at hl 0 rfl) ?_
        refine n_iadd (n := 6*tn + 3) hx hb dX7_isReturn_121 (by omega) ?_
        refine lv_iconst (v := (-1)) hx hb dX7_isReturn_122 (by decide) ?_
        refine md_ast_rd hx hb hK hP (by omega) hS (fun _ h => h) dX7_isReturn_123 (fun H locs hP zH fH hS => ?_)
        refine lv_iinc (v := nI 2) (lv' := [(4, .int (nI 2)), (3, .int (nI 0)), (2, .int (nI 0)), (1, .int (nI (6*tn))), (0, .ref o)]) hx hb dX7_isReturn_124 hl (k := 0) rfl (by decide) (by decide) rfl (fun ls hl => ?_)
        refine lv_goto (tgt := 74) hx hb dX7_isReturn_127 (by decide) ?_
        refine lv_iload hx hb dX7_isReturn_74 (lv_at hl 0 rfl) ?_
        refine lv_iconst (v := nI 4) hx hb dX7_isReturn_76 (by decide) ?_
        refine n_ige (tgt := 130) hx hb dX7_isReturn_77 (by decide) (by omega) (by omega) (fun h => absurd h (by decide)) (fun c77_2 => ?_)
        refine lv_iload_n hx hb dX7_isReturn_80 rfl (lv_at hl 1 rfl) ?_
        refine lv_if_eq (tgt := 112) hx hb dX7_isReturn_81 (by decide) (fun c81_2 => ?_) (fun h => absurd h (by decide))
        refine lv_aload_n hx hb dX7_isReturn_112 rfl (lv_at hl 4 rfl) ?_
        refine k_get S hK hP.1 rfl (fun _ h => List.mem_cons_of_mem _ (List.mem_append_right _ (h))) 9 (by decide) (List.mem_cons_of_mem _ (List.mem_append_left _ (List.mem_of_getElem? (i := 1) rfl))) rfl (v := .ref (o + 5)) rfl dX7_isReturn_113 ?_
        refine lv_iload_n hx hb dX7_isReturn_116 rfl (lv_at hl 3 rfl) ?_
        refine lv_iconst (v := nI 2) hx hb dX7_isReturn_117 (by decide) ?_
        refine n_iadd (n := 6*tn + 2) hx hb dX7_isReturn_118 (by omega) ?_
        refine lv_iload hx hb dX7_isReturn_119 (lv_at hl 0 rfl) ?_
        refine n_iadd (n := 6*tn + 4) hx hb dX7_isReturn_121 (by omega) ?_
        refine lv_iconst (v := (-1)) hx hb dX7_isReturn_122 (by decide) ?_
        refine md_ast_rd hx hb hK hP (by omega) hS (fun _ h => h) dX7_isReturn_123 (fun H locs hP zH fH hS => ?_)
        refine lv_iinc (v := nI 3) (lv' := [(4, .int (nI 3)), (3, .int (nI 0)), (2, .int (nI 0)), (1, .int (nI (6*tn))), (0, .ref o)]) hx hb dX7_isReturn_124 hl (k := 0) rfl (by decide) (by decide) rfl (fun ls hl => ?_)
        refine lv_goto (tgt := 74) hx hb dX7_isReturn_127 (by decide) ?_
        refine lv_iload hx hb dX7_isReturn_74 (lv_at hl 0 rfl) ?_
        refine lv_iconst (v := nI 4) hx hb dX7_isReturn_76 (by decide) ?_
        refine n_ige (tgt := 130) hx hb dX7_isReturn_77 (by decide) (by omega) (by omega) (fun h => absurd h (by decide)) (fun c77_3 => ?_)
        refine lv_iload_n hx hb dX7_isReturn_80 rfl (lv_at hl 1 rfl) ?_
        refine lv_if_eq (tgt := 112) hx hb dX7_isReturn_81 (by decide) (fun c81_3 => ?_) (fun h => absurd h (by decide))
        refine lv_aload_n hx hb dX7_isReturn_112 rfl (lv_at hl 4 rfl) ?_
        refine k_get S hK hP.1 rfl (fun _ h => List.mem_cons_of_mem _ (List.mem_append_right _ (h))) 9 (by decide) (List.mem_cons_of_mem _ (List.mem_append_left _ (List.mem_of_getElem? (i := 1) rfl))) rfl (v := .ref (o + 5)) rfl dX7_isReturn_113 ?_
        refine lv_iload_n hx hb dX7_isReturn_116 rfl (lv_at hl 3 rfl) ?_
        refine lv_iconst (v := nI 2) hx hb dX7_isReturn_117 (by decide) ?_
        refine n_iadd (n := 6*tn + 2) hx hb dX7_isReturn_118 (by omega) ?_
        refine lv_iload hx hb dX7_isReturn_119 (lv_at hl 0 rfl) ?_
        refine n_iadd (n := 6*tn + 5) hx hb dX7_isReturn_121 (by omega) ?_
        refine lv_iconst (v := (-1)) hx hb dX7_isReturn_122 (by decide) ?_
        refine md_ast_rd hx hb hK hP (by omega) hS (fun _ h => h) dX7_isReturn_123 (fun H locs hP zH fH hS => ?_)
        refine lv_iinc (v := nI 4) (lv' := [(4, .int (nI 4)), (3, .int (nI 0)), (2, .int (nI 0)), (1, .int (nI (6*tn))), (0, .ref o)]) hx hb dX7_isReturn_124 hl (k := 0) rfl (by decide) (by decide) rfl (fun ls hl => ?_)
        refine lv_goto (tgt := 74) hx hb dX7_isReturn_127 (by decide) ?_
        refine lv_iload hx hb dX7_isReturn_74 (lv_at hl 0 rfl) ?_
        refine lv_iconst (v := nI 4) hx hb dX7_isReturn_76 (by decide) ?_
        refine n_ige (tgt := 130) hx hb dX7_isReturn_77 (by decide) (by omega) (by omega) (fun c77_4 => ?_) (fun h => absurd h (by decide))
        refine lv_aload_n hx hb dX7_isReturn_130 rfl (lv_at hl 4 rfl) ?_
        refine lv_dup hx hb dX7_isReturn_131 rfl ?_
        refine k_get S hK hP.1 rfl (fun _ h => List.mem_cons_of_mem _ (List.mem_append_right _ (h))) 8 (by decide) (List.mem_cons_of_mem _ (List.mem_append_left _ (List.mem_of_getElem? (i := 0) rfl))) rfl (v := .int (nI tn)) (congrArg (fun x => some (Value.int x)) (htd)) dX7_isReturn_132 ?_
        refine lv_iconst (v := nI 1) hx hb dX7_isReturn_135 (by decide) ?_
        refine n_iadd (n := tn + 1) hx hb dX7_isReturn_136 (by omega) ?_
        refine md_put (w' := w_td (w_rd (w_rd (w_rd (w_rd (w_pl (w_rd w (upd (q_rd w) (6*tn) ((chr b bn (pn + 1)) - (nI 48)))) (nI (pn + 2))) (upd (upd (q_rd w) (6*tn) ((chr b bn (pn + 1)) - (nI 48))) (6*tn + 2) (-1))) (upd (upd (upd (q_rd w) (6*tn) ((chr b bn (pn + 1)) - (nI 48))) (6*tn + 2) (-1)) (6*tn + 3) (-1))) (upd (upd (upd (upd (q_rd w) (6*tn) ((chr b bn (pn + 1)) - (nI 48))) (6*tn + 2) (-1)) (6*tn + 3) (-1)) (6*tn + 4) (-1))) (upd (upd (upd (upd (upd (q_rd w) (6*tn) ((chr b bn (pn + 1)) - (nI 48))) (6*tn + 2) (-1)) (6*tn + 3) (-1)) (6*tn + 4) (-1)) (6*tn + 5) (-1))) (nI (tn + 1))) S hK hP (fun _ h => List.mem_cons_of_mem _ (List.mem_append_right _ (h))) 8 (by decide) (List.mem_cons_of_mem _ (List.mem_append_left _ (List.mem_of_getElem? (i := 0) rfl))) rfl rfl rfl rfl rfl rfl rfl rfl rfl hS (fun _ h => h) dX7_isReturn_137 (fun H locs hP zH fH hS => ?_)
        refine lv_iload_n hx hb dX7_isReturn_140 rfl (lv_at hl 2 rfl) ?_
        exact k_bretM hx hb hr hlk dX7_isReturn_141 rfl hS (show md E o z (w_td (w_rd (w_pl w (nI (irT b bn pn tn (q_rd w)).1)) (irT b bn pn tn (q_rd w)).2.2) (nI (tn + 1))) _ from (by rw [show irT b bn pn tn (q_rd w) = _ from (iF_f (fun h => h d11_pn)).trans ((iF_f (fun h => h d20_pn1)).trans (iF_t d29_pn2))]; exact hP)) (congrArg (fun y9 => nI y9.2.1) (show irT b bn pn tn (q_rd w) = _ from (iF_f (fun h => h d11_pn)).trans ((iF_f (fun h => h d20_pn1)).trans (iF_t d29_pn2))))
    · refine k_VM (As := [.int (nI (6*tn)), .int (nI 5)]) (rest := []) S hK (c_X7_digit_f l E o z (w_pl w (nI (pn + 1))) b bn (pn + 1) (6*tn) (nI 5) hbf hbm hbn rfl (by omega) (by omega) d20_pn1) gX7_isReturn_X7_digit rfl hd_X7_digit ⟨rfl, rfl⟩ ⟨Nat.le_of_ble_eq_true rfl, Nat.le_of_ble_eq_true rfl⟩ (k_recv hK hP.1 rfl) hP rfl hl.1 rfl (Nat.le_of_ble_eq_true rfl) dX7_isReturn_20 ⟨Nat.le_of_ble_eq_true rfl, Nat.le_of_ble_eq_true rfl⟩ hS (fun q h => h) (fun q h => h) (fun H locs hQ zH fH hS => ?_)
      have hP := hQ
      have hP : md E o z (w_pl (w_rd w (upd (q_rd w) (6*tn) ((chr b bn (pn + 1)) - (nI 48)))) (nI ((pn + 1)))) H := hP
      refine lv_if_eq (tgt := 50) hx hb dX7_isReturn_23 (by decide) (fun c23 => ?_) (fun h => absurd h (by decide))
      refine lv_iconst (v := nI 0) hx hb dX7_isReturn_50 (by decide) ?_
      refine lv_istore_n (lv' := [(2, .int (nI 0)), (1, .int (nI (6*tn))), (0, .ref o)]) hx hb dX7_isReturn_51 rfl hl (by decide) rfl (fun ls hl => ?_)
      refine lv_iload_n hx hb dX7_isReturn_52 rfl (lv_at hl 0 rfl) ?_
      refine lv_if_eq (tgt := 69) hx hb dX7_isReturn_53 (by decide) (fun c53 => ?_) (fun h => absurd h (by decide))
      refine lv_iconst (v := nI 0) hx hb dX7_isReturn_69 (by decide) ?_
      refine lv_istore_n (lv' := [(3, .int (nI 0)), (2, .int (nI 0)), (1, .int (nI (6*tn))), (0, .ref o)]) hx hb dX7_isReturn_70 rfl hl (by decide) rfl (fun ls hl => ?_)
      refine lv_iconst (v := nI 0) hx hb dX7_isReturn_71 (by decide) ?_
      refine lv_istore (lv' := [(4, .int (nI 0)), (3, .int (nI 0)), (2, .int (nI 0)), (1, .int (nI (6*tn))), (0, .ref o)]) hx hb dX7_isReturn_72 hl (by decide) rfl (fun ls hl => ?_)
      refine lv_iload hx hb dX7_isReturn_74 (lv_at hl 0 rfl) ?_
      refine lv_iconst (v := nI 4) hx hb dX7_isReturn_76 (by decide) ?_
      refine n_ige (tgt := 130) hx hb dX7_isReturn_77 (by decide) (by omega) (by omega) (fun h => absurd h (by decide)) (fun c77 => ?_)
      refine lv_iload_n hx hb dX7_isReturn_80 rfl (lv_at hl 1 rfl) ?_
      refine lv_if_eq (tgt := 112) hx hb dX7_isReturn_81 (by decide) (fun c81 => ?_) (fun h => absurd h (by decide))
      refine lv_aload_n hx hb dX7_isReturn_112 rfl (lv_at hl 4 rfl) ?_
      refine k_get S hK hP.1 rfl (fun _ h => List.mem_cons_of_mem _ (List.mem_append_right _ (h))) 9 (by decide) (List.mem_cons_of_mem _ (List.mem_append_left _ (List.mem_of_getElem? (i := 1) rfl))) rfl (v := .ref (o + 5)) rfl dX7_isReturn_113 ?_
      refine lv_iload_n hx hb dX7_isReturn_116 rfl (lv_at hl 3 rfl) ?_
      refine lv_iconst (v := nI 2) hx hb dX7_isReturn_117 (by decide) ?_
      refine n_iadd (n := 6*tn + 2) hx hb dX7_isReturn_118 (by omega) ?_
      refine lv_iload hx hb dX7_isReturn_119 (lv_at hl 0 rfl) ?_
      refine n_iadd (n := 6*tn + 2) hx hb dX7_isReturn_121 (by omega) ?_
      refine lv_iconst (v := (-1)) hx hb dX7_isReturn_122 (by decide) ?_
      refine md_ast_rd hx hb hK hP (by omega) hS (fun _ h => h) dX7_isReturn_123 (fun H locs hP zH fH hS => ?_)
      refine lv_iinc (v := nI 1) (lv' := [(4, .int (nI 1)), (3, .int (nI 0)), (2, .int (nI 0)), (1, .int (nI (6*tn))), (0, .ref o)]) hx hb dX7_isReturn_124 hl (k := 0) rfl (by decide) (by decide) rfl (fun ls hl => ?_)
      refine lv_goto (tgt := 74) hx hb dX7_isReturn_127 (by decide) ?_
      refine lv_iload hx hb dX7_isReturn_74 (lv_at hl 0 rfl) ?_
      refine lv_iconst (v := nI 4) hx hb dX7_isReturn_76 (by decide) ?_
      refine n_ige (tgt := 130) hx hb dX7_isReturn_77 (by decide) (by omega) (by omega) (fun h => absurd h (by decide)) (fun c77_1 => ?_)
      refine lv_iload_n hx hb dX7_isReturn_80 rfl (lv_at hl 1 rfl) ?_
      refine lv_if_eq (tgt := 112) hx hb dX7_isReturn_81 (by decide) (fun c81_1 => ?_) (fun h => absurd h (by decide))
      refine lv_aload_n hx hb dX7_isReturn_112 rfl (lv_at hl 4 rfl) ?_
      refine k_get S hK hP.1 rfl (fun _ h => List.mem_cons_of_mem _ (List.mem_append_right _ (h))) 9 (by decide) (List.mem_cons_of_mem _ (List.mem_append_left _ (List.mem_of_getElem? (i := 1) rfl))) rfl (v := .ref (o + 5)) rfl dX7_isReturn_113 ?_
      refine lv_iload_n hx hb dX7_isReturn_116 rfl (lv_at hl 3 rfl) ?_
      refine lv_iconst (v := nI 2) hx hb dX7_isReturn_117 (by decide) ?_
      refine n_iadd (n := 6*tn + 2) hx hb dX7_isReturn_118 (by omega) ?_
      refine lv_iload hx hb dX7_isReturn_119 (lv_at hl 0 rfl) ?_
      refine n_iadd (n := 6*tn + 3) hx hb dX7_isReturn_121 (by omega) ?_
      refine lv_iconst (v := (-1)) hx hb dX7_isReturn_122 (by decide) ?_
      refine md_ast_rd hx hb hK hP (by omega) hS (fun _ h => h) dX7_isReturn_123 (fun H locs hP zH fH hS => ?_)
      refine lv_iinc (v := nI 2) (lv' := [(4, .int (nI 2)), (3, .int (nI 0)), (2, .int (nI 0)), (1, .int (nI (6*tn))), (0, .ref o)]) hx hb dX7_isReturn_124 hl (k := 0) rfl (by decide) (by decide) rfl (fun ls hl => ?_)
      refine lv_goto (tgt := 74) hx hb dX7_isReturn_127 (by decide) ?_
      refine lv_iload hx hb dX7_isReturn_74 (lv_at hl 0 rfl) ?_
      refine lv_iconst (v := nI 4) hx hb dX7_isReturn_76 (by decide) ?_
      refine n_ige (tgt := 130) hx hb dX7_isReturn_77 (by decide) (by omega) (by omega) (fun h => absurd h (by decide)) (fun c77_2 => ?_)
      refine lv_iload_n hx hb dX7_isReturn_80 rfl (lv_at hl 1 rfl) ?_
      refine lv_if_eq (tgt := 112) hx hb dX7_isReturn_81 (by decide) (fun c81_2 => ?_) (fun h => absurd h (by decide))
      refine lv_aload_n hx hb dX7_isReturn_112 rfl (lv_at hl 4 rfl) ?_
      refine k_get S hK hP.1 rfl (fun _ h => List.mem_cons_of_mem _ (List.mem_append_right _ (h))) 9 (by decide) (List.mem_cons_of_mem _ (List.mem_append_left _ (List.mem_of_getElem? (i := 1) rfl))) rfl (v := .ref (o + 5)) rfl dX7_isReturn_113 ?_
      refine lv_iload_n hx hb dX7_isReturn_116 rfl (lv_at hl 3 rfl) ?_
      refine lv_iconst (v := nI 2) hx hb dX7_isReturn_117 (by decide) ?_
      refine n_iadd (n := 6*tn + 2) hx hb dX7_isReturn_118 (by omega) ?_
      refine lv_iload hx hb dX7_isReturn_119 (lv_at hl 0 rfl) ?_
      refine n_iadd (n := 6*tn + 4) hx hb dX7_isReturn_121 (by omega) ?_
      refine lv_iconst (v := (-1)) hx hb dX7_isReturn_122 (by decide) ?_
      refine md_ast_rd hx hb hK hP (by omega) hS (fun _ h => h) dX7_isReturn_123 (fun H locs hP zH fH hS => ?_)
      refine lv_iinc (v := nI 3) (lv' := [(4, .int (nI 3)), (3, .int (nI 0)), (2, .int (nI 0)), (1, .int (nI (6*tn))), (0, .ref o)]) hx hb dX7_isReturn_124 hl (k := 0) rfl (by decide) (by decide) rfl (fun ls hl => ?_)
      refine lv_goto (tgt := 74) hx hb dX7_isReturn_127 (by decide) ?_
      refine lv_iload hx hb dX7_isReturn_74 (lv_at hl 0 rfl) ?_
      refine lv_iconst (v := nI 4) hx hb dX7_isReturn_76 (by decide) ?_
      refine n_ige (tgt := 130) hx hb dX7_isReturn_77 (by decide) (by omega) (by omega) (fun h => absurd h (by decide)) (fun c77_3 => ?_)
      refine lv_iload_n hx hb dX7_isReturn_80 rfl (lv_at hl 1 rfl) ?_
      refine lv_if_eq (tgt := 112) hx hb dX7_isReturn_81 (by decide) (fun c81_3 => ?_) (fun h => absurd h (by decide))
      refine lv_aload_n hx hb dX7_isReturn_112 rfl (lv_at hl 4 rfl) ?_
      refine k_get S hK hP.1 rfl (fun _ h => List.mem_cons_of_mem _ (List.mem_append_right _ (h))) 9 (by decide) (List.mem_cons_of_mem _ (List.mem_append_left _ (List.mem_of_getElem? (i := 1) rfl))) rfl (v := .ref (o + 5)) rfl dX7_isReturn_113 ?_
      refine lv_iload_n hx hb dX7_isReturn_116 rfl (lv_at hl 3 rfl) ?_
      refine lv_iconst (v := nI 2) hx hb dX7_isReturn_117 (by decide) ?_
      refine n_iadd (n := 6*tn + 2) hx hb dX7_isReturn_118 (by omega) ?_
      refine lv_iload hx hb dX7_isReturn_119 (lv_at hl 0 rfl) ?_
      refine n_iadd (n := 6*tn + 5) hx hb dX7_isReturn_121 (by omega) ?_
      refine lv_iconst (v := (-1)) hx hb dX7_isReturn_122 (by decide) ?_
      refine md_ast_rd hx hb hK hP (by omega) hS (fun _ h => h) dX7_isReturn_123 (fun H locs hP zH fH hS => ?_)
      refine lv_iinc (v := nI 4) (lv' := [(4, .int (nI 4)), (3, .int (nI 0)), (2, .int (nI 0)), (1, .int (nI (6*tn))), (0, .ref o)]) hx hb dX7_isReturn_124 hl (k := 0) rfl (by decide) (by decide) rfl (fun ls hl => ?_)
      refine lv_goto (tgt := 74) hx hb dX7_isReturn_127 (by decide) ?_
      refine lv_iload hx hb dX7_isReturn_74 (lv_at hl 0 rfl) ?_
      refine lv_iconst (v := nI 4) hx hb dX7_isReturn_76 (by decide) ?_
      refine n_ige (tgt := 130) hx hb dX7_isReturn_77 (by decide) (by omega) (by omega) (fun c77_4 => ?_) (fun h => absurd h (by decide))
      refine lv_aload_n hx hb dX7_isReturn_130 rfl (lv_at hl 4 rfl) ?_
      refine lv_dup hx hb dX7_isReturn_131 rfl ?_
      refine k_get S hK hP.1 rfl (fun _ h => List.mem_cons_of_mem _ (List.mem_append_right _ (h))) 8 (by decide) (List.mem_cons_of_mem _ (List.mem_append_left _ (List.mem_of_getElem? (i := 0) rfl))) rfl (v := .int (nI tn)) (congrArg (fun x => some (Value.int x)) (htd)) dX7_isReturn_132 ?_
      refine lv_iconst (v := nI 1) hx hb dX7_isReturn_135 (by decide) ?_
      refine n_iadd (n := tn + 1) hx hb dX7_isReturn_136 (by omega) ?_
      refine md_put (w' := w_td (w_rd (w_rd (w_rd (w_rd (w_pl (w_rd w (upd (q_rd w) (6*tn) ((chr b bn (pn + 1)) - (nI 48)))) (nI ((pn + 1)))) (upd (upd (q_rd w) (6*tn) ((chr b bn (pn + 1)) - (nI 48))) (6*tn + 2) (-1))) (upd (upd (upd (q_rd w) (6*tn) ((chr b bn (pn + 1)) - (nI 48))) (6*tn + 2) (-1)) (6*tn + 3) (-1))) (upd (upd (upd (upd (q_rd w) (6*tn) ((chr b bn (pn + 1)) - (nI 48))) (6*tn + 2) (-1)) (6*tn + 3) (-1)) (6*tn + 4) (-1))) (upd (upd (upd (upd (upd (q_rd w) (6*tn) ((chr b bn (pn + 1)) - (nI 48))) (6*tn + 2) (-1)) (6*tn + 3) (-1)) (6*tn + 4) (-1)) (6*tn + 5) (-1))) (nI (tn + 1))) S hK hP (fun _ h => List.mem_cons_of_mem _ (List.mem_append_right _ (h))) 8 (by decide) (List.mem_cons_of_mem _ (List.mem_append_left _ (List.mem_of_getElem? (i := 0) rfl))) rfl rfl rfl rfl rfl rfl rfl rfl rfl hS (fun _ h => h) dX7_isReturn_137 (fun H locs hP zH fH hS => ?_)
      refine lv_iload_n hx hb dX7_isReturn_140 rfl (lv_at hl 2 rfl) ?_
      exact k_bretM hx hb hr hlk dX7_isReturn_141 rfl hS (show md E o z (w_td (w_rd (w_pl w (nI (irT b bn pn tn (q_rd w)).1)) (irT b bn pn tn (q_rd w)).2.2) (nI (tn + 1))) _ from (by rw [show irT b bn pn tn (q_rd w) = _ from (iF_f (fun h => h d11_pn)).trans (iF_t d20_pn1)]; exact hP)) (congrArg (fun y9 => nI y9.2.1) (show irT b bn pn tn (q_rd w) = _ from (iF_f (fun h => h d11_pn)).trans (iF_t d20_pn1)))
  · refine k_VM (As := [.int (nI 112)]) (rest := []) S hK (c_X7_takes_f l E o z w b bn pn (nI 112) hbf hbm hbn hpl hpn (by omega)) gX7_isReturn_X7_takes rfl hd_X7_takes ⟨rfl, rfl⟩ ⟨Nat.le_of_ble_eq_true rfl, Nat.le_of_ble_eq_true rfl⟩ (k_recv hK hP.1 rfl) hP rfl hl.1 rfl (Nat.le_of_ble_eq_true rfl) dX7_isReturn_11 ⟨Nat.le_of_ble_eq_true rfl, Nat.le_of_ble_eq_true rfl⟩ hS (fun q h => h) (fun q h => h) (fun H locs hQ zH fH hS => ?_)
    have hP := hQ
    refine lv_if_eq (tgt := 50) hx hb dX7_isReturn_14 (by decide) (fun c14 => ?_) (fun h => absurd h (by decide))
    refine lv_iconst (v := nI 0) hx hb dX7_isReturn_50 (by decide) ?_
    refine lv_istore_n (lv' := [(2, .int (nI 0)), (1, .int (nI (6*tn))), (0, .ref o)]) hx hb dX7_isReturn_51 rfl hl (by decide) rfl (fun ls hl => ?_)
    refine lv_iload_n hx hb dX7_isReturn_52 rfl (lv_at hl 0 rfl) ?_
    refine lv_if_eq (tgt := 69) hx hb dX7_isReturn_53 (by decide) (fun c53 => ?_) (fun h => absurd h (by decide))
    refine lv_iconst (v := nI 0) hx hb dX7_isReturn_69 (by decide) ?_
    refine lv_istore_n (lv' := [(3, .int (nI 0)), (2, .int (nI 0)), (1, .int (nI (6*tn))), (0, .ref o)]) hx hb dX7_isReturn_70 rfl hl (by decide) rfl (fun ls hl => ?_)
    refine lv_iconst (v := nI 0) hx hb dX7_isReturn_71 (by decide) ?_
    refine lv_istore (lv' := [(4, .int (nI 0)), (3, .int (nI 0)), (2, .int (nI 0)), (1, .int (nI (6*tn))), (0, .ref o)]) hx hb dX7_isReturn_72 hl (by decide) rfl (fun ls hl => ?_)
    refine lv_iload hx hb dX7_isReturn_74 (lv_at hl 0 rfl) ?_
    refine lv_iconst (v := nI 4) hx hb dX7_isReturn_76 (by decide) ?_
    refine n_ige (tgt := 130) hx hb dX7_isReturn_77 (by decide) (by omega) (by omega) (fun h => absurd h (by decide)) (fun c77 => ?_)
    refine lv_iload_n hx hb dX7_isReturn_80 rfl (lv_at hl 1 rfl) ?_
    refine lv_if_eq (tgt := 112) hx hb dX7_isReturn_81 (by decide) (fun c81 => ?_) (fun h => absurd h (by decide))
    refine lv_aload_n hx hb dX7_isReturn_112 rfl (lv_at hl 4 rfl) ?_
    refine k_get S hK hP.1 rfl (fun _ h => List.mem_cons_of_mem _ (List.mem_append_right _ (h))) 9 (by decide) (List.mem_cons_of_mem _ (List.mem_append_left _ (List.mem_of_getElem? (i := 1) rfl))) rfl (v := .ref (o + 5)) rfl dX7_isReturn_113 ?_
    refine lv_iload_n hx hb dX7_isReturn_116 rfl (lv_at hl 3 rfl) ?_
    refine lv_iconst (v := nI 2) hx hb dX7_isReturn_117 (by decide) ?_
    refine n_iadd (n := 6*tn + 2) hx hb dX7_isReturn_118 (by omega) ?_
    refine lv_iload hx hb dX7_isReturn_119 (lv_at hl 0 rfl) ?_
    refine n_iadd (n := 6*tn + 2) hx hb dX7_isReturn_121 (by omega) ?_
    refine lv_iconst (v := (-1)) hx hb dX7_isReturn_122 (by decide) ?_
    refine md_ast_rd hx hb hK hP (by omega) hS (fun _ h => h) dX7_isReturn_123 (fun H locs hP zH fH hS => ?_)
    refine lv_iinc (v := nI 1) (lv' := [(4, .int (nI 1)), (3, .int (nI 0)), (2, .int (nI 0)), (1, .int (nI (6*tn))), (0, .ref o)]) hx hb dX7_isReturn_124 hl (k := 0) rfl (by decide) (by decide) rfl (fun ls hl => ?_)
    refine lv_goto (tgt := 74) hx hb dX7_isReturn_127 (by decide) ?_
    refine lv_iload hx hb dX7_isReturn_74 (lv_at hl 0 rfl) ?_
    refine lv_iconst (v := nI 4) hx hb dX7_isReturn_76 (by decide) ?_
    refine n_ige (tgt := 130) hx hb dX7_isReturn_77 (by decide) (by omega) (by omega) (fun h => absurd h (by decide)) (fun c77_1 => ?_)
    refine lv_iload_n hx hb dX7_isReturn_80 rfl (lv_at hl 1 rfl) ?_
    refine lv_if_eq (tgt := 112) hx hb dX7_isReturn_81 (by decide) (fun c81_1 => ?_) (fun h => absurd h (by decide))
    refine lv_aload_n hx hb dX7_isReturn_112 rfl (lv_at hl 4 rfl) ?_
    refine k_get S hK hP.1 rfl (fun _ h => List.mem_cons_of_mem _ (List.mem_append_right _ (h))) 9 (by decide) (List.mem_cons_of_mem _ (List.mem_append_left _ (List.mem_of_getElem? (i := 1) rfl))) rfl (v := .ref (o + 5)) rfl dX7_isReturn_113 ?_
    refine lv_iload_n hx hb dX7_isReturn_116 rfl (lv_at hl 3 rfl) ?_
    refine lv_iconst (v := nI 2) hx hb dX7_isReturn_117 (by decide) ?_
    refine n_iadd (n := 6*tn + 2) hx hb dX7_isReturn_118 (by omega) ?_
    refine lv_iload hx hb dX7_isReturn_119 (lv_at hl 0 rfl) ?_
    refine n_iadd (n := 6*tn + 3) hx hb dX7_isReturn_121 (by omega) ?_
    refine lv_iconst (v := (-1)) hx hb dX7_isReturn_122 (by decide) ?_
    refine md_ast_rd hx hb hK hP (by omega) hS (fun _ h => h) dX7_isReturn_123 (fun H locs hP zH fH hS => ?_)
    refine lv_iinc (v := nI 2) (lv' := [(4, .int (nI 2)), (3, .int (nI 0)), (2, .int (nI 0)), (1, .int (nI (6*tn))), (0, .ref o)]) hx hb dX7_isReturn_124 hl (k := 0) rfl (by decide) (by decide) rfl (fun ls hl => ?_)
    refine lv_goto (tgt := 74) hx hb dX7_isReturn_127 (by decide) ?_
    refine lv_iload hx hb dX7_isReturn_74 (lv_at hl 0 rfl) ?_
    refine lv_iconst (v := nI 4) hx hb dX7_isReturn_76 (by decide) ?_
    refine n_ige (tgt := 130) hx hb dX7_isReturn_77 (by decide) (by omega) (by omega) (fun h => absurd h (by decide)) (fun c77_2 => ?_)
    refine lv_iload_n hx hb dX7_isReturn_80 rfl (lv_at hl 1 rfl) ?_
    refine lv_if_eq (tgt := 112) hx hb dX7_isReturn_81 (by decide) (fun c81_2 => ?_) (fun h => absurd h (by decide))
    refine lv_aload_n hx hb dX7_isReturn_112 rfl (lv_at hl 4 rfl) ?_
    refine k_get S hK hP.1 rfl (fun _ h => List.mem_cons_of_mem _ (List.mem_append_right _ (h))) 9 (by decide) (List.mem_cons_of_mem _ (List.mem_append_left _ (List.mem_of_getElem? (i := 1) rfl))) rfl (v := .ref (o + 5)) rfl dX7_isReturn_113 ?_
    refine lv_iload_n hx hb dX7_isReturn_116 rfl (lv_at hl 3 rfl) ?_
    refine lv_iconst (v := nI 2) hx hb dX7_isReturn_117 (by decide) ?_
    refine n_iadd (n := 6*tn + 2) hx hb dX7_isReturn_118 (by omega) ?_
    refine lv_iload hx hb dX7_isReturn_119 (lv_at hl 0 rfl) ?_
    refine n_iadd (n := 6*tn + 4) hx hb dX7_isReturn_121 (by omega) ?_
    refine lv_iconst (v := (-1)) hx hb dX7_isReturn_122 (by decide) ?_
    refine md_ast_rd hx hb hK hP (by omega) hS (fun _ h => h) dX7_isReturn_123 (fun H locs hP zH fH hS => ?_)
    refine lv_iinc (v := nI 3) (lv' := [(4, .int (nI 3)), (3, .int (nI 0)), (2, .int (nI 0)), (1, .int (nI (6*tn))), (0, .ref o)]) hx hb dX7_isReturn_124 hl (k := 0) rfl (by decide) (by decide) rfl (fun ls hl => ?_)
    refine lv_goto (tgt := 74) hx hb dX7_isReturn_127 (by decide) ?_
    refine lv_iload hx hb dX7_isReturn_74 (lv_at hl 0 rfl) ?_
    refine lv_iconst (v := nI 4) hx hb dX7_isReturn_76 (by decide) ?_
    refine n_ige (tgt := 130) hx hb dX7_isReturn_77 (by decide) (by omega) (by omega) (fun h => absurd h (by decide)) (fun c77_3 => ?_)
    refine lv_iload_n hx hb dX7_isReturn_80 rfl (lv_at hl 1 rfl) ?_
    refine lv_if_eq (tgt := 112) hx hb dX7_isReturn_81 (by decide) (fun c81_3 => ?_) (fun h => absurd h (by decide))
    refine lv_aload_n hx hb dX7_isReturn_112 rfl (lv_at hl 4 rfl) ?_
    refine k_get S hK hP.1 rfl (fun _ h => List.mem_cons_of_mem _ (List.mem_append_right _ (h))) 9 (by decide) (List.mem_cons_of_mem _ (List.mem_append_left _ (List.mem_of_getElem? (i := 1) rfl))) rfl (v := .ref (o + 5)) rfl dX7_isReturn_113 ?_
    refine lv_iload_n hx hb dX7_isReturn_116 rfl (lv_at hl 3 rfl) ?_
    refine lv_iconst (v := nI 2) hx hb dX7_isReturn_117 (by decide) ?_
    refine n_iadd (n := 6*tn + 2) hx hb dX7_isReturn_118 (by omega) ?_
    refine lv_iload hx hb dX7_isReturn_119 (lv_at hl 0 rfl) ?_
    refine n_iadd (n := 6*tn + 5) hx hb dX7_isReturn_121 (by omega) ?_
    refine lv_iconst (v := (-1)) hx hb dX7_isReturn_122 (by decide) ?_
    refine md_ast_rd hx hb hK hP (by omega) hS (fun _ h => h) dX7_isReturn_123 (fun H locs hP zH fH hS => ?_)
    refine lv_iinc (v := nI 4) (lv' := [(4, .int (nI 4)), (3, .int (nI 0)), (2, .int (nI 0)), (1, .int (nI (6*tn))), (0, .ref o)]) hx hb dX7_isReturn_124 hl (k := 0) rfl (by decide) (by decide) rfl (fun ls hl => ?_)
    refine lv_goto (tgt := 74) hx hb dX7_isReturn_127 (by decide) ?_
    refine lv_iload hx hb dX7_isReturn_74 (lv_at hl 0 rfl) ?_
    refine lv_iconst (v := nI 4) hx hb dX7_isReturn_76 (by decide) ?_
    refine n_ige (tgt := 130) hx hb dX7_isReturn_77 (by decide) (by omega) (by omega) (fun c77_4 => ?_) (fun h => absurd h (by decide))
    refine lv_aload_n hx hb dX7_isReturn_130 rfl (lv_at hl 4 rfl) ?_
    refine lv_dup hx hb dX7_isReturn_131 rfl ?_
    refine k_get S hK hP.1 rfl (fun _ h => List.mem_cons_of_mem _ (List.mem_append_right _ (h))) 8 (by decide) (List.mem_cons_of_mem _ (List.mem_append_left _ (List.mem_of_getElem? (i := 0) rfl))) rfl (v := .int (nI tn)) (congrArg (fun x => some (Value.int x)) (htd)) dX7_isReturn_132 ?_
    refine lv_iconst (v := nI 1) hx hb dX7_isReturn_135 (by decide) ?_
    refine n_iadd (n := tn + 1) hx hb dX7_isReturn_136 (by omega) ?_
    refine md_put (w' := w_td (w_rd (w_rd (w_rd (w_rd (w_pl w (nI pn)) (upd (q_rd w) (6*tn + 2) (-1))) (upd (upd (q_rd w) (6*tn + 2) (-1)) (6*tn + 3) (-1))) (upd (upd (upd (q_rd w) (6*tn + 2) (-1)) (6*tn + 3) (-1)) (6*tn + 4) (-1))) (upd (upd (upd (upd (q_rd w) (6*tn + 2) (-1)) (6*tn + 3) (-1)) (6*tn + 4) (-1)) (6*tn + 5) (-1))) (nI (tn + 1))) S hK hP (fun _ h => List.mem_cons_of_mem _ (List.mem_append_right _ (h))) 8 (by decide) (List.mem_cons_of_mem _ (List.mem_append_left _ (List.mem_of_getElem? (i := 0) rfl))) rfl rfl rfl rfl rfl rfl rfl rfl rfl hS (fun _ h => h) dX7_isReturn_137 (fun H locs hP zH fH hS => ?_)
    refine lv_iload_n hx hb dX7_isReturn_140 rfl (lv_at hl 2 rfl) ?_
    exact k_bretM hx hb hr hlk dX7_isReturn_141 rfl hS (show md E o z (w_td (w_rd (w_pl w (nI (irT b bn pn tn (q_rd w)).1)) (irT b bn pn tn (q_rd w)).2.2) (nI (tn + 1))) _ from (by rw [show irT b bn pn tn (q_rd w) = _ from iF_t d11_pn]; exact hP)) (congrArg (fun y9 => nI y9.2.1) (show irT b bn pn tn (q_rd w) = _ from iF_t d11_pn))
