def rm_X7_areReturns : Room := { frames := 3, cells := 0, slots := 0, locals := 70 }
theorem hd_X7_areReturns : k_hd1 yX7_areReturns RX7 0 := by decide +kernel
set_option maxHeartbeats 4000000 in
set_option maxRecDepth 100000 in
theorem c_X7_areReturns (l : Launch) (E : ke_E) (o : Nat) (z : Nat → Int32) (w : md_w) (b : Nat → Int32) (bn : Nat) (hbf : q_buf w = b) (hbm : q_bm w = nI bn) (hbn : bn ≤ 60) : Met l yX7_areReturns wsX7_areReturns rm_X7_areReturns (kp E [.ref o] (md E o z w)) (qm (some (.int (bI (arG b bn (q_rd w))))) (bl o 6) (md E o z (w_td (w_pl (w_rd w (arT b bn (q_rd w) (arK b bn (q_rd w))).2.2) (nI (arT b bn (q_rd w) (arK b bn (q_rd w))).1)) (nI ((arK b bn (q_rd w)) + 1))))) 0 0 (bl o 6) := by
  refine k_hd (cc := cX7_areReturns) (maxL := 2) (ret := (some .boolean)) (by decide) rfl (Nat.le_of_ble_eq_true rfl) ?_
  intro p e s m below meth c ls S hr hlk hnm hK hP hl
  have hx := S.1
  have hb := S.2.1
  have hts := S.2.2.2.2
  have hP : md E o z w s.heap := hP
  have hl : lv_has ls 2 [(0, .ref o)] := hl
  have hS : va_S (bl o 6) s.heap s.heap [] := va_S.rf
  have J15 : ∀ (n_ : Nat), ∀ (k : Nat), arB b bn (q_rd w) k → arF b bn (q_rd w) (13 - k) k = (arK b bn (q_rd w)) → 13 - k < n_ → ∀ (H : Heap) (locs : List Loc), md E o z (w_td (w_pl (w_rd w (arT b bn (q_rd w) k).2.2) (nI (arT b bn (q_rd w) k).1)) (nI (k + 1))) H → va_S (bl o 6) s.heap H locs → ∀ (ls : Array Slot), lv_has ls 2 [(0, .ref o), (1, .int (nI ((arT b bn (q_rd w) k).2.1)))] → W p l e (headSpec wsX7_areReturns rm_X7_areReturns).room s m ([.ref o] : List Value).toArray below meth c H locs 0 0 (MQ below (qm (some (.int (bI (arG b bn (q_rd w))))) (bl o 6) (md E o z (w_td (w_pl (w_rd w (arT b bn (q_rd w) (arK b bn (q_rd w))).2.2) (nI (arT b bn (q_rd w) (arK b bn (q_rd w))).1)) (nI ((arK b bn (q_rd w)) + 1))))) ([.ref o] : List Value).toArray s 0 0 (bl o 6)) (F0 m 15 ls []) := by
    intro n_
    induction n_ with
    | zero =>
      intro k hB hKq hn_ _ _ _ _ _ _
      exact absurd hn_ (by omega)
    | succ n_ ih =>
      intro k hB hKq hn_ H locs hW0 hS ls hl
      have hk13 : k < 13 := by have e1 := hB.1; have e2 := hB.2.1; omega
      have hpl9 := hB.2.1
      rcases hB.2.2 with hf | ⟨hf, h4⟩
      · have hl : lv_has ls 2 [(0, .ref o), (1, .int (nI 0))] := by have h9 := hl; rw [hf] at h9; exact h9
        have hKk : (arK b bn (q_rd w)) = k := hKq.symm.trans (arF_n (fun q => absurd (hf.symm.trans q.1) (by decide)))
        refine lv_iload_n hx hb dX7_areReturns_15 rfl (lv_at hl 1 rfl) ?_
        refine lv_if_eq (tgt := 36) hx hb dX7_areReturns_16 (by decide) (fun c16 => ?_) (fun h => absurd h (by decide))
        refine lv_iload_n hx hb dX7_areReturns_36 rfl (lv_at hl 1 rfl) ?_
        refine lv_if_eq (tgt := 55) hx hb dX7_areReturns_37 (by decide) (fun c37 => ?_) (fun h => absurd h (by decide))
        refine lv_iconst (v := nI 0) hx hb dX7_areReturns_55 (by decide) ?_
        exact k_bretM hx hb hr hlk dX7_areReturns_56 rfl hS (show md E o z (w_td (w_pl (w_rd w (arT b bn (q_rd w) (arK b bn (q_rd w))).2.2) (nI (arT b bn (q_rd w) (arK b bn (q_rd w))).1)) (nI ((arK b bn (q_rd w)) + 1))) _ from (by rw [hKk]; exact hW0)) (bI_f (by unfold arG; rw [hKk]; exact fun q => absurd (hf.symm.trans q.1) (by decide)))
      · have hl : lv_has ls 2 [(0, .ref o), (1, .int (nI 1))] := by have h9 := hl; rw [hf] at h9; exact h9
        refine lv_iload_n hx hb dX7_areReturns_15 rfl (lv_at hl 1 rfl) ?_
        refine lv_if_eq (tgt := 36) hx hb dX7_areReturns_16 (by decide) (fun h => absurd h (by decide)) (fun c16 => ?_)
        rcases Classical.em (chr b bn (arT b bn (q_rd w) k).1 = nI 59) with h59 | h59
        · have hlt := chr_lt h59 (by decide) (by decide)
          have hC9 : arC b bn (q_rd w) k := ⟨hf, h59⟩
          have hBs := arB_s hB hC9
          refine lv_aload_n hx hb dX7_areReturns_19 rfl (lv_at hl 0 rfl) ?_
          refine lv_bipush (v := nI 59) hx hb dX7_areReturns_20 (by decide) ?_
          refine k_VM (As := [.int (nI 59)]) (rest := []) S hK (c_X7_takes_t l E o z (w_td (w_pl (w_rd w (arT b bn (q_rd w) k).2.2) (nI (arT b bn (q_rd w) k).1)) (nI (k + 1))) b bn (arT b bn (q_rd w) k).1 (nI 59) hbf hbm hbn rfl (by omega) (by omega)) gX7_areReturns_X7_takes rfl hd_X7_takes ⟨rfl, rfl⟩ ⟨Nat.le_of_ble_eq_true rfl, Nat.le_of_ble_eq_true rfl⟩ (k_recv hK hW0.1 rfl) hW0 rfl hl.1 rfl (Nat.le_of_ble_eq_true rfl) dX7_areReturns_22 ⟨Nat.le_of_ble_eq_true rfl, Nat.le_of_ble_eq_true rfl⟩ hS (fun q h => h) (fun q h => h) (fun H locs hQ zH fH hS => ?_)
          have hP := hQ
          have hP : md E o z (w_td (w_pl (w_rd w (arT b bn (q_rd w) k).2.2) (nI ((arT b bn (q_rd w) k).1 + 1))) (nI (k + 1))) H := hP
          refine lv_if_eq (tgt := 36) hx hb dX7_areReturns_25 (by decide) (fun h => absurd h (by decide)) (fun c25 => ?_)
          refine lv_aload_n hx hb dX7_areReturns_28 rfl (lv_at hl 0 rfl) ?_
          refine k_VM (As := []) (rest := []) S hK (c_X7_isReturn l E o z (w_td (w_pl (w_rd w (arT b bn (q_rd w) k).2.2) (nI ((arT b bn (q_rd w) k).1 + 1))) (nI (k + 1))) b bn ((arT b bn (q_rd w) k).1 + 1) (k + 1) hbf hbm hbn rfl (by omega) rfl (by omega)) gX7_areReturns_X7_isReturn rfl hd_X7_isReturn ⟨rfl, rfl⟩ ⟨Nat.le_of_ble_eq_true rfl, Nat.le_of_ble_eq_true rfl⟩ (k_recv hK hP.1 rfl) hP rfl hl.1 rfl (Nat.le_of_ble_eq_true rfl) dX7_areReturns_29 ⟨Nat.le_of_ble_eq_true rfl, Nat.le_of_ble_eq_true rfl⟩ hS (fun q h => h) (fun q h => h) (fun H locs hQ zH fH hS => ?_)
          have hP := hQ
          have hP : md E o z (w_td (w_pl (w_rd w (irT b bn ((arT b bn (q_rd w) k).1 + 1) (k + 1) (arT b bn (q_rd w) k).2.2).2.2) (nI (irT b bn ((arT b bn (q_rd w) k).1 + 1) (k + 1) (arT b bn (q_rd w) k).2.2).1)) (nI ((k + 1) + 1))) H := hP
          refine lv_istore_n (lv' := [(1, .int (nI ((irT b bn ((arT b bn (q_rd w) k).1 + 1) (k + 1) (arT b bn (q_rd w) k).2.2).2.1))), (0, .ref o)]) hx hb dX7_areReturns_32 rfl hl (by decide) rfl (fun ls hl => ?_)
          refine lv_goto (tgt := 15) hx hb dX7_areReturns_33 (by decide) ?_
          have hl : lv_has ls 2 [(0, .ref o), (1, .int (nI ((arT b bn (q_rd w) (k + 1)).2.1)))] := by
            have h9 := lv_sub (l' := [(0, .ref o), (1, .int (nI ((irT b bn ((arT b bn (q_rd w) k).1 + 1) (k + 1) (arT b bn (q_rd w) k).2.2).2.1)))]) hl [1, 0] rfl
            rw [show (.int (nI ((arT b bn (q_rd w) (k + 1)).2.1)) : Value) = .int (nI ((irT b bn ((arT b bn (q_rd w) k).1 + 1) (k + 1) (arT b bn (q_rd w) k).2.2).2.1)) from congrArg Value.int rfl]
            exact h9
          exact ih (k + 1) hBs.1 ((arF_s hC9 hk13).symm.trans hKq) (by omega) _ _ (show md E o z (w_td (w_pl (w_rd w (arT b bn (q_rd w) (k + 1)).2.2) (nI (arT b bn (q_rd w) (k + 1)).1)) (nI ((k + 1) + 1))) _ from hP) hS _ hl
        · have hKk : (arK b bn (q_rd w)) = k := hKq.symm.trans (arF_n (fun q => h59 q.2))
          refine lv_aload_n hx hb dX7_areReturns_19 rfl (lv_at hl 0 rfl) ?_
          refine lv_bipush (v := nI 59) hx hb dX7_areReturns_20 (by decide) ?_
          refine k_VM (As := [.int (nI 59)]) (rest := []) S hK (c_X7_takes_f l E o z (w_td (w_pl (w_rd w (arT b bn (q_rd w) k).2.2) (nI (arT b bn (q_rd w) k).1)) (nI (k + 1))) b bn (arT b bn (q_rd w) k).1 (nI 59) hbf hbm hbn rfl (by omega) (by omega)) gX7_areReturns_X7_takes rfl hd_X7_takes ⟨rfl, rfl⟩ ⟨Nat.le_of_ble_eq_true rfl, Nat.le_of_ble_eq_true rfl⟩ (k_recv hK hW0.1 rfl) hW0 rfl hl.1 rfl (Nat.le_of_ble_eq_true rfl) dX7_areReturns_22 ⟨Nat.le_of_ble_eq_true rfl, Nat.le_of_ble_eq_true rfl⟩ hS (fun q h => h) (fun q h => h) (fun H locs hQ zH fH hS => ?_)
          have hP := hQ
          have hP : md E o z (w_td (w_pl (w_rd w (arT b bn (q_rd w) k).2.2) (nI (arT b bn (q_rd w) k).1)) (nI (k + 1))) H := hP
          refine lv_if_eq (tgt := 36) hx hb dX7_areReturns_25 (by decide) (fun c25 => ?_) (fun h => absurd h (by decide))
          refine lv_iload_n hx hb dX7_areReturns_36 rfl (lv_at hl 1 rfl) ?_
          refine lv_if_eq (tgt := 55) hx hb dX7_areReturns_37 (by decide) (fun h => absurd h (by decide)) (fun c37 => ?_)
          refine lv_aload_n hx hb dX7_areReturns_40 rfl (lv_at hl 0 rfl) ?_
          refine k_get S hK hP.1 rfl (fun _ h => List.mem_cons_of_mem _ (List.mem_append_right _ (h))) 7 (by decide) (List.mem_cons_of_mem _ (List.mem_append_left _ (List.mem_append_left _ (List.mem_of_getElem? (i := 0) rfl)))) rfl (v := .int (nI ((arT b bn (q_rd w) k).1))) rfl dX7_areReturns_41 ?_
          refine lv_aload_n hx hb dX7_areReturns_44 rfl (lv_at hl 0 rfl) ?_
          refine k_get S hK hP.1 rfl (fun _ h => List.mem_cons_of_mem _ (List.mem_append_right _ (h))) 5 (by decide) (List.mem_cons_of_mem _ (List.mem_append_left _ (List.mem_append_left _ (List.mem_of_getElem? (i := 2) rfl)))) rfl (v := .int (nI bn)) (congrArg (fun x => some (Value.int x)) (hbm)) dX7_areReturns_45 ?_
          refine n_ine (tgt := 55) hx hb dX7_areReturns_48 (by decide) (by omega) (by omega) (fun c48 => ?_) (fun c48 => ?_)
          · refine lv_iconst (v := nI 0) hx hb dX7_areReturns_55 (by decide) ?_
            exact k_bretM hx hb hr hlk dX7_areReturns_56 rfl hS (show md E o z (w_td (w_pl (w_rd w (arT b bn (q_rd w) (arK b bn (q_rd w))).2.2) (nI (arT b bn (q_rd w) (arK b bn (q_rd w))).1)) (nI ((arK b bn (q_rd w)) + 1))) _ from (by rw [hKk]; exact hP)) (bI_f (by unfold arG; rw [hKk]; exact fun q => c48 q.2))
          · refine lv_iconst (v := nI 1) hx hb dX7_areReturns_51 (by decide) ?_
            refine lv_goto (tgt := 56) hx hb dX7_areReturns_52 (by decide) ?_
            exact k_bretM hx hb hr hlk dX7_areReturns_56 rfl hS (show md E o z (w_td (w_pl (w_rd w (arT b bn (q_rd w) (arK b bn (q_rd w))).2.2) (nI (arT b bn (q_rd w) (arK b bn (q_rd w))).1)) (nI ((arK b bn (q_rd w)) + 1))) _ from (by rw [hKk]; exact hP)) (bI_t (by unfold arG; rw [hKk]; exact ⟨hf, c48⟩))
  refine lv_aload_n hx hb dX7_areReturns_0 rfl (lv_at hl 0 rfl) ?_
  refine lv_iconst (v := nI 0) hx hb dX7_areReturns_1 (by decide) ?_
  refine md_put (w' := w_pl w (nI 0)) S hK hP (fun _ h => List.mem_cons_of_mem _ (List.mem_append_right _ (h))) 7 (by decide) (List.mem_cons_of_mem _ (List.mem_append_left _ (List.mem_append_left _ (List.mem_of_getElem? (i := 0) rfl)))) rfl rfl rfl rfl rfl rfl rfl rfl rfl hS (fun _ h => h) dX7_areReturns_2 (fun H locs hP zH fH hS => ?_)
  refine lv_aload_n hx hb dX7_areReturns_5 rfl (lv_at hl 0 rfl) ?_
  refine lv_iconst (v := nI 0) hx hb dX7_areReturns_6 (by decide) ?_
  refine md_put (w' := w_td (w_pl w (nI 0)) (nI 0)) S hK hP (fun _ h => List.mem_cons_of_mem _ (List.mem_append_right _ (h))) 8 (by decide) (List.mem_cons_of_mem _ (List.mem_append_left _ (List.mem_append_left _ (List.mem_of_getElem? (i := 1) rfl)))) rfl rfl rfl rfl rfl rfl rfl rfl rfl hS (fun _ h => h) dX7_areReturns_7 (fun H locs hP zH fH hS => ?_)
  refine lv_aload_n hx hb dX7_areReturns_10 rfl (lv_at hl 0 rfl) ?_
  refine k_VM (As := []) (rest := []) S hK (c_X7_isReturn l E o z (w_td (w_pl w (nI 0)) (nI 0)) b bn 0 0 hbf hbm hbn rfl (by omega) rfl (by omega)) gX7_areReturns_X7_isReturn rfl hd_X7_isReturn ⟨rfl, rfl⟩ ⟨Nat.le_of_ble_eq_true rfl, Nat.le_of_ble_eq_true rfl⟩ (k_recv hK hP.1 rfl) hP rfl hl.1 rfl (Nat.le_of_ble_eq_true rfl) dX7_areReturns_11 ⟨Nat.le_of_ble_eq_true rfl, Nat.le_of_ble_eq_true rfl⟩ hS (fun q h => h) (fun q h => h) (fun H locs hQ zH fH hS => ?_)
  have hP := hQ
  have hP : md E o z (w_td (w_pl (w_rd w (irT b bn 0 0 (q_rd w)).2.2) (nI (irT b bn 0 0 (q_rd w)).1)) (nI (0 + 1))) H := hP
  refine lv_istore_n (lv' := [(1, .int (nI ((irT b bn 0 0 (q_rd w)).2.1))), (0, .ref o)]) hx hb dX7_areReturns_14 rfl hl (by decide) rfl (fun ls hl => ?_)
  have hl : lv_has ls 2 [(0, .ref o), (1, .int (nI ((arT b bn (q_rd w) 0).2.1)))] := by
    have h9 := lv_sub (l' := [(0, .ref o), (1, .int (nI ((irT b bn 0 0 (q_rd w)).2.1)))]) hl [1, 0] rfl
    rw [show (.int (nI ((arT b bn (q_rd w) 0).2.1)) : Value) = .int (nI ((irT b bn 0 0 (q_rd w)).2.1)) from congrArg Value.int rfl]
    exact h9
  exact J15 (13 - 0 + 1) 0 arB_0 rfl (by omega) _ _ (show md E o z (w_td (w_pl (w_rd w (arT b bn (q_rd w) 0).2.2) (nI (arT b bn (q_rd w) 0).1)) (nI (0 + 1))) _ from hP) hS _ hl
def rm_X7_firstError : Room := { frames := 4, cells := 0, slots := 0, locals := 91 }
theorem hd_X7_firstError : k_hd1 yX7_firstError RX7 0 := by decide +kernel
set_option maxHeartbeats 4000000 in
set_option maxRecDepth 100000 in
theorem c_X7_firstError (l : Launch) (E : ke_E) (o : Nat) (z : Nat → Int32) (w : md_w) (b : Nat → Int32) (bn : Nat) (hbf : q_buf w = b) (hbm : q_bm w = nI bn) (hbn : bn ≤ 60) : Met l yX7_firstError wsX7_firstError rm_X7_firstError (kp E [.ref o] (md E o z w)) (qm (some (.int (nI ((arT b bn (q_rd w) (arK b bn (q_rd w))).1)))) (bl o 6) (md E o z (w_td (w_pl (w_th (w_rd w (arT b bn (q_rd w) (arK b bn (q_rd w))).2.2) (nI 0)) (nI (arT b bn (q_rd w) (arK b bn (q_rd w))).1)) (nI ((arK b bn (q_rd w)) + 1))))) 0 0 (bl o 6) := by
  refine k_hd (cc := cX7_firstError) (maxL := 1) (ret := (some .int)) (by decide) rfl (Nat.le_of_ble_eq_true rfl) ?_
  intro p e s m below meth c ls S hr hlk hnm hK hP hl
  have hx := S.1
  have hb := S.2.1
  have hts := S.2.2.2.2
  have hP : md E o z w s.heap := hP
  have hl : lv_has ls 1 [(0, .ref o)] := hl
  have hS : va_S (bl o 6) s.heap s.heap [] := va_S.rf
  refine lv_aload_n hx hb dX7_firstError_0 rfl (lv_at hl 0 rfl) ?_
  refine lv_iconst (v := nI 0) hx hb dX7_firstError_1 (by decide) ?_
  refine md_put (w' := w_th w (nI 0)) S hK hP (fun _ h => List.mem_cons_of_mem _ (List.mem_append_right _ (h))) 6 (by decide) (List.mem_cons_of_mem _ (List.mem_append_left _ (List.mem_append_left _ (List.mem_of_getElem? (i := 0) rfl)))) rfl rfl rfl rfl rfl rfl rfl rfl rfl hS (fun _ h => h) dX7_firstError_2 (fun H locs hP zH fH hS => ?_)
  refine lv_aload_n hx hb dX7_firstError_5 rfl (lv_at hl 0 rfl) ?_
  refine k_VM (As := []) (rest := []) S hK (c_X7_areReturns l E o z (w_th w (nI 0)) b bn hbf hbm hbn) gX7_firstError_X7_areReturns rfl hd_X7_areReturns ⟨rfl, rfl⟩ ⟨Nat.le_of_ble_eq_true rfl, Nat.le_of_ble_eq_true rfl⟩ (k_recv hK hP.1 rfl) hP rfl hl.1 rfl (Nat.le_of_ble_eq_true rfl) dX7_firstError_6 ⟨Nat.le_of_ble_eq_true rfl, Nat.le_of_ble_eq_true rfl⟩ hS (fun q h => h) (fun q h => h) (fun H locs hQ zH fH hS => ?_)
  have hP := hQ
  have hP : md E o z (w_td (w_pl (w_th (w_rd w (arT b bn (q_rd w) (arK b bn (q_rd w))).2.2) (nI 0)) (nI (arT b bn (q_rd w) (arK b bn (q_rd w))).1)) (nI ((arK b bn (q_rd w)) + 1))) H := hP
  refine b_eq (tgt := 19) hx hb dX7_firstError_9 (by decide) (fun c9 => ?_) (fun c9 => ?_)
  · refine lv_aload_n hx hb dX7_firstError_19 rfl (lv_at hl 0 rfl) ?_
    refine k_get S hK hP.1 rfl (fun _ h => List.mem_cons_of_mem _ (List.mem_append_right _ (h))) 7 (by decide) (List.mem_cons_of_mem _ (List.mem_append_left _ (List.mem_append_left _ (List.mem_of_getElem? (i := 2) rfl)))) rfl (v := .int (nI ((arT b bn (q_rd w) (arK b bn (q_rd w))).1))) rfl dX7_firstError_20 ?_
    exact k_iretM hx hb hr hlk dX7_firstError_23 hS hP (rfl)
  · refine lv_aload_n hx hb dX7_firstError_12 rfl (lv_at hl 0 rfl) ?_
    refine k_get S hK hP.1 rfl (fun _ h => List.mem_cons_of_mem _ (List.mem_append_right _ (h))) 5 (by decide) (List.mem_cons_of_mem _ (List.mem_append_left _ (List.mem_append_left _ (List.mem_of_getElem? (i := 1) rfl)))) rfl (v := .int (nI bn)) (congrArg (fun x => some (Value.int x)) (hbm)) dX7_firstError_13 ?_
    refine lv_goto (tgt := 23) hx hb dX7_firstError_16 (by decide) ?_
    exact k_iretM hx hb hr hlk dX7_firstError_23 hS hP (congrArg nI c9.2)
def rm_X7_receiveAll_f1 : Room := { frames := 4, cells := 0, slots := 0, locals := 91 }
theorem hd_X7_receiveAll : k_hd1 yX7_receiveAll RX7 0 := by decide +kernel
set_option maxHeartbeats 4000000 in
set_option maxRecDepth 100000 in
theorem c_X7_receiveAll_f1 (l : Launch) (E : ke_E) (o : Nat) (z : Nat → Int32) (w : md_w) (b : Nat → Int32) (bn : Nat) (hI : iv z) (hbf : q_buf w = b) (hbm : q_bm w = nI bn) (hbn : bn ≤ 60) (h1 : ¬ arG b bn (q_rd w)) : Met l yX7_receiveAll wsX7_receiveAll rm_X7_receiveAll_f1 (kp E [.ref o] (md E o z w)) (qm (some (.int (nI 0))) (bl o 6) (md E o z (w_td (w_pl (w_th (w_rd w (arT b bn (q_rd w) (arK b bn (q_rd w))).2.2) (nI 1)) (nI (arT b bn (q_rd w) (arK b bn (q_rd w))).1)) (nI ((arK b bn (q_rd w)) + 1))))) 0 0 (bl o 6) := by
  refine k_hd (cc := cX7_receiveAll) (maxL := 3) (ret := (some .int)) (by decide) rfl (Nat.le_of_ble_eq_true rfl) ?_
  intro p e s m below meth c ls S hr hlk hnm hK hP hl
  have hx := S.1
  have hb := S.2.1
  have hts := S.2.2.2.2
  have hP : md E o z w s.heap := hP
  have hl : lv_has ls 3 [(0, .ref o)] := hl
  have hS : va_S (bl o 6) s.heap s.heap [] := va_S.rf
  have hcn := iv_c hI
  refine lv_aload_n hx hb dX7_receiveAll_0 rfl (lv_at hl 0 rfl) ?_
  refine lv_iconst (v := nI 0) hx hb dX7_receiveAll_1 (by decide) ?_
  refine md_put (w' := w_th w (nI 0)) S hK hP (fun _ h => List.mem_cons_of_mem _ (List.mem_append_right _ (h))) 6 (by decide) (List.mem_cons_of_mem _ (List.mem_append_left _ (List.mem_append_left _ (List.mem_of_getElem? (i := 0) rfl)))) rfl rfl rfl rfl rfl rfl rfl rfl rfl hS (fun _ h => h) dX7_receiveAll_2 (fun H locs hP zH fH hS => ?_)
  refine lv_aload_n hx hb dX7_receiveAll_5 rfl (lv_at hl 0 rfl) ?_
  refine k_VM (As := []) (rest := []) S hK (c_X7_areReturns l E o z (w_th w (nI 0)) b bn hbf hbm hbn) gX7_receiveAll_X7_areReturns rfl hd_X7_areReturns ⟨rfl, rfl⟩ ⟨Nat.le_of_ble_eq_true rfl, Nat.le_of_ble_eq_true rfl⟩ (k_recv hK hP.1 rfl) hP rfl hl.1 rfl (Nat.le_of_ble_eq_true rfl) dX7_receiveAll_6 ⟨Nat.le_of_ble_eq_true rfl, Nat.le_of_ble_eq_true rfl⟩ hS (fun q h => h) (fun q h => h) (fun H locs hQ zH fH hS => ?_)
  have hP := hQ
  have hP : md E o z (w_td (w_pl (w_th (w_rd w (arT b bn (q_rd w) (arK b bn (q_rd w))).2.2) (nI 0)) (nI (arT b bn (q_rd w) (arK b bn (q_rd w))).1)) (nI ((arK b bn (q_rd w)) + 1))) H := hP
  refine b_ne (tgt := 18) hx hb dX7_receiveAll_9 (by decide) (fun h => absurd h h1) (fun c9 => ?_)
  refine lv_aload_n hx hb dX7_receiveAll_12 rfl (lv_at hl 0 rfl) ?_
  refine lv_iconst (v := nI 1) hx hb dX7_receiveAll_13 (by decide) ?_
  refine k_VM (As := [.int (nI 1)]) (rest := []) S hK (c_X7_fails l E o z (w_td (w_pl (w_th (w_rd w (arT b bn (q_rd w) (arK b bn (q_rd w))).2.2) (nI 0)) (nI (arT b bn (q_rd w) (arK b bn (q_rd w))).1)) (nI ((arK b bn (q_rd w)) + 1))) (nI 1)) gX7_receiveAll_X7_fails rfl hd_X7_fails ⟨rfl, rfl⟩ ⟨Nat.le_of_ble_eq_true rfl, Nat.le_of_ble_eq_true rfl⟩ (k_recv hK hP.1 rfl) hP rfl hl.1 rfl (Nat.le_of_ble_eq_true rfl) dX7_receiveAll_14 ⟨Nat.le_of_ble_eq_true rfl, Nat.le_of_ble_eq_true rfl⟩ hS (fun q h => h) (fun q h => h) (fun H locs hQ zH fH hS => ?_)
  have hP := hQ
  have hP : md E o z (w_td (w_pl (w_th (w_rd w (arT b bn (q_rd w) (arK b bn (q_rd w))).2.2) (nI 1)) (nI (arT b bn (q_rd w) (arK b bn (q_rd w))).1)) (nI ((arK b bn (q_rd w)) + 1))) H := hP
  exact k_iretM hx hb hr hlk dX7_receiveAll_17 hS hP (rfl)
def rm_X7_receiveAll_f2 : Room := { frames := 4, cells := 0, slots := 0, locals := 91 }
set_option maxHeartbeats 4000000 in
set_option maxRecDepth 100000 in
theorem c_X7_receiveAll_f2 (l : Launch) (E : ke_E) (o : Nat) (z : Nat → Int32) (w : md_w) (b : Nat → Int32) (bn : Nat) (hI : iv z) (hbf : q_buf w = b) (hbm : q_bm w = nI bn) (hbn : bn ≤ 60) (h1 : arG b bn (q_rd w)) (h2 : 20 < cn z + (arK b bn (q_rd w)) + 1) : Met l yX7_receiveAll wsX7_receiveAll rm_X7_receiveAll_f2 (kp E [.ref o] (md E o z w)) (qm (some (.int (nI 0))) (bl o 6) (md E o z (w_td (w_pl (w_th (w_rd w (arT b bn (q_rd w) (arK b bn (q_rd w))).2.2) (nI 2)) (nI (arT b bn (q_rd w) (arK b bn (q_rd w))).1)) (nI ((arK b bn (q_rd w)) + 1))))) 0 0 (bl o 6) := by
  refine k_hd (cc := cX7_receiveAll) (maxL := 3) (ret := (some .int)) (by decide) rfl (Nat.le_of_ble_eq_true rfl) ?_
  intro p e s m below meth c ls S hr hlk hnm hK hP hl
  have hx := S.1
  have hb := S.2.1
  have hts := S.2.2.2.2
  have hP : md E o z w s.heap := hP
  have hl : lv_has ls 3 [(0, .ref o)] := hl
  have hS : va_S (bl o 6) s.heap s.heap [] := va_S.rf
  have hcn := iv_c hI
  obtain ⟨_, _, hB9⟩ := arK_all (b := b) (rd := q_rd w) hbn
  have hK12 := hB9.1
  have hK60 := hB9.2.1
  refine lv_aload_n hx hb dX7_receiveAll_0 rfl (lv_at hl 0 rfl) ?_
  refine lv_iconst (v := nI 0) hx hb dX7_receiveAll_1 (by decide) ?_
  refine md_put (w' := w_th w (nI 0)) S hK hP (fun _ h => List.mem_cons_of_mem _ (List.mem_append_right _ (h))) 6 (by decide) (List.mem_cons_of_mem _ (List.mem_append_left _ (List.mem_append_left _ (List.mem_of_getElem? (i := 0) rfl)))) rfl rfl rfl rfl rfl rfl rfl rfl rfl hS (fun _ h => h) dX7_receiveAll_2 (fun H locs hP zH fH hS => ?_)
  refine lv_aload_n hx hb dX7_receiveAll_5 rfl (lv_at hl 0 rfl) ?_
  refine k_VM (As := []) (rest := []) S hK (c_X7_areReturns l E o z (w_th w (nI 0)) b bn hbf hbm hbn) gX7_receiveAll_X7_areReturns rfl hd_X7_areReturns ⟨rfl, rfl⟩ ⟨Nat.le_of_ble_eq_true rfl, Nat.le_of_ble_eq_true rfl⟩ (k_recv hK hP.1 rfl) hP rfl hl.1 rfl (Nat.le_of_ble_eq_true rfl) dX7_receiveAll_6 ⟨Nat.le_of_ble_eq_true rfl, Nat.le_of_ble_eq_true rfl⟩ hS (fun q h => h) (fun q h => h) (fun H locs hQ zH fH hS => ?_)
  have hP := hQ
  have hP : md E o z (w_td (w_pl (w_th (w_rd w (arT b bn (q_rd w) (arK b bn (q_rd w))).2.2) (nI 0)) (nI (arT b bn (q_rd w) (arK b bn (q_rd w))).1)) (nI ((arK b bn (q_rd w)) + 1))) H := hP
  refine b_ne (tgt := 18) hx hb dX7_receiveAll_9 (by decide) (fun c9 => ?_) (fun h => absurd h1 h)
  refine lv_aload_n hx hb dX7_receiveAll_18 rfl (lv_at hl 0 rfl) ?_
  refine k_get S hK hP.1 rfl (fun _ h => List.mem_cons_of_mem _ (List.mem_append_right _ (h))) 0 (by decide) (List.mem_cons_of_mem _ (List.mem_append_left _ (List.mem_append_left _ (List.mem_of_getElem? (i := 1) rfl)))) rfl (v := .ref (o + 1)) rfl dX7_receiveAll_19 ?_
  refine lv_iconst (v := nI 0) hx hb dX7_receiveAll_22 (by decide) ?_
  refine k_iald hx hb hK hP.2.1 (by omega) (by decide) (v := nI (cn z)) (iv_n hI) dX7_receiveAll_23 ?_
  refine lv_aload_n hx hb dX7_receiveAll_24 rfl (lv_at hl 0 rfl) ?_
  refine k_get S hK hP.1 rfl (fun _ h => List.mem_cons_of_mem _ (List.mem_append_right _ (h))) 8 (by decide) (List.mem_cons_of_mem _ (List.mem_append_left _ (List.mem_append_left _ (List.mem_of_getElem? (i := 2) rfl)))) rfl (v := .int (nI (arK b bn (q_rd w) + 1))) rfl dX7_receiveAll_25 ?_
  refine n_iadd (n := arK b bn (q_rd w) + cn z + 1) hx hb dX7_receiveAll_28 (by omega) ?_
  refine lv_bipush (v := nI 20) hx hb dX7_receiveAll_29 (by decide) ?_
  refine n_ile (tgt := 40) hx hb dX7_receiveAll_31 (by decide) (by omega) (by omega) (fun h => absurd h (by omega)) (fun c31 => ?_)
  refine lv_aload_n hx hb dX7_receiveAll_34 rfl (lv_at hl 0 rfl) ?_
  refine lv_iconst (v := nI 2) hx hb dX7_receiveAll_35 (by decide) ?_
  refine k_VM (As := [.int (nI 2)]) (rest := []) S hK (c_X7_fails l E o z (w_td (w_pl (w_th (w_rd w (arT b bn (q_rd w) (arK b bn (q_rd w))).2.2) (nI 0)) (nI (arT b bn (q_rd w) (arK b bn (q_rd w))).1)) (nI ((arK b bn (q_rd w)) + 1))) (nI 2)) gX7_receiveAll_X7_fails rfl hd_X7_fails ⟨rfl, rfl⟩ ⟨Nat.le_of_ble_eq_true rfl, Nat.le_of_ble_eq_true rfl⟩ (k_recv hK hP.1 rfl) hP rfl hl.1 rfl (Nat.le_of_ble_eq_true rfl) dX7_receiveAll_36 ⟨Nat.le_of_ble_eq_true rfl, Nat.le_of_ble_eq_true rfl⟩ hS (fun q h => h) (fun q h => h) (fun H locs hQ zH fH hS => ?_)
  have hP := hQ
  have hP : md E o z (w_td (w_pl (w_th (w_rd w (arT b bn (q_rd w) (arK b bn (q_rd w))).2.2) (nI 2)) (nI (arT b bn (q_rd w) (arK b bn (q_rd w))).1)) (nI ((arK b bn (q_rd w)) + 1))) H := hP
  exact k_iretM hx hb hr hlk dX7_receiveAll_39 hS hP (rfl)
def rm_X7_receiveAll : Room := { frames := 4, cells := 0, slots := 0, locals := 91 }
set_option maxHeartbeats 4000000 in
set_option maxRecDepth 100000 in
theorem c_X7_receiveAll (l : Launch) (E : ke_E) (o : Nat) (z : Nat → Int32) (w : md_w) (b : Nat → Int32) (bn : Nat) (sn : Nat) (hI : iv z) (hbf : q_buf w = b) (hbm : q_bm w = nI bn) (hbn : bn ≤ 60) (h1 : arG b bn (q_rd w)) (h2 : cn z + (arK b bn (q_rd w)) + 1 ≤ 20) (hs : q_sm w = nI sn) (hn : sn ≤ 6) : Met l yX7_receiveAll wsX7_receiveAll rm_X7_receiveAll (kp E [.ref o] (md E o z w)) (qm (some (.int (nI (arK b bn (q_rd w) + cn z + 1)))) (bl o 6) (md E o (raZ b bn (q_rd w) z ((arK b bn (q_rd w)) + 1)) (w_bm (svW z (w_td (w_pl (w_th (w_rd w (arT b bn (q_rd w) (arK b bn (q_rd w))).2.2) (nI 0)) (nI (arT b bn (q_rd w) (arK b bn (q_rd w))).1)) (nI ((arK b bn (q_rd w)) + 1))) sn) (nI 0)))) 0 0 (bl o 6) := by
  refine k_hd (cc := cX7_receiveAll) (maxL := 3) (ret := (some .int)) (by decide) rfl (Nat.le_of_ble_eq_true rfl) ?_
  intro p e s m below meth c ls S hr hlk hnm hK hP hl
  have hx := S.1
  have hb := S.2.1
  have hts := S.2.2.2.2
  have hP : md E o z w s.heap := hP
  have hl : lv_has ls 3 [(0, .ref o)] := hl
  have hS : va_S (bl o 6) s.heap s.heap [] := va_S.rf
  have hcn := iv_c hI
  obtain ⟨_, _, hB9⟩ := arK_all (b := b) (rd := q_rd w) hbn
  have hK12 := hB9.1
  have hK60 := hB9.2.1
  have J46 : ∀ (n_ : Nat), ∀ (k : Nat), k ≤ (arK b bn (q_rd w)) + 1 → ((arK b bn (q_rd w)) + 1) < k + n_ → ∀ (H : Heap) (locs : List Loc), md E o (raZ b bn (q_rd w) z k) (svW z (w_td (w_pl (w_th (w_rd w (arT b bn (q_rd w) (arK b bn (q_rd w))).2.2) (nI 0)) (nI (arT b bn (q_rd w) (arK b bn (q_rd w))).1)) (nI ((arK b bn (q_rd w)) + 1))) sn) H → va_S (bl o 6) s.heap H locs → ∀ (ls : Array Slot), lv_has ls 3 [(0, .ref o), (1, .int (nI k))] → W p l e (headSpec wsX7_receiveAll rm_X7_receiveAll).room s m ([.ref o] : List Value).toArray below meth c H locs 0 0 (MQ below (qm (some (.int (nI (arK b bn (q_rd w) + cn z + 1)))) (bl o 6) (md E o (raZ b bn (q_rd w) z ((arK b bn (q_rd w)) + 1)) (w_bm (svW z (w_td (w_pl (w_th (w_rd w (arT b bn (q_rd w) (arK b bn (q_rd w))).2.2) (nI 0)) (nI (arT b bn (q_rd w) (arK b bn (q_rd w))).1)) (nI ((arK b bn (q_rd w)) + 1))) sn) (nI 0)))) ([.ref o] : List Value).toArray s 0 0 (bl o 6)) (F0 m 46 ls []) := by
    intro n_
    induction n_ with
    | zero =>
      intro k hk hn_ _ _ _ _ _ _
      exact absurd hn_ (by omega)
    | succ n_ ih =>
      intro k hk hn_ H locs hW0 hS ls hl
      have hrz := raZ_iv hbn h1 hI h2 k hk
      have hck := hrz.2
      refine lv_iload_n hx hb dX7_receiveAll_46 rfl (lv_at hl 1 rfl) ?_
      refine lv_aload_n hx hb dX7_receiveAll_47 rfl (lv_at hl 0 rfl) ?_
      refine k_get S hK hW0.1 rfl (fun _ h => List.mem_cons_of_mem _ (List.mem_append_right _ (h))) 8 (by decide) (List.mem_cons_of_mem _ (List.mem_append_left _ (List.mem_append_left _ (List.mem_of_getElem? (i := 2) rfl)))) rfl (v := .int (nI (arK b bn (q_rd w) + 1))) rfl dX7_receiveAll_48 ?_
      refine n_ige (tgt := 130) hx hb dX7_receiveAll_51 (by decide) (by omega) (by omega) (fun c51 => ?_) (fun c51 => ?_)
      · refine lv_aload_n hx hb dX7_receiveAll_130 rfl (lv_at hl 0 rfl) ?_
        refine lv_iconst (v := nI 0) hx hb dX7_receiveAll_131 (by decide) ?_
        refine md_put (w' := w_bm (svW z (w_td (w_pl (w_th (w_rd w (arT b bn (q_rd w) (arK b bn (q_rd w))).2.2) (nI 0)) (nI (arT b bn (q_rd w) (arK b bn (q_rd w))).1)) (nI ((arK b bn (q_rd w)) + 1))) sn) (nI 0)) S hK hW0 (fun _ h => List.mem_cons_of_mem _ (List.mem_append_right _ (h))) 5 (by decide) (List.mem_cons_of_mem _ (List.mem_append_left _ (List.mem_append_left _ (List.mem_of_getElem? (i := 4) rfl)))) rfl rfl rfl rfl rfl rfl rfl rfl rfl hS (fun _ h => h) dX7_receiveAll_132 (fun H locs hP zH fH hS => ?_)
        refine lv_aload_n hx hb dX7_receiveAll_135 rfl (lv_at hl 0 rfl) ?_
        refine k_get S hK hP.1 rfl (fun _ h => List.mem_cons_of_mem _ (List.mem_append_right _ (h))) 0 (by decide) (List.mem_cons_of_mem _ (List.mem_append_left _ (List.mem_append_left _ (List.mem_of_getElem? (i := 1) rfl)))) rfl (v := .ref (o + 1)) rfl dX7_receiveAll_136 ?_
        refine lv_iconst (v := nI 0) hx hb dX7_receiveAll_139 (by decide) ?_
        refine k_iald hx hb hK hP.2.1 (by omega) (by decide) (v := nI (cn (raZ b bn (q_rd w) z k))) (iv_n hrz.1) dX7_receiveAll_140 ?_
        exact k_iretM hx hb hr hlk dX7_receiveAll_141 hS (show md E o (raZ b bn (q_rd w) z ((arK b bn (q_rd w)) + 1)) (w_bm (svW z (w_td (w_pl (w_th (w_rd w (arT b bn (q_rd w) (arK b bn (q_rd w))).2.2) (nI 0)) (nI (arT b bn (q_rd w) (arK b bn (q_rd w))).1)) (nI ((arK b bn (q_rd w)) + 1))) sn) (nI 0)) _ from (by have e9 : k = (arK b bn (q_rd w)) + 1 := (by omega); rw [e9] at hP; exact hP)) (by rw [hck]; exact congrArg nI (by omega))
      · have har := ar_rd hbn h1 (i := k) (by omega)
        refine lv_aload_n hx hb dX7_receiveAll_54 rfl (lv_at hl 0 rfl) ?_
        refine lv_aload_n hx hb dX7_receiveAll_55 rfl (lv_at hl 0 rfl) ?_
        refine k_get S hK hW0.1 rfl (fun _ h => List.mem_cons_of_mem _ (List.mem_append_right _ (h))) 9 (by decide) (List.mem_cons_of_mem _ (List.mem_append_left _ (List.mem_append_left _ (List.mem_of_getElem? (i := 3) rfl)))) rfl (v := .ref (o + 5)) rfl dX7_receiveAll_56 ?_
        refine lv_bipush (v := nI 6) hx hb dX7_receiveAll_59 (by decide) ?_
        refine lv_iload_n hx hb dX7_receiveAll_61 rfl (lv_at hl 1 rfl) ?_
        refine n_imul (n := 6*k) hx hb dX7_receiveAll_62 (by omega) ?_
        refine k_iald hx hb hK hW0.2.2.2.2.2 (by omega) (by decide) (v := nI (uq b bn (q_rd w) k)) har.1 dX7_receiveAll_63 ?_
        refine lv_aload_n hx hb dX7_receiveAll_64 rfl (lv_at hl 0 rfl) ?_
        refine k_get S hK hW0.1 rfl (fun _ h => List.mem_cons_of_mem _ (List.mem_append_right _ (h))) 9 (by decide) (List.mem_cons_of_mem _ (List.mem_append_left _ (List.mem_append_left _ (List.mem_of_getElem? (i := 3) rfl)))) rfl (v := .ref (o + 5)) rfl dX7_receiveAll_65 ?_
        refine lv_bipush (v := nI 6) hx hb dX7_receiveAll_68 (by decide) ?_
        refine lv_iload_n hx hb dX7_receiveAll_70 rfl (lv_at hl 1 rfl) ?_
        refine n_imul (n := 6*k) hx hb dX7_receiveAll_71 (by omega) ?_
        refine lv_iconst (v := nI 1) hx hb dX7_receiveAll_72 (by decide) ?_
        refine n_iadd (n := 6*k + 1) hx hb dX7_receiveAll_73 (by omega) ?_
        refine k_iald hx hb hK hW0.2.2.2.2.2 (by omega) (by decide) (v := nI (ux b bn (q_rd w) k)) har.2.2.1 dX7_receiveAll_74 ?_
        refine k_VM (As := [.int (nI (uq b bn (q_rd w) k)), .int (nI (ux b bn (q_rd w) k))]) (rest := []) S hK (c_X7_receiveNow l E o (raZ b bn (q_rd w) z k) (svW z (w_td (w_pl (w_th (w_rd w (arT b bn (q_rd w) (arK b bn (q_rd w))).2.2) (nI 0)) (nI (arT b bn (q_rd w) (arK b bn (q_rd w))).1)) (nI ((arK b bn (q_rd w)) + 1))) sn) (uq b bn (q_rd w) k) (ux b bn (q_rd w) k) hrz.1 (by omega)) gX7_receiveAll_X7_receiveNow rfl hd_X7_receiveNow ⟨rfl, rfl⟩ ⟨Nat.le_of_ble_eq_true rfl, Nat.le_of_ble_eq_true rfl⟩ (k_recv hK hW0.1 rfl) hW0 rfl hl.1 rfl (Nat.le_of_ble_eq_true rfl) dX7_receiveAll_75 ⟨Nat.le_of_ble_eq_true rfl, Nat.le_of_ble_eq_true rfl⟩ hS (fun q h => h) (fun q h => h) (fun H locs hQ zH fH hS => ?_)
        have hP := hQ
        have hP : md E o (rcv (raZ b bn (q_rd w) z k) (uq b bn (q_rd w) k) (ux b bn (q_rd w) k)) (svW z (w_td (w_pl (w_th (w_rd w (arT b bn (q_rd w) (arK b bn (q_rd w))).2.2) (nI 0)) (nI (arT b bn (q_rd w) (arK b bn (q_rd w))).1)) (nI ((arK b bn (q_rd w)) + 1))) sn) H := hP
        refine lv_iconst (v := nI 0) hx hb dX7_receiveAll_78 (by decide) ?_
        refine lv_istore_n (lv' := [(2, .int (nI 0)), (0, .ref o), (1, .int (nI k))]) hx hb dX7_receiveAll_79 rfl hl (by decide) rfl (fun ls hl => ?_)
        refine lv_iload_n hx hb dX7_receiveAll_80 rfl (lv_at hl 0 rfl) ?_
        refine lv_iconst (v := nI 4) hx hb dX7_receiveAll_81 (by decide) ?_
        refine n_ige (tgt := 124) hx hb dX7_receiveAll_82 (by decide) (by omega) (by omega) (fun h => absurd h (by decide)) (fun c82 => ?_)
        refine lv_aload_n hx hb dX7_receiveAll_85 rfl (lv_at hl 1 rfl) ?_
        refine k_get S hK hP.1 rfl (fun _ h => List.mem_cons_of_mem _ (List.mem_append_right _ (h))) 0 (by decide) (List.mem_cons_of_mem _ (List.mem_append_left _ (List.mem_append_left _ (List.mem_of_getElem? (i := 1) rfl)))) rfl (v := .ref (o + 1)) rfl dX7_receiveAll_86 ?_
        refine lv_aload_n hx hb dX7_receiveAll_89 rfl (lv_at hl 1 rfl) ?_
        refine k_get S hK hP.1 rfl (fun _ h => List.mem_cons_of_mem _ (List.mem_append_right _ (h))) 0 (by decide) (List.mem_cons_of_mem _ (List.mem_append_left _ (List.mem_append_left _ (List.mem_of_getElem? (i := 1) rfl)))) rfl (v := .ref (o + 1)) rfl dX7_receiveAll_90 ?_
        refine lv_iconst (v := nI 0) hx hb dX7_receiveAll_93 (by decide) ?_
        refine k_iald hx hb hK hP.2.1 (by omega) (by decide) (v := nI (cn (raZ b bn (q_rd w) z k) + 1)) upd_s dX7_receiveAll_94 ?_
        refine lv_iconst (v := nI 1) hx hb dX7_receiveAll_95 (by decide) ?_
        refine n_isub (n := cn (raZ b bn (q_rd w) z k)) hx hb dX7_receiveAll_96 (by omega) ?_
        refine k_S (As := [.int (nI (cn (raZ b bn (q_rd w) z k)))]) (rest := [.ref (o + 1)]) S hK (c_X7_at l E (cn (raZ b bn (q_rd w) z k))) gX7_receiveAll_X7_at rfl hd_X7_at ⟨rfl, rfl⟩ ⟨Nat.le_of_ble_eq_true rfl, Nat.le_of_ble_eq_true rfl⟩ trivial rfl hl.1 rfl (Nat.le_of_ble_eq_true rfl) dX7_receiveAll_97 ⟨Nat.le_of_ble_eq_true rfl, Nat.le_of_ble_eq_true rfl⟩ ?_
        refine lv_iconst (v := nI 2) hx hb dX7_receiveAll_100 (by decide) ?_
        refine n_iadd (n := 13*cn (raZ b bn (q_rd w) z k) + 64) hx hb dX7_receiveAll_101 (by omega) ?_
        refine lv_iload_n hx hb dX7_receiveAll_102 rfl (lv_at hl 0 rfl) ?_
        refine n_iadd (n := 13*cn (raZ b bn (q_rd w) z k) + 64) hx hb dX7_receiveAll_103 (by omega) ?_
        refine lv_aload_n hx hb dX7_receiveAll_104 rfl (lv_at hl 1 rfl) ?_
        refine k_get S hK hP.1 rfl (fun _ h => List.mem_cons_of_mem _ (List.mem_append_right _ (h))) 9 (by decide) (List.mem_cons_of_mem _ (List.mem_append_left _ (List.mem_append_left _ (List.mem_of_getElem? (i := 3) rfl)))) rfl (v := .ref (o + 5)) rfl dX7_receiveAll_105 ?_
        refine lv_bipush (v := nI 6) hx hb dX7_receiveAll_108 (by decide) ?_
        refine lv_iload_n hx hb dX7_receiveAll_110 rfl (lv_at hl 2 rfl) ?_
        refine n_imul (n := 6*k) hx hb dX7_receiveAll_111 (by omega) ?_
        refine lv_iconst (v := nI 2) hx hb dX7_receiveAll_112 (by decide) ?_
        refine n_iadd (n := 6*k + 2) hx hb dX7_receiveAll_113 (by omega) ?_
        refine lv_iload_n hx hb dX7_receiveAll_114 rfl (lv_at hl 0 rfl) ?_
        refine n_iadd (n := 6*k + 2) hx hb dX7_receiveAll_115 (by omega) ?_
        refine k_iald hx hb hK hP.2.2.2.2.2 (by omega) (by decide) (v := us b bn (q_rd w) k 0) (har.2.2.2.2 0 (by omega)).1 dX7_receiveAll_116 ?_
        refine md_ast_z hx hb hK hP (by omega) hS (fun _ h => h) dX7_receiveAll_117 (fun H locs hP zH fH hS => ?_)
        refine lv_iinc (v := nI 1) (lv' := [(2, .int (nI 1)), (0, .ref o), (1, .int (nI k))]) hx hb dX7_receiveAll_118 hl (k := 0) rfl (by decide) (by decide) rfl (fun ls hl => ?_)
        refine lv_goto (tgt := 80) hx hb dX7_receiveAll_121 (by decide) ?_
        refine lv_iload_n hx hb dX7_receiveAll_80 rfl (lv_at hl 0 rfl) ?_
        refine lv_iconst (v := nI 4) hx hb dX7_receiveAll_81 (by decide) ?_
        refine n_ige (tgt := 124) hx hb dX7_receiveAll_82 (by decide) (by omega) (by omega) (fun h => absurd h (by decide)) (fun c82_1 => ?_)
        refine lv_aload_n hx hb dX7_receiveAll_85 rfl (lv_at hl 1 rfl) ?_
        refine k_get S hK hP.1 rfl (fun _ h => List.mem_cons_of_mem _ (List.mem_append_right _ (h))) 0 (by decide) (List.mem_cons_of_mem _ (List.mem_append_left _ (List.mem_append_left _ (List.mem_of_getElem? (i := 1) rfl)))) rfl (v := .ref (o + 1)) rfl dX7_receiveAll_86 ?_
        refine lv_aload_n hx hb dX7_receiveAll_89 rfl (lv_at hl 1 rfl) ?_
        refine k_get S hK hP.1 rfl (fun _ h => List.mem_cons_of_mem _ (List.mem_append_right _ (h))) 0 (by decide) (List.mem_cons_of_mem _ (List.mem_append_left _ (List.mem_append_left _ (List.mem_of_getElem? (i := 1) rfl)))) rfl (v := .ref (o + 1)) rfl dX7_receiveAll_90 ?_
        refine lv_iconst (v := nI 0) hx hb dX7_receiveAll_93 (by decide) ?_
        refine k_iald hx hb hK hP.2.1 (by omega) (by decide) (v := nI (cn (raZ b bn (q_rd w) z k) + 1)) ((upd_n (by omega)).trans (upd_s)) dX7_receiveAll_94 ?_
        refine lv_iconst (v := nI 1) hx hb dX7_receiveAll_95 (by decide) ?_
        refine n_isub (n := cn (raZ b bn (q_rd w) z k)) hx hb dX7_receiveAll_96 (by omega) ?_
        refine k_S (As := [.int (nI (cn (raZ b bn (q_rd w) z k)))]) (rest := [.ref (o + 1)]) S hK (c_X7_at l E (cn (raZ b bn (q_rd w) z k))) gX7_receiveAll_X7_at rfl hd_X7_at ⟨rfl, rfl⟩ ⟨Nat.le_of_ble_eq_true rfl, Nat.le_of_ble_eq_true rfl⟩ trivial rfl hl.1 rfl (Nat.le_of_ble_eq_true rfl) dX7_receiveAll_97 ⟨Nat.le_of_ble_eq_true rfl, Nat.le_of_ble_eq_true rfl⟩ ?_
        refine lv_iconst (v := nI 2) hx hb dX7_receiveAll_100 (by decide) ?_
        refine n_iadd (n := 13*cn (raZ b bn (q_rd w) z k) + 64) hx hb dX7_receiveAll_101 (by omega) ?_
        refine lv_iload_n hx hb dX7_receiveAll_102 rfl (lv_at hl 0 rfl) ?_
        refine n_iadd (n := 13*cn (raZ b bn (q_rd w) z k) + 65) hx hb dX7_receiveAll_103 (by omega) ?_
        refine lv_aload_n hx hb dX7_receiveAll_104 rfl (lv_at hl 1 rfl) ?_
        refine k_get S hK hP.1 rfl (fun _ h => List.mem_cons_of_mem _ (List.mem_append_right _ (h))) 9 (by decide) (List.mem_cons_of_mem _ (List.mem_append_left _ (List.mem_append_left _ (List.mem_of_getElem? (i := 3) rfl)))) rfl (v := .ref (o + 5)) rfl dX7_receiveAll_105 ?_
        refine lv_bipush (v := nI 6) hx hb dX7_receiveAll_108 (by decide) ?_
        refine lv_iload_n hx hb dX7_receiveAll_110 rfl (lv_at hl 2 rfl) ?_
        refine n_imul (n := 6*k) hx hb dX7_receiveAll_111 (by omega) ?_
        refine lv_iconst (v := nI 2) hx hb dX7_receiveAll_112 (by decide) ?_
        refine n_iadd (n := 6*k + 2) hx hb dX7_receiveAll_113 (by omega) ?_
        refine lv_iload_n hx hb dX7_receiveAll_114 rfl (lv_at hl 0 rfl) ?_
        refine n_iadd (n := 6*k + 3) hx hb dX7_receiveAll_115 (by omega) ?_
        refine k_iald hx hb hK hP.2.2.2.2.2 (by omega) (by decide) (v := us b bn (q_rd w) k 1) (har.2.2.2.2 1 (by omega)).1 dX7_receiveAll_116 ?_
        refine md_ast_z hx hb hK hP (by omega) hS (fun _ h => h) dX7_receiveAll_117 (fun H locs hP zH fH hS => ?_)
        refine lv_iinc (v := nI 2) (lv' := [(2, .int (nI 2)), (0, .ref o), (1, .int (nI k))]) hx hb dX7_receiveAll_118 hl (k := 0) rfl (by decide) (by decide) rfl (fun ls hl => ?_)
        refine lv_goto (tgt := 80) hx hb dX7_receiveAll_121 (by decide) ?_
        refine lv_iload_n hx hb dX7_receiveAll_80 rfl (lv_at hl 0 rfl) ?_
        refine lv_iconst (v := nI 4) hx hb dX7_receiveAll_81 (by decide) ?_
        refine n_ige (tgt := 124) hx hb dX7_receiveAll_82 (by decide) (by omega) (by omega) (fun h => absurd h (by decide)) (fun c82_2 => ?_)
        refine lv_aload_n hx hb dX7_receiveAll_85 rfl (lv_at hl 1 rfl) ?_
        refine k_get S hK hP.1 rfl (fun _ h => List.mem_cons_of_mem _ (List.mem_append_right _ (h))) 0 (by decide) (List.mem_cons_of_mem _ (List.mem_append_left _ (List.mem_append_left _ (List.mem_of_getElem? (i := 1) rfl)))) rfl (v := .ref (o + 1)) rfl dX7_receiveAll_86 ?_
        refine lv_aload_n hx hb dX7_receiveAll_89 rfl (lv_at hl 1 rfl) ?_
        refine k_get S hK hP.1 rfl (fun _ h => List.mem_cons_of_mem _ (List.mem_append_right _ (h))) 0 (by decide) (List.mem_cons_of_mem _ (List.mem_append_left _ (List.mem_append_left _ (List.mem_of_getElem? (i := 1) rfl)))) rfl (v := .ref (o + 1)) rfl dX7_receiveAll_90 ?_
        refine lv_iconst (v := nI 0) hx hb dX7_receiveAll_93 (by decide) ?_
        refine k_iald hx hb hK hP.2.1 (by omega) (by decide) (v := nI (cn (raZ b bn (q_rd w) z k) + 1)) ((upd_n (by omega)).trans ((upd_n (by omega)).trans (upd_s))) dX7_receiveAll_94 ?_
        refine lv_iconst (v := nI 1) hx hb dX7_receiveAll_95 (by decide) ?_
        refine n_isub (n := cn (raZ b bn (q_rd w) z k)) hx hb dX7_receiveAll_96 (by omega) ?_
        refine k_S (As := [.int (nI (cn (raZ b bn (q_rd w) z k)))]) (rest := [.ref (o + 1)]) S hK (c_X7_at l E (cn (raZ b bn (q_rd w) z k))) gX7_receiveAll_X7_at rfl hd_X7_at ⟨rfl, rfl⟩ ⟨Nat.le_of_ble_eq_true rfl, Nat.le_of_ble_eq_true rfl⟩ trivial rfl hl.1 rfl (Nat.le_of_ble_eq_true rfl) dX7_receiveAll_97 ⟨Nat.le_of_ble_eq_true rfl, Nat.le_of_ble_eq_true rfl⟩ ?_
        refine lv_iconst (v := nI 2) hx hb dX7_receiveAll_100 (by decide) ?_
        refine n_iadd (n := 13*cn (raZ b bn (q_rd w) z k) + 64) hx hb dX7_receiveAll_101 (by omega) ?_
        refine lv_iload_n hx hb dX7_receiveAll_102 rfl (lv_at hl 0 rfl) ?_
        refine n_iadd (n := 13*cn (raZ b bn (q_rd w) z k) + 66) hx hb dX7_receiveAll_103 (by omega) ?_
        refine lv_aload_n hx hb dX7_receiveAll_104 rfl (lv_at hl 1 rfl) ?_
        refine k_get S hK hP.1 rfl (fun _ h => List.mem_cons_of_mem _ (List.mem_append_right _ (h))) 9 (by decide) (List.mem_cons_of_mem _ (List.mem_append_left _ (List.mem_append_left _ (List.mem_of_getElem? (i := 3) rfl)))) rfl (v := .ref (o + 5)) rfl dX7_receiveAll_105 ?_
        refine lv_bipush (v := nI 6) hx hb dX7_receiveAll_108 (by decide) ?_
        refine lv_iload_n hx hb dX7_receiveAll_110 rfl (lv_at hl 2 rfl) ?_
        refine n_imul (n := 6*k) hx hb dX7_receiveAll_111 (by omega) ?_
        refine lv_iconst (v := nI 2) hx hb dX7_receiveAll_112 (by decide) ?_
        refine n_iadd (n := 6*k + 2) hx hb dX7_receiveAll_113 (by omega) ?_
        refine lv_iload_n hx hb dX7_receiveAll_114 rfl (lv_at hl 0 rfl) ?_
        refine n_iadd (n := 6*k + 4) hx hb dX7_receiveAll_115 (by omega) ?_
        refine k_iald hx hb hK hP.2.2.2.2.2 (by omega) (by decide) (v := us b bn (q_rd w) k 2) (har.2.2.2.2 2 (by omega)).1 dX7_receiveAll_116 ?_
        refine md_ast_z hx hb hK hP (by omega) hS (fun _ h => h) dX7_receiveAll_117 (fun H locs hP zH fH hS => ?_)
        refine lv_iinc (v := nI 3) (lv' := [(2, .int (nI 3)), (0, .ref o), (1, .int (nI k))]) hx hb dX7_receiveAll_118 hl (k := 0) rfl (by decide) (by decide) rfl (fun ls hl => ?_)
        refine lv_goto (tgt := 80) hx hb dX7_receiveAll_121 (by decide) ?_
        refine lv_iload_n hx hb dX7_receiveAll_80 rfl (lv_at hl 0 rfl) ?_
        refine lv_iconst (v := nI 4) hx hb dX7_receiveAll_81 (by decide) ?_
        refine n_ige (tgt := 124) hx hb dX7_receiveAll_82 (by decide) (by omega) (by omega) (fun h => absurd h (by decide)) (fun c82_3 => ?_)
        refine lv_aload_n hx hb dX7_receiveAll_85 rfl (lv_at hl 1 rfl) ?_
        refine k_get S hK hP.1 rfl (fun _ h => List.mem_cons_of_mem _ (List.mem_append_right _ (h))) 0 (by decide) (List.mem_cons_of_mem _ (List.mem_append_left _ (List.mem_append_left _ (List.mem_of_getElem? (i := 1) rfl)))) rfl (v := .ref (o + 1)) rfl dX7_receiveAll_86 ?_
        refine lv_aload_n hx hb dX7_receiveAll_89 rfl (lv_at hl 1 rfl) ?_
        refine k_get S hK hP.1 rfl (fun _ h => List.mem_cons_of_mem _ (List.mem_append_right _ (h))) 0 (by decide) (List.mem_cons_of_mem _ (List.mem_append_left _ (List.mem_append_left _ (List.mem_of_getElem? (i := 1) rfl)))) rfl (v := .ref (o + 1)) rfl dX7_receiveAll_90 ?_
        refine lv_iconst (v := nI 0) hx hb dX7_receiveAll_93 (by decide) ?_
        refine k_iald hx hb hK hP.2.1 (by omega) (by decide) (v := nI (cn (raZ b bn (q_rd w) z k) + 1)) ((upd_n (by omega)).trans ((upd_n (by omega)).trans ((upd_n (by omega)).trans (upd_s)))) dX7_receiveAll_94 ?_
        refine lv_iconst (v := nI 1) hx hb dX7_receiveAll_95 (by decide) ?_
        refine n_isub (n := cn (raZ b bn (q_rd w) z k)) hx hb dX7_receiveAll_96 (by omega) ?_
        refine k_S (As := [.int (nI (cn (raZ b bn (q_rd w) z k)))]) (rest := [.ref (o + 1)]) S hK (c_X7_at l E (cn (raZ b bn (q_rd w) z k))) gX7_receiveAll_X7_at rfl hd_X7_at ⟨rfl, rfl⟩ ⟨Nat.le_of_ble_eq_true rfl, Nat.le_of_ble_eq_true rfl⟩ trivial rfl hl.1 rfl (Nat.le_of_ble_eq_true rfl) dX7_receiveAll_97 ⟨Nat.le_of_ble_eq_true rfl, Nat.le_of_ble_eq_true rfl⟩ ?_
        refine lv_iconst (v := nI 2) hx hb dX7_receiveAll_100 (by decide) ?_
        refine n_iadd (n := 13*cn (raZ b bn (q_rd w) z k) + 64) hx hb dX7_receiveAll_101 (by omega) ?_
        refine lv_iload_n hx hb dX7_receiveAll_102 rfl (lv_at hl 0 rfl) ?_
        refine n_iadd (n := 13*cn (raZ b bn (q_rd w) z k) + 67) hx hb dX7_receiveAll_103 (by omega) ?_
        refine lv_aload_n hx hb dX7_receiveAll_104 rfl (lv_at hl 1 rfl) ?_
        refine k_get S hK hP.1 rfl (fun _ h => List.mem_cons_of_mem _ (List.mem_append_right _ (h))) 9 (by decide) (List.mem_cons_of_mem _ (List.mem_append_left _ (List.mem_append_left _ (List.mem_of_getElem? (i := 3) rfl)))) rfl (v := .ref (o + 5)) rfl dX7_receiveAll_105 ?_
        refine lv_bipush (v := nI 6) hx hb dX7_receiveAll_108 (by decide) ?_
        refine lv_iload_n hx hb dX7_receiveAll_110 rfl (lv_at hl 2 rfl) ?_
        refine n_imul (n := 6*k) hx hb dX7_receiveAll_111 (by omega) ?_
        refine lv_iconst (v := nI 2) hx hb dX7_receiveAll_112 (by decide) ?_
        refine n_iadd (n := 6*k + 2) hx hb dX7_receiveAll_113 (by omega) ?_
        refine lv_iload_n hx hb dX7_receiveAll_114 rfl (lv_at hl 0 rfl) ?_
        refine n_iadd (n := 6*k + 5) hx hb dX7_receiveAll_115 (by omega) ?_
        refine k_iald hx hb hK hP.2.2.2.2.2 (by omega) (by decide) (v := us b bn (q_rd w) k 3) (har.2.2.2.2 3 (by omega)).1 dX7_receiveAll_116 ?_
        refine md_ast_z hx hb hK hP (by omega) hS (fun _ h => h) dX7_receiveAll_117 (fun H locs hP zH fH hS => ?_)
        refine lv_iinc (v := nI 4) (lv' := [(2, .int (nI 4)), (0, .ref o), (1, .int (nI k))]) hx hb dX7_receiveAll_118 hl (k := 0) rfl (by decide) (by decide) rfl (fun ls hl => ?_)
        refine lv_goto (tgt := 80) hx hb dX7_receiveAll_121 (by decide) ?_
        refine lv_iload_n hx hb dX7_receiveAll_80 rfl (lv_at hl 0 rfl) ?_
        refine lv_iconst (v := nI 4) hx hb dX7_receiveAll_81 (by decide) ?_
        refine n_ige (tgt := 124) hx hb dX7_receiveAll_82 (by decide) (by omega) (by omega) (fun c82_4 => ?_) (fun h => absurd h (by decide))
        refine lv_iinc (v := nI (k + 1)) (lv' := [(1, .int (nI (k + 1))), (2, .int (nI 4)), (0, .ref o)]) hx hb dX7_receiveAll_124 hl (k := 2) rfl (inc_1 _) (by decide) rfl (fun ls hl => ?_)
        refine lv_goto (tgt := 46) hx hb dX7_receiveAll_127 (by decide) ?_
        exact ih (k + 1) (by omega) (by omega) _ _ (show md E o (raZ b bn (q_rd w) z (k + 1)) (svW z (w_td (w_pl (w_th (w_rd w (arT b bn (q_rd w) (arK b bn (q_rd w))).2.2) (nI 0)) (nI (arT b bn (q_rd w) (arK b bn (q_rd w))).1)) (nI ((arK b bn (q_rd w)) + 1))) sn) _ from hP) hS _ (lv_sub hl [2, 0] rfl)
  refine lv_aload_n hx hb dX7_receiveAll_0 rfl (lv_at hl 0 rfl) ?_
  refine lv_iconst (v := nI 0) hx hb dX7_receiveAll_1 (by decide) ?_
  refine md_put (w' := w_th w (nI 0)) S hK hP (fun _ h => List.mem_cons_of_mem _ (List.mem_append_right _ (h))) 6 (by decide) (List.mem_cons_of_mem _ (List.mem_append_left _ (List.mem_append_left _ (List.mem_of_getElem? (i := 0) rfl)))) rfl rfl rfl rfl rfl rfl rfl rfl rfl hS (fun _ h => h) dX7_receiveAll_2 (fun H locs hP zH fH hS => ?_)
  refine lv_aload_n hx hb dX7_receiveAll_5 rfl (lv_at hl 0 rfl) ?_
  refine k_VM (As := []) (rest := []) S hK (c_X7_areReturns l E o z (w_th w (nI 0)) b bn hbf hbm hbn) gX7_receiveAll_X7_areReturns rfl hd_X7_areReturns ⟨rfl, rfl⟩ ⟨Nat.le_of_ble_eq_true rfl, Nat.le_of_ble_eq_true rfl⟩ (k_recv hK hP.1 rfl) hP rfl hl.1 rfl (Nat.le_of_ble_eq_true rfl) dX7_receiveAll_6 ⟨Nat.le_of_ble_eq_true rfl, Nat.le_of_ble_eq_true rfl⟩ hS (fun q h => h) (fun q h => h) (fun H locs hQ zH fH hS => ?_)
  have hP := hQ
  have hP : md E o z (w_td (w_pl (w_th (w_rd w (arT b bn (q_rd w) (arK b bn (q_rd w))).2.2) (nI 0)) (nI (arT b bn (q_rd w) (arK b bn (q_rd w))).1)) (nI ((arK b bn (q_rd w)) + 1))) H := hP
  refine b_ne (tgt := 18) hx hb dX7_receiveAll_9 (by decide) (fun c9 => ?_) (fun h => absurd h1 h)
  refine lv_aload_n hx hb dX7_receiveAll_18 rfl (lv_at hl 0 rfl) ?_
  refine k_get S hK hP.1 rfl (fun _ h => List.mem_cons_of_mem _ (List.mem_append_right _ (h))) 0 (by decide) (List.mem_cons_of_mem _ (List.mem_append_left _ (List.mem_append_left _ (List.mem_of_getElem? (i := 1) rfl)))) rfl (v := .ref (o + 1)) rfl dX7_receiveAll_19 ?_
  refine lv_iconst (v := nI 0) hx hb dX7_receiveAll_22 (by decide) ?_
  refine k_iald hx hb hK hP.2.1 (by omega) (by decide) (v := nI (cn z)) (iv_n hI) dX7_receiveAll_23 ?_
  refine lv_aload_n hx hb dX7_receiveAll_24 rfl (lv_at hl 0 rfl) ?_
  refine k_get S hK hP.1 rfl (fun _ h => List.mem_cons_of_mem _ (List.mem_append_right _ (h))) 8 (by decide) (List.mem_cons_of_mem _ (List.mem_append_left _ (List.mem_append_left _ (List.mem_of_getElem? (i := 2) rfl)))) rfl (v := .int (nI (arK b bn (q_rd w) + 1))) rfl dX7_receiveAll_25 ?_
  refine n_iadd (n := arK b bn (q_rd w) + cn z + 1) hx hb dX7_receiveAll_28 (by omega) ?_
  refine lv_bipush (v := nI 20) hx hb dX7_receiveAll_29 (by decide) ?_
  refine n_ile (tgt := 40) hx hb dX7_receiveAll_31 (by decide) (by omega) (by omega) (fun c31 => ?_) (fun h => absurd h (by omega))
  refine lv_aload_n hx hb dX7_receiveAll_40 rfl (lv_at hl 0 rfl) ?_
  refine k_VM (As := []) (rest := []) S hK (c_X7_save l E o z (w_td (w_pl (w_th (w_rd w (arT b bn (q_rd w) (arK b bn (q_rd w))).2.2) (nI 0)) (nI (arT b bn (q_rd w) (arK b bn (q_rd w))).1)) (nI ((arK b bn (q_rd w)) + 1))) sn hs hn) gX7_receiveAll_X7_save rfl hd_X7_save ⟨rfl, rfl⟩ ⟨Nat.le_of_ble_eq_true rfl, Nat.le_of_ble_eq_true rfl⟩ (k_recv hK hP.1 rfl) hP rfl hl.1 rfl (Nat.le_of_ble_eq_true rfl) dX7_receiveAll_41 ⟨Nat.le_of_ble_eq_true rfl, Nat.le_of_ble_eq_true rfl⟩ hS (fun q h => h) (fun q h => h) (fun H locs hQ zH fH hS => ?_)
  have hP := hQ
  refine lv_iconst (v := nI 0) hx hb dX7_receiveAll_44 (by decide) ?_
  refine lv_istore_n (lv' := [(1, .int (nI 0)), (0, .ref o)]) hx hb dX7_receiveAll_45 rfl hl (by decide) rfl (fun ls hl => ?_)
  exact J46 (((arK b bn (q_rd w)) + 1) + 1) 0 (by omega) (by omega) _ _ (show md E o (raZ b bn (q_rd w) z 0) (svW z (w_td (w_pl (w_th (w_rd w (arT b bn (q_rd w) (arK b bn (q_rd w))).2.2) (nI 0)) (nI (arT b bn (q_rd w) (arK b bn (q_rd w))).1)) (nI ((arK b bn (q_rd w)) + 1))) sn) _ from hP) hS _ (lv_sub hl [1, 0] rfl)
