def rm_Jxe99ae_isNaN_b9ae7 : Room := { frames := 0, cells := 0, slots := 0, locals := 0 }
theorem hd_Jxe99ae_isNaN_b9ae7 : k_hd1 yJxe99ae_isNaN_b9ae7 RJxe99ae 1 := by decide +kernel
set_option maxHeartbeats 4000000 in
set_option maxRecDepth 100000 in
theorem c_Jxe99ae_isNaN_b9ae7 (l : Launch) (E : ke_E) (x : UInt64) (h1 : FP.Core.val64 x ≠ .nan) : Met l yJxe99ae_isNaN_b9ae7 wsJxe99ae_isNaN_b9ae7 rm_Jxe99ae_isNaN_b9ae7 (kp E [.double x] (fun _ => True)) (qp (some (.int (nI 0)))) 0 0 nof := by
  refine k_hd (cc := cJxe99ae_isNaN_b9ae7) (maxL := 2) (ret := (some .boolean)) (by decide) rfl (Nat.le_of_ble_eq_true rfl) ?_
  intro p e s m below meth c ls S hr hlk hnm hK hP hl
  have hx := S.1
  have hb := S.2.1
  have hts := S.2.2.2.2
  have hl : lv_has ls 2 [(0, .double x)] := hl
  refine lv_dload_n hx hb dJxe99ae_isNaN_b9ae7_0 rfl (lv_at hl 0 rfl) ?_
  refine lv_dload_n hx hb dJxe99ae_isNaN_b9ae7_1 rfl (lv_at hl 0 rfl) ?_
  refine lv_dcmp hx hb dJxe99ae_isNaN_b9ae7_2 ?_
  refine lv_if_eq (tgt := 10) hx hb dJxe99ae_isNaN_b9ae7_3 (by decide) (fun c3 => ?_) (fun h => absurd (by rw [show FP.dcmp x x = some .eq from FP.Core.dcmp_self h1]; rfl) h)
  refine lv_iconst (v := nI 0) hx hb dJxe99ae_isNaN_b9ae7_10 (by decide) ?_
  exact k_bret hx hb hr hlk dJxe99ae_isNaN_b9ae7_11 rfl (rfl)
def rm_Jxe99ae_doubleToLongBits_ccdee : Room := { frames := 1, cells := 0, slots := 0, locals := 21 }
theorem hd_Jxe99ae_doubleToLongBits_ccdee : k_hd1 yJxe99ae_doubleToLongBits_ccdee RJxe99ae 1 := by decide +kernel
set_option maxHeartbeats 4000000 in
set_option maxRecDepth 100000 in
theorem c_Jxe99ae_doubleToLongBits_ccdee (l : Launch) (E : ke_E) (x : UInt64) (h1 : FP.Core.val64 x ≠ .nan) : Met l yJxe99ae_doubleToLongBits_ccdee wsJxe99ae_doubleToLongBits_ccdee rm_Jxe99ae_doubleToLongBits_ccdee (kp E [.double x] (fun _ => True)) (qp (some (.long x.toInt64))) 0 0 nof := by
  refine k_hd (cc := cJxe99ae_doubleToLongBits_ccdee) (maxL := 2) (ret := (some .long)) (by decide) rfl (Nat.le_of_ble_eq_true rfl) ?_
  intro p e s m below meth c ls S hr hlk hnm hK hP hl
  have hx := S.1
  have hb := S.2.1
  have hts := S.2.2.2.2
  have hl : lv_has ls 2 [(0, .double x)] := hl
  refine lv_dload_n hx hb dJxe99ae_doubleToLongBits_ccdee_0 rfl (lv_at hl 0 rfl) ?_
  refine k_S (As := [.double x]) (rest := []) S hK (c_Jxe99ae_isNaN_b9ae7 l E x h1) gJxe99ae_doubleToLongBits_ccdee_Jxe99ae_isNaN_b9ae7 rfl hd_Jxe99ae_isNaN_b9ae7 ⟨rfl, rfl⟩ ⟨Nat.le_of_ble_eq_true rfl, Nat.le_of_ble_eq_true rfl⟩ trivial rfl hl.1 rfl (Nat.le_of_ble_eq_true rfl) dJxe99ae_doubleToLongBits_ccdee_1 ⟨Nat.le_of_ble_eq_true rfl, Nat.le_of_ble_eq_true rfl⟩ ?_
  refine lv_if_ne (tgt := 12) hx hb dJxe99ae_doubleToLongBits_ccdee_4 (by decide) (fun h => absurd h (by decide)) (fun c4 => ?_)
  refine lv_dload_n hx hb dJxe99ae_doubleToLongBits_ccdee_7 rfl (lv_at hl 0 rfl) ?_
  refine vn_d2l hx hb (by rw [S.2.2.1]; exact hl.1.symm) S.2.2.2.1 (hts _ (List.mem_cons_of_mem _ (List.mem_of_getElem? (i := 0) rfl))) (hts _ (List.mem_cons_of_mem _ (List.mem_of_getElem? (i := 1) rfl))) (hts _ (List.mem_cons_of_mem _ (List.mem_of_getElem? (i := 2) rfl))) (hts _ (List.mem_cons_of_mem _ (List.mem_of_getElem? (i := 3) rfl))) (Nat.le_of_ble_eq_true rfl) (Nat.le_of_ble_eq_true rfl) dJxe99ae_doubleToLongBits_ccdee_8 ?_
  exact k_lret hx hb hr hlk dJxe99ae_doubleToLongBits_ccdee_11 (rfl)
def rm_X7_backOf : Room := { frames := 2, cells := 0, slots := 0, locals := 41 }
theorem hd_X7_backOf : k_hd1 yX7_backOf RX7 0 := by decide +kernel
set_option maxHeartbeats 4000000 in
set_option maxRecDepth 100000 in
theorem c_X7_backOf (l : Launch) (E : ke_E) (o : Nat) (z : Nat → Int32) (w : md_w) (hI : iv z) : Met l yX7_backOf wsX7_backOf rm_X7_backOf (kp E [.ref o] (md E o z w)) (qp (some (.double (bkD z)))) 0 0 nof := by
  refine k_hd (cc := cX7_backOf) (maxL := 3) (ret := (some .double)) (by decide) rfl (Nat.le_of_ble_eq_true rfl) ?_
  intro p e s m below meth c ls S hr hlk hnm hK hP hl
  have hx := S.1
  have hb := S.2.1
  have hts := S.2.2.2.2
  have hP : md E o z w s.heap := hP
  have hl : lv_has ls 3 [(0, .ref o)] := hl
  have hcn := iv_c hI
  have J4 : ∀ (n_ : Nat), ∀ (i : Nat), i ≤ cn z → cn z < i + n_ → ∀ (ls : Array Slot), lv_has ls 3 [(0, .ref o), (1, .int (coN z i)), (2, .int (nI i))] → W p l e (headSpec wsX7_backOf rm_X7_backOf).room s m ([.ref o] : List Value).toArray below meth c s.heap [] 0 0 (MQ below (qp (some (.double (bkD z)))) ([.ref o] : List Value).toArray s 0 0 nof) (F0 m 4 ls []) := by
    intro n_
    induction n_ with
    | zero =>
      intro i hi hn_ _ _
      exact absurd hn_ (by omega)
    | succ n_ ih =>
      intro i hi hn_ ls hl
      refine lv_iload_n hx hb dX7_backOf_4 rfl (lv_at hl 2 rfl) ?_
      refine lv_aload_n hx hb dX7_backOf_5 rfl (lv_at hl 0 rfl) ?_
      refine k_get S hK hP.1 rfl (fun _ h => List.mem_cons_of_mem _ (List.mem_append_right _ (h))) 0 (by decide) (List.mem_cons_of_mem _ (List.mem_append_left _ (List.mem_of_getElem? (i := 0) rfl))) rfl (v := .ref (o + 1)) rfl dX7_backOf_6 ?_
      refine lv_iconst (v := nI 0) hx hb dX7_backOf_9 (by decide) ?_
      refine k_iald hx hb hK hP.2.1 (by omega) (by decide) (v := nI (cn z)) (iv_n hI) dX7_backOf_10 ?_
      refine n_ige (tgt := 28) hx hb dX7_backOf_11 (by decide) (by omega) (by omega) (fun c11 => ?_) (fun c11 => ?_)
      · refine lv_iload_n hx hb dX7_backOf_28 rfl (lv_at hl 1 rfl) ?_
        refine lv_if_ne (tgt := 36) hx hb dX7_backOf_29 (by decide) (fun c29 => ?_) (fun c29 => ?_)
        · refine lv_aload_n hx hb dX7_backOf_36 rfl (lv_at hl 0 rfl) ?_
          refine k_get S hK hP.1 rfl (fun _ h => List.mem_cons_of_mem _ (List.mem_append_right _ (h))) 0 (by decide) (List.mem_cons_of_mem _ (List.mem_append_left _ (List.mem_of_getElem? (i := 0) rfl))) rfl (v := .ref (o + 1)) rfl dX7_backOf_37 ?_
          refine lv_iconst (v := nI 2) hx hb dX7_backOf_40 (by decide) ?_
          refine k_iald hx hb hK hP.2.1 (by omega) (by decide) (v := z 2) rfl dX7_backOf_41 ?_
          refine lv_aload_n hx hb dX7_backOf_42 rfl (lv_at hl 0 rfl) ?_
          refine k_get S hK hP.1 rfl (fun _ h => List.mem_cons_of_mem _ (List.mem_append_right _ (h))) 0 (by decide) (List.mem_cons_of_mem _ (List.mem_append_left _ (List.mem_of_getElem? (i := 0) rfl))) rfl (v := .ref (o + 1)) rfl dX7_backOf_43 ?_
          refine lv_iconst (v := nI 3) hx hb dX7_backOf_46 (by decide) ?_
          refine k_iald hx hb hK hP.2.1 (by omega) (by decide) (v := z 3) rfl dX7_backOf_47 ?_
          refine lv_iadd hx hb dX7_backOf_48 ?_
          refine lv_aload_n hx hb dX7_backOf_49 rfl (lv_at hl 0 rfl) ?_
          refine k_get S hK hP.1 rfl (fun _ h => List.mem_cons_of_mem _ (List.mem_append_right _ (h))) 0 (by decide) (List.mem_cons_of_mem _ (List.mem_append_left _ (List.mem_of_getElem? (i := 0) rfl))) rfl (v := .ref (o + 1)) rfl dX7_backOf_50 ?_
          refine lv_iconst (v := nI 4) hx hb dX7_backOf_53 (by decide) ?_
          refine k_iald hx hb hK hP.2.1 (by omega) (by decide) (v := z 4) rfl dX7_backOf_54 ?_
          refine lv_isub hx hb dX7_backOf_55 ?_
          refine lv_i2d hx hb dX7_backOf_56 ?_
          refine lv_iload_n hx hb dX7_backOf_57 rfl (lv_at hl 1 rfl) ?_
          refine lv_i2d hx hb dX7_backOf_58 ?_
          refine lv_ddiv hx hb dX7_backOf_59 (by have e9 : i = cn z := (by omega); subst e9; rcases coN_0 hI with k | k; exact absurd k c29; exact fp_nn (fp_nnq _ _ (by omega))) ?_
          exact k_dret hx hb hr hlk dX7_backOf_60 (by have e9 : i = cn z := (by omega); subst e9; exact iF_f c29)
        · refine lv_dconst0 hx hb dX7_backOf_32 ?_
          refine lv_goto (tgt := 60) hx hb dX7_backOf_33 (by decide) ?_
          exact k_dret hx hb hr hlk dX7_backOf_60 (by have e9 : i = cn z := (by omega); subst e9; exact iF_t c29)
      · refine lv_iload_n hx hb dX7_backOf_14 rfl (lv_at hl 1 rfl) ?_
        refine lv_aload_n hx hb dX7_backOf_15 rfl (lv_at hl 0 rfl) ?_
        refine lv_iload_n hx hb dX7_backOf_16 rfl (lv_at hl 2 rfl) ?_
        refine k_V (As := [.int (nI i)]) (rest := [.int (coN z i)]) S hK (c_X7_costOf l E o z w i hI c11) gX7_backOf_X7_costOf rfl hd_X7_costOf ⟨rfl, rfl⟩ ⟨Nat.le_of_ble_eq_true rfl, Nat.le_of_ble_eq_true rfl⟩ (k_recv hK hP.1 rfl) hP rfl hl.1 rfl (Nat.le_of_ble_eq_true rfl) dX7_backOf_17 ⟨Nat.le_of_ble_eq_true rfl, Nat.le_of_ble_eq_true rfl⟩ ?_
        refine lv_iadd hx hb dX7_backOf_20 ?_
        refine lv_istore_n (lv' := [(1, .int ((coN z i) + (cst z i))), (0, .ref o), (2, .int (nI i))]) hx hb dX7_backOf_21 rfl hl (by decide) rfl (fun ls hl => ?_)
        refine lv_iinc (v := nI (i + 1)) (lv' := [(2, .int (nI (i + 1))), (1, .int ((coN z i) + (cst z i))), (0, .ref o)]) hx hb dX7_backOf_22 hl (k := 2) rfl (inc_1 _) (by decide) rfl (fun ls hl => ?_)
        refine lv_goto (tgt := 4) hx hb dX7_backOf_25 (by decide) ?_
        have hl : lv_has ls 3 [(0, .ref o), (1, .int (coN z (i + 1))), (2, .int (nI (i + 1)))] := by
          have h9 := lv_sub (l' := [(0, .ref o), (1, .int ((coN z i) + (cst z i))), (2, .int (nI (i + 1)))]) hl [2, 1, 0] rfl
          rw [show (.int (coN z (i + 1)) : Value) = .int ((coN z i) + (cst z i)) from congrArg Value.int rfl]
          exact h9
        exact ih (i + 1) (by omega) (by omega) _ hl
  refine lv_iconst (v := nI 0) hx hb dX7_backOf_0 (by decide) ?_
  refine lv_istore_n (lv' := [(1, .int (nI 0)), (0, .ref o)]) hx hb dX7_backOf_1 rfl hl (by decide) rfl (fun ls hl => ?_)
  refine lv_iconst (v := nI 0) hx hb dX7_backOf_2 (by decide) ?_
  refine lv_istore_n (lv' := [(2, .int (nI 0)), (1, .int (nI 0)), (0, .ref o)]) hx hb dX7_backOf_3 rfl hl (by decide) rfl (fun ls hl => ?_)
  have hl : lv_has ls 3 [(0, .ref o), (1, .int (coN z 0)), (2, .int (nI 0))] := by
    have h9 := lv_sub (l' := [(0, .ref o), (1, .int (nI 0)), (2, .int (nI 0))]) hl [2, 1, 0] rfl
    rw [show (.int (coN z 0) : Value) = .int (nI 0) from congrArg Value.int rfl]
    exact h9
  exact J4 (cn z + 1) 0 (by omega) (by omega) _ hl
def rm_X7_backShare : Room := { frames := 3, cells := 0, slots := 0, locals := 63 }
theorem hd_X7_backShare : k_hd1 yX7_backShare RX7 0 := by decide +kernel
set_option maxHeartbeats 4000000 in
set_option maxRecDepth 100000 in
theorem c_X7_backShare (l : Launch) (E : ke_E) (o : Nat) (z : Nat → Int32) (w : md_w) (hI : iv z) : Met l yX7_backShare wsX7_backShare rm_X7_backShare (kp E [.ref o] (md E o z w)) (qm (some (.double (bkD z))) (bl o 6) (md E o z (w_th w (nI 0)))) 0 0 (bl o 6) := by
  refine k_hd (cc := cX7_backShare) (maxL := 1) (ret := (some .double)) (by decide) rfl (Nat.le_of_ble_eq_true rfl) ?_
  intro p e s m below meth c ls S hr hlk hnm hK hP hl
  have hx := S.1
  have hb := S.2.1
  have hts := S.2.2.2.2
  have hP : md E o z w s.heap := hP
  have hl : lv_has ls 1 [(0, .ref o)] := hl
  have hS : va_S (bl o 6) s.heap s.heap [] := va_S.rf
  have hcn := iv_c hI
  refine lv_aload_n hx hb dX7_backShare_0 rfl (lv_at hl 0 rfl) ?_
  refine lv_iconst (v := nI 0) hx hb dX7_backShare_1 (by decide) ?_
  refine md_put (w' := w_th w (nI 0)) S hK hP (fun _ h => List.mem_cons_of_mem _ (List.mem_append_right _ (h))) 6 (by decide) (List.mem_cons_of_mem _ (List.mem_append_left _ (List.mem_of_getElem? (i := 0) rfl))) rfl rfl rfl rfl rfl rfl rfl rfl rfl hS (fun _ h => h) dX7_backShare_2 (fun H locs hP zH fH hS => ?_)
  refine lv_aload_n hx hb dX7_backShare_5 rfl (lv_at hl 0 rfl) ?_
  refine k_V (As := []) (rest := []) S hK (c_X7_backOf l E o z (w_th w (nI 0)) hI) gX7_backShare_X7_backOf rfl hd_X7_backOf ⟨rfl, rfl⟩ ⟨Nat.le_of_ble_eq_true rfl, Nat.le_of_ble_eq_true rfl⟩ (k_recv hK hP.1 rfl) hP rfl hl.1 rfl (Nat.le_of_ble_eq_true rfl) dX7_backShare_6 ⟨Nat.le_of_ble_eq_true rfl, Nat.le_of_ble_eq_true rfl⟩ ?_
  exact k_dretM hx hb hr hlk dX7_backShare_9 hS hP (rfl)
def rm_X7_mix : Room := { frames := 0, cells := 0, slots := 0, locals := 0 }
theorem hd_X7_mix : k_hd1 yX7_mix RX7 1 := by decide +kernel
set_option maxHeartbeats 4000000 in
set_option maxRecDepth 100000 in
theorem c_X7_mix (l : Launch) (E : ke_E) (o : Nat) (z : Nat → Int32) (w : md_w) (v : Int64) : Met l yX7_mix wsX7_mix rm_X7_mix (kp E [.ref o, .long v] (md E o z w)) (qm none (bl o 6) (md E o z (w_h w (31 * (q_h w) + v)))) 0 0 (bl o 6) := by
  refine k_hd (cc := cX7_mix) (maxL := 3) (ret := none) (by decide) rfl (Nat.le_of_ble_eq_true rfl) ?_
  intro p e s m below meth c ls S hr hlk hnm hK hP hl
  have hx := S.1
  have hb := S.2.1
  have hts := S.2.2.2.2
  have hP : md E o z w s.heap := hP
  have hl : lv_has ls 3 [(0, .ref o), (1, .long v)] := hl
  have hS : va_S (bl o 6) s.heap s.heap [] := va_S.rf
  refine lv_aload_n hx hb dX7_mix_0 rfl (lv_at hl 0 rfl) ?_
  refine lv_ldc2 (v := 31) hx hb S.2.2.2.1 (hts _ (List.mem_cons_of_mem _ (List.mem_append_left _ (List.mem_of_getElem? (i := 0) rfl)))) dX7_mix_1 ?_
  refine lv_aload_n hx hb dX7_mix_4 rfl (lv_at hl 0 rfl) ?_
  refine k_get S hK hP.1 rfl (fun _ h => List.mem_cons_of_mem _ (List.mem_append_right _ (h))) 10 (by decide) (List.mem_cons_of_mem _ (List.mem_append_left _ (List.mem_of_getElem? (i := 1) rfl))) rfl (v := .long (q_h w)) rfl dX7_mix_5 ?_
  refine lv_lmul hx hb dX7_mix_8 ?_
  refine lv_lload_n hx hb dX7_mix_9 rfl (lv_at hl 1 rfl) ?_
  refine lv_ladd hx hb dX7_mix_10 ?_
  refine md_put (w' := w_h w ((31 * (q_h w)) + v)) S hK hP (fun _ h => List.mem_cons_of_mem _ (List.mem_append_right _ (h))) 10 (by decide) (List.mem_cons_of_mem _ (List.mem_append_left _ (List.mem_of_getElem? (i := 1) rfl))) rfl rfl rfl rfl rfl rfl rfl rfl rfl hS (fun _ h => h) dX7_mix_11 (fun H locs hP zH fH hS => ?_)
  exact k_vretM hx hb hr hlk dX7_mix_14 hS (show md E o z (w_h w (31 * (q_h w) + v)) _ from hP)
def rm_X7_mixUnit : Room := { frames := 5, cells := 0, slots := 0, locals := 118 }
theorem hd_X7_mixUnit : k_hd1 yX7_mixUnit RX7 1 := by decide +kernel
set_option maxHeartbeats 4000000 in
set_option maxRecDepth 100000 in
theorem c_X7_mixUnit (l : Launch) (E : ke_E) (o : Nat) (z : Nat → Int32) (w : md_w) (u : Nat) (hI : iv z) (hu : u < cn z) : Met l yX7_mixUnit wsX7_mixUnit rm_X7_mixUnit (kp E [.ref o, .int (nI u)] (md E o z w)) (qm none (bl o 6) (md E o z (w_h w (muH z u (q_h w))))) 0 0 (bl o 6) := by
  refine k_hd (cc := cX7_mixUnit) (maxL := 3) (ret := none) (by decide) rfl (Nat.le_of_ble_eq_true rfl) ?_
  intro p e s m below meth c ls S hr hlk hnm hK hP hl
  have hx := S.1
  have hb := S.2.1
  have hts := S.2.2.2.2
  have hP : md E o z w s.heap := hP
  have hl : lv_has ls 3 [(0, .ref o), (1, .int (nI u))] := hl
  have hS : va_S (bl o 6) s.heap s.heap [] := va_S.rf
  have hcn := iv_c hI
  have J51 : ∀ (n_ : Nat), ∀ (k : Nat), k ≤ 3 → 3 < k + n_ → ∀ (H : Heap) (locs : List Loc), md E o z (w_h w (fl (rpV z u) (mx (mx (mx (mx (fl (unV z u) (q_h w) 14) (wy1 z u)) (wy2 z u)) (wy3 z u)) (wy4 z u)) k)) H → va_S (bl o 6) s.heap H locs → ∀ (ls : Array Slot), lv_has ls 3 [(0, .ref o), (1, .int (nI u)), (2, .int (nI k))] → W p l e (headSpec wsX7_mixUnit rm_X7_mixUnit).room s m ([.ref o, .int (nI u)] : List Value).toArray below meth c H locs 0 0 (MQ below (qm none (bl o 6) (md E o z (w_h w (muH z u (q_h w))))) ([.ref o, .int (nI u)] : List Value).toArray s 0 0 (bl o 6)) (F0 m 51 ls []) := by
    intro n_
    induction n_ with
    | zero =>
      intro k hk hn_ _ _ _ _ _ _
      exact absurd hn_ (by omega)
    | succ n_ ih =>
      intro k hk hn_ H locs hW0 hS ls hl
      refine lv_iload_n hx hb dX7_mixUnit_51 rfl (lv_at hl 2 rfl) ?_
      refine lv_iconst (v := nI 3) hx hb dX7_mixUnit_52 (by decide) ?_
      refine n_ige (tgt := 73) hx hb dX7_mixUnit_53 (by decide) (by omega) (by omega) (fun c53 => ?_) (fun c53 => ?_)
      · refine lv_aload_n hx hb dX7_mixUnit_73 rfl (lv_at hl 0 rfl) ?_
        refine lv_aload_n hx hb dX7_mixUnit_74 rfl (lv_at hl 0 rfl) ?_
        refine lv_iload_n hx hb dX7_mixUnit_75 rfl (lv_at hl 1 rfl) ?_
        refine k_V (As := [.int (nI u)]) (rest := [.ref o]) S hK (c_X7_routeOf l E o z (w_h w (fl (rpV z u) (mx (mx (mx (mx (fl (unV z u) (q_h w) 14) (wy1 z u)) (wy2 z u)) (wy3 z u)) (wy4 z u)) k)) u hI hu) gX7_mixUnit_X7_routeOf rfl hd_X7_routeOf ⟨rfl, rfl⟩ ⟨Nat.le_of_ble_eq_true rfl, Nat.le_of_ble_eq_true rfl⟩ (k_recv hK hW0.1 rfl) hW0 rfl hl.1 rfl (Nat.le_of_ble_eq_true rfl) dX7_mixUnit_76 ⟨Nat.le_of_ble_eq_true rfl, Nat.le_of_ble_eq_true rfl⟩ ?_
        refine lv_i2l hx hb dX7_mixUnit_79 rfl ?_
        refine k_VM (As := [.long ((rt z u 5).1.toInt64)]) (rest := []) S hK (c_X7_mix l E o z (w_h w (fl (rpV z u) (mx (mx (mx (mx (fl (unV z u) (q_h w) 14) (wy1 z u)) (wy2 z u)) (wy3 z u)) (wy4 z u)) k)) ((rt z u 5).1.toInt64)) gX7_mixUnit_X7_mix rfl hd_X7_mix ⟨rfl, rfl⟩ ⟨Nat.le_of_ble_eq_true rfl, Nat.le_of_ble_eq_true rfl⟩ (k_recv hK hW0.1 rfl) hW0 rfl hl.1 rfl (Nat.le_of_ble_eq_true rfl) dX7_mixUnit_80 ⟨Nat.le_of_ble_eq_true rfl, Nat.le_of_ble_eq_true rfl⟩ hS (fun q h => h) (fun q h => h) (fun H locs hQ zH fH hS => ?_)
        have hP := hQ
        have hP : md E o z (w_h w (31 * (fl (rpV z u) (mx (mx (mx (mx (fl (unV z u) (q_h w) 14) (wy1 z u)) (wy2 z u)) (wy3 z u)) (wy4 z u)) k) + ((rt z u 5).1.toInt64))) H := hP
        refine lv_aload_n hx hb dX7_mixUnit_83 rfl (lv_at hl 0 rfl) ?_
        refine lv_aload_n hx hb dX7_mixUnit_84 rfl (lv_at hl 0 rfl) ?_
        refine lv_iload_n hx hb dX7_mixUnit_85 rfl (lv_at hl 1 rfl) ?_
        refine k_V (As := [.int (nI u)]) (rest := [.ref o]) S hK (c_X7_claimableOf l E o z (w_h w (31 * (fl (rpV z u) (mx (mx (mx (mx (fl (unV z u) (q_h w) 14) (wy1 z u)) (wy2 z u)) (wy3 z u)) (wy4 z u)) k) + ((rt z u 5).1.toInt64))) u hI hu) gX7_mixUnit_X7_claimableOf rfl hd_X7_claimableOf ⟨rfl, rfl⟩ ⟨Nat.le_of_ble_eq_true rfl, Nat.le_of_ble_eq_true rfl⟩ (k_recv hK hP.1 rfl) hP rfl hl.1 rfl (Nat.le_of_ble_eq_true rfl) dX7_mixUnit_86 ⟨Nat.le_of_ble_eq_true rfl, Nat.le_of_ble_eq_true rfl⟩ ?_
        refine lv_i2l hx hb dX7_mixUnit_89 rfl ?_
        refine k_VM (As := [.long ((amT z u).toInt64)]) (rest := []) S hK (c_X7_mix l E o z (w_h w (31 * (fl (rpV z u) (mx (mx (mx (mx (fl (unV z u) (q_h w) 14) (wy1 z u)) (wy2 z u)) (wy3 z u)) (wy4 z u)) k) + ((rt z u 5).1.toInt64))) ((amT z u).toInt64)) gX7_mixUnit_X7_mix rfl hd_X7_mix ⟨rfl, rfl⟩ ⟨Nat.le_of_ble_eq_true rfl, Nat.le_of_ble_eq_true rfl⟩ (k_recv hK hP.1 rfl) hP rfl hl.1 rfl (Nat.le_of_ble_eq_true rfl) dX7_mixUnit_90 ⟨Nat.le_of_ble_eq_true rfl, Nat.le_of_ble_eq_true rfl⟩ hS (fun q h => h) (fun q h => h) (fun H locs hQ zH fH hS => ?_)
        have hP := hQ
        have hP : md E o z (w_h w (31 * (31 * (fl (rpV z u) (mx (mx (mx (mx (fl (unV z u) (q_h w) 14) (wy1 z u)) (wy2 z u)) (wy3 z u)) (wy4 z u)) k) + ((rt z u 5).1.toInt64)) + ((amT z u).toInt64))) H := hP
        exact k_vretM hx hb hr hlk dX7_mixUnit_93 hS (show md E o z (w_h w (muH z u (q_h w))) _ from (by have e9 : k = 3 := (by omega); rw [e9] at hP; exact hP))
      · refine lv_aload_n hx hb dX7_mixUnit_56 rfl (lv_at hl 0 rfl) ?_
        refine lv_aload_n hx hb dX7_mixUnit_57 rfl (lv_at hl 0 rfl) ?_
        refine lv_iload_n hx hb dX7_mixUnit_58 rfl (lv_at hl 1 rfl) ?_
        refine lv_iload_n hx hb dX7_mixUnit_59 rfl (lv_at hl 2 rfl) ?_
        refine k_V (As := [.int (nI u), .int (nI k)]) (rest := [.ref o]) S hK (c_X7_repairedOf l E o z (w_h w (fl (rpV z u) (mx (mx (mx (mx (fl (unV z u) (q_h w) 14) (wy1 z u)) (wy2 z u)) (wy3 z u)) (wy4 z u)) k)) u k hI hu c53) gX7_mixUnit_X7_repairedOf rfl hd_X7_repairedOf ⟨rfl, rfl⟩ ⟨Nat.le_of_ble_eq_true rfl, Nat.le_of_ble_eq_true rfl⟩ (k_recv hK hW0.1 rfl) hW0 rfl hl.1 rfl (Nat.le_of_ble_eq_true rfl) dX7_mixUnit_60 ⟨Nat.le_of_ble_eq_true rfl, Nat.le_of_ble_eq_true rfl⟩ ?_
        refine lv_i2l hx hb dX7_mixUnit_63 rfl ?_
        refine k_VM (As := [.long ((rpV z u k).toInt64)]) (rest := []) S hK (c_X7_mix l E o z (w_h w (fl (rpV z u) (mx (mx (mx (mx (fl (unV z u) (q_h w) 14) (wy1 z u)) (wy2 z u)) (wy3 z u)) (wy4 z u)) k)) ((rpV z u k).toInt64)) gX7_mixUnit_X7_mix rfl hd_X7_mix ⟨rfl, rfl⟩ ⟨Nat.le_of_ble_eq_true rfl, Nat.le_of_ble_eq_true rfl⟩ (k_recv hK hW0.1 rfl) hW0 rfl hl.1 rfl (Nat.le_of_ble_eq_true rfl) dX7_mixUnit_64 ⟨Nat.le_of_ble_eq_true rfl, Nat.le_of_ble_eq_true rfl⟩ hS (fun q h => h) (fun q h => h) (fun H locs hQ zH fH hS => ?_)
        have hP := hQ
        have hP : md E o z (w_h w (31 * (fl (rpV z u) (mx (mx (mx (mx (fl (unV z u) (q_h w) 14) (wy1 z u)) (wy2 z u)) (wy3 z u)) (wy4 z u)) k) + ((rpV z u k).toInt64))) H := hP
        refine lv_iinc (v := nI (k + 1)) (lv' := [(2, .int (nI (k + 1))), (0, .ref o), (1, .int (nI u))]) hx hb dX7_mixUnit_67 hl (k := 2) rfl (inc_1 _) (by decide) rfl (fun ls hl => ?_)
        refine lv_goto (tgt := 51) hx hb dX7_mixUnit_70 (by decide) ?_
        exact ih (k + 1) (by omega) (by omega) _ _ (show md E o z (w_h w (fl (rpV z u) (mx (mx (mx (mx (fl (unV z u) (q_h w) 14) (wy1 z u)) (wy2 z u)) (wy3 z u)) (wy4 z u)) (k + 1))) _ from hP) hS _ (lv_sub hl [1, 2, 0] rfl)
  have J25 : ∀ (H : Heap) (locs : List Loc), md E o z (w_h w (fl (unV z u) (q_h w) 14)) H → va_S (bl o 6) s.heap H locs → ∀ (ls : Array Slot), lv_has ls 3 [(0, .ref o), (1, .int (nI u))] → W p l e (headSpec wsX7_mixUnit rm_X7_mixUnit).room s m ([.ref o, .int (nI u)] : List Value).toArray below meth c H locs 0 0 (MQ below (qm none (bl o 6) (md E o z (w_h w (muH z u (q_h w))))) ([.ref o, .int (nI u)] : List Value).toArray s 0 0 (bl o 6)) (F0 m 25 ls []) := by
    intro H locs hW0 hS ls hl
    refine lv_iconst (v := nI 1) hx hb dX7_mixUnit_25 (by decide) ?_
    refine lv_istore_n (lv' := [(2, .int (nI 1)), (0, .ref o), (1, .int (nI u))]) hx hb dX7_mixUnit_26 rfl hl (by decide) rfl (fun ls hl => ?_)
    refine lv_iload_n hx hb dX7_mixUnit_27 rfl (lv_at hl 0 rfl) ?_
    refine lv_iconst (v := nI 5) hx hb dX7_mixUnit_28 (by decide) ?_
    refine n_ige (tgt := 49) hx hb dX7_mixUnit_29 (by decide) (by omega) (by omega) (fun h => absurd h (by decide)) (fun c29 => ?_)
    refine lv_aload_n hx hb dX7_mixUnit_32 rfl (lv_at hl 1 rfl) ?_
    refine lv_aload_n hx hb dX7_mixUnit_33 rfl (lv_at hl 1 rfl) ?_
    refine lv_iload_n hx hb dX7_mixUnit_34 rfl (lv_at hl 2 rfl) ?_
    refine lv_iload_n hx hb dX7_mixUnit_35 rfl (lv_at hl 0 rfl) ?_
    refine k_V (As := [.int (nI u), .int (nI 1)]) (rest := [.ref o]) S hK (c_X7_why_1 l E o z (w_h w (fl (unV z u) (q_h w) 14)) u hI hu) gX7_mixUnit_X7_why rfl hd_X7_why ⟨rfl, rfl⟩ ⟨Nat.le_of_ble_eq_true rfl, Nat.le_of_ble_eq_true rfl⟩ (k_recv hK hW0.1 rfl) hW0 rfl hl.1 rfl (Nat.le_of_ble_eq_true rfl) dX7_mixUnit_36 ⟨Nat.le_of_ble_eq_true rfl, Nat.le_of_ble_eq_true rfl⟩ ?_
    refine lv_i2l hx hb dX7_mixUnit_39 rfl ?_
    refine k_VM (As := [.long ((wy1 z u).toInt64)]) (rest := []) S hK (c_X7_mix l E o z (w_h w (fl (unV z u) (q_h w) 14)) ((wy1 z u).toInt64)) gX7_mixUnit_X7_mix rfl hd_X7_mix ⟨rfl, rfl⟩ ⟨Nat.le_of_ble_eq_true rfl, Nat.le_of_ble_eq_true rfl⟩ (k_recv hK hW0.1 rfl) hW0 rfl hl.1 rfl (Nat.le_of_ble_eq_true rfl) dX7_mixUnit_40 ⟨Nat.le_of_ble_eq_true rfl, Nat.le_of_ble_eq_true rfl⟩ hS (fun q h => h) (fun q h => h) (fun H locs hQ zH fH hS => ?_)
    have hP := hQ
    have hP : md E o z (w_h w (31 * (fl (unV z u) (q_h w) 14) + ((wy1 z u).toInt64))) H := hP
    refine lv_iinc (v := nI 2) (lv' := [(2, .int (nI 2)), (0, .ref o), (1, .int (nI u))]) hx hb dX7_mixUnit_43 hl (k := 0) rfl (by decide) (by decide) rfl (fun ls hl => ?_)
    refine lv_goto (tgt := 27) hx hb dX7_mixUnit_46 (by decide) ?_
    refine lv_iload_n hx hb dX7_mixUnit_27 rfl (lv_at hl 0 rfl) ?_
    refine lv_iconst (v := nI 5) hx hb dX7_mixUnit_28 (by decide) ?_
    refine n_ige (tgt := 49) hx hb dX7_mixUnit_29 (by decide) (by omega) (by omega) (fun h => absurd h (by decide)) (fun c29_1 => ?_)
    refine lv_aload_n hx hb dX7_mixUnit_32 rfl (lv_at hl 1 rfl) ?_
    refine lv_aload_n hx hb dX7_mixUnit_33 rfl (lv_at hl 1 rfl) ?_
    refine lv_iload_n hx hb dX7_mixUnit_34 rfl (lv_at hl 2 rfl) ?_
    refine lv_iload_n hx hb dX7_mixUnit_35 rfl (lv_at hl 0 rfl) ?_
    refine k_V (As := [.int (nI u), .int (nI 2)]) (rest := [.ref o]) S hK (c_X7_why_2 l E o z (w_h w (31 * (fl (unV z u) (q_h w) 14) + ((wy1 z u).toInt64))) u hI hu) gX7_mixUnit_X7_why rfl hd_X7_why ⟨rfl, rfl⟩ ⟨Nat.le_of_ble_eq_true rfl, Nat.le_of_ble_eq_true rfl⟩ (k_recv hK hP.1 rfl) hP rfl hl.1 rfl (Nat.le_of_ble_eq_true rfl) dX7_mixUnit_36 ⟨Nat.le_of_ble_eq_true rfl, Nat.le_of_ble_eq_true rfl⟩ ?_
    refine lv_i2l hx hb dX7_mixUnit_39 rfl ?_
    refine k_VM (As := [.long ((wy2 z u).toInt64)]) (rest := []) S hK (c_X7_mix l E o z (w_h w (31 * (fl (unV z u) (q_h w) 14) + ((wy1 z u).toInt64))) ((wy2 z u).toInt64)) gX7_mixUnit_X7_mix rfl hd_X7_mix ⟨rfl, rfl⟩ ⟨Nat.le_of_ble_eq_true rfl, Nat.le_of_ble_eq_true rfl⟩ (k_recv hK hP.1 rfl) hP rfl hl.1 rfl (Nat.le_of_ble_eq_true rfl) dX7_mixUnit_40 ⟨Nat.le_of_ble_eq_true rfl, Nat.le_of_ble_eq_true rfl⟩ hS (fun q h => h) (fun q h => h) (fun H locs hQ zH fH hS => ?_)
    have hP := hQ
    have hP : md E o z (w_h w (31 * (31 * (fl (unV z u) (q_h w) 14) + ((wy1 z u).toInt64)) + ((wy2 z u).toInt64))) H := hP
    refine lv_iinc (v := nI 3) (lv' := [(2, .int (nI 3)), (0, .ref o), (1, .int (nI u))]) hx hb dX7_mixUnit_43 hl (k := 0) rfl (by decide) (by decide) rfl (fun ls hl => ?_)
    refine lv_goto (tgt := 27) hx hb dX7_mixUnit_46 (by decide) ?_
    refine lv_iload_n hx hb dX7_mixUnit_27 rfl (lv_at hl 0 rfl) ?_
    refine lv_iconst (v := nI 5) hx hb dX7_mixUnit_28 (by decide) ?_
    refine n_ige (tgt := 49) hx hb dX7_mixUnit_29 (by decide) (by omega) (by omega) (fun h => absurd h (by decide)) (fun c29_2 => ?_)
    refine lv_aload_n hx hb dX7_mixUnit_32 rfl (lv_at hl 1 rfl) ?_
    refine lv_aload_n hx hb dX7_mixUnit_33 rfl (lv_at hl 1 rfl) ?_
    refine lv_iload_n hx hb dX7_mixUnit_34 rfl (lv_at hl 2 rfl) ?_
    refine lv_iload_n hx hb dX7_mixUnit_35 rfl (lv_at hl 0 rfl) ?_
    refine k_V (As := [.int (nI u), .int (nI 3)]) (rest := [.ref o]) S hK (c_X7_why_3 l E o z (w_h w (31 * (31 * (fl (unV z u) (q_h w) 14) + ((wy1 z u).toInt64)) + ((wy2 z u).toInt64))) u hI hu) gX7_mixUnit_X7_why rfl hd_X7_why ⟨rfl, rfl⟩ ⟨Nat.le_of_ble_eq_true rfl, Nat.le_of_ble_eq_true rfl⟩ (k_recv hK hP.1 rfl) hP rfl hl.1 rfl (Nat.le_of_ble_eq_true rfl) dX7_mixUnit_36 ⟨Nat.le_of_ble_eq_true rfl, Nat.le_of_ble_eq_true rfl⟩ ?_
    refine lv_i2l hx hb dX7_mixUnit_39 rfl ?_
    refine k_VM (As := [.long ((wy3 z u).toInt64)]) (rest := []) S hK (c_X7_mix l E o z (w_h w (31 * (31 * (fl (unV z u) (q_h w) 14) + ((wy1 z u).toInt64)) + ((wy2 z u).toInt64))) ((wy3 z u).toInt64)) gX7_mixUnit_X7_mix rfl hd_X7_mix ⟨rfl, rfl⟩ ⟨Nat.le_of_ble_eq_true rfl, Nat.le_of_ble_eq_true rfl⟩ (k_recv hK hP.1 rfl) hP rfl hl.1 rfl (Nat.le_of_ble_eq_true rfl) dX7_mixUnit_40 ⟨Nat.le_of_ble_eq_true rfl, Nat.le_of_ble_eq_true rfl⟩ hS (fun q h => h) (fun q h => h) (fun H locs hQ zH fH hS => ?_)
    have hP := hQ
    have hP : md E o z (w_h w (31 * (31 * (31 * (fl (unV z u) (q_h w) 14) + ((wy1 z u).toInt64)) + ((wy2 z u).toInt64)) + ((wy3 z u).toInt64))) H := hP
    refine lv_iinc (v := nI 4) (lv' := [(2, .int (nI 4)), (0, .ref o), (1, .int (nI u))]) hx hb dX7_mixUnit_43 hl (k := 0) rfl (by decide) (by decide) rfl (fun ls hl => ?_)
    refine lv_goto (tgt := 27) hx hb dX7_mixUnit_46 (by decide) ?_
    refine lv_iload_n hx hb dX7_mixUnit_27 rfl (lv_at hl 0 rfl) ?_
    refine lv_iconst (v := nI 5) hx hb dX7_mixUnit_28 (by decide) ?_
    refine n_ige (tgt := 49) hx hb dX7_mixUnit_29 (by decide) (by omega) (by omega) (fun h => absurd h (by decide)) (fun c29_3 => ?_)
    refine lv_aload_n hx hb dX7_mixUnit_32 rfl (lv_at hl 1 rfl) ?_
    refine lv_aload_n hx hb dX7_mixUnit_33 rfl (lv_at hl 1 rfl) ?_
    refine lv_iload_n hx hb dX7_mixUnit_34 rfl (lv_at hl 2 rfl) ?_
    refine lv_iload_n hx hb dX7_mixUnit_35 rfl (lv_at hl 0 rfl) ?_
    refine k_V (As := [.int (nI u), .int (nI 4)]) (rest := [.ref o]) S hK (c_X7_why_4 l E o z (w_h w (31 * (31 * (31 * (fl (unV z u) (q_h w) 14) + ((wy1 z u).toInt64)) + ((wy2 z u).toInt64)) + ((wy3 z u).toInt64))) u hI hu) gX7_mixUnit_X7_why rfl hd_X7_why ⟨rfl, rfl⟩ ⟨Nat.le_of_ble_eq_true rfl, Nat.le_of_ble_eq_true rfl⟩ (k_recv hK hP.1 rfl) hP rfl hl.1 rfl (Nat.le_of_ble_eq_true rfl) dX7_mixUnit_36 ⟨Nat.le_of_ble_eq_true rfl, Nat.le_of_ble_eq_true rfl⟩ ?_
    refine lv_i2l hx hb dX7_mixUnit_39 rfl ?_
    refine k_VM (As := [.long ((wy4 z u).toInt64)]) (rest := []) S hK (c_X7_mix l E o z (w_h w (31 * (31 * (31 * (fl (unV z u) (q_h w) 14) + ((wy1 z u).toInt64)) + ((wy2 z u).toInt64)) + ((wy3 z u).toInt64))) ((wy4 z u).toInt64)) gX7_mixUnit_X7_mix rfl hd_X7_mix ⟨rfl, rfl⟩ ⟨Nat.le_of_ble_eq_true rfl, Nat.le_of_ble_eq_true rfl⟩ (k_recv hK hP.1 rfl) hP rfl hl.1 rfl (Nat.le_of_ble_eq_true rfl) dX7_mixUnit_40 ⟨Nat.le_of_ble_eq_true rfl, Nat.le_of_ble_eq_true rfl⟩ hS (fun q h => h) (fun q h => h) (fun H locs hQ zH fH hS => ?_)
    have hP := hQ
    have hP : md E o z (w_h w (31 * (31 * (31 * (31 * (fl (unV z u) (q_h w) 14) + ((wy1 z u).toInt64)) + ((wy2 z u).toInt64)) + ((wy3 z u).toInt64)) + ((wy4 z u).toInt64))) H := hP
    refine lv_iinc (v := nI 5) (lv' := [(2, .int (nI 5)), (0, .ref o), (1, .int (nI u))]) hx hb dX7_mixUnit_43 hl (k := 0) rfl (by decide) (by decide) rfl (fun ls hl => ?_)
    refine lv_goto (tgt := 27) hx hb dX7_mixUnit_46 (by decide) ?_
    refine lv_iload_n hx hb dX7_mixUnit_27 rfl (lv_at hl 0 rfl) ?_
    refine lv_iconst (v := nI 5) hx hb dX7_mixUnit_28 (by decide) ?_
    refine n_ige (tgt := 49) hx hb dX7_mixUnit_29 (by decide) (by omega) (by omega) (fun c29_4 => ?_) (fun h => absurd h (by decide))
    refine lv_iconst (v := nI 0) hx hb dX7_mixUnit_49 (by decide) ?_
    refine lv_istore_n (lv' := [(2, .int (nI 0)), (0, .ref o), (1, .int (nI u))]) hx hb dX7_mixUnit_50 rfl hl (by decide) rfl (fun ls hl => ?_)
    exact J51 (3 + 1) 0 (by omega) (by omega) _ _ (show md E o z (w_h w (fl (rpV z u) (mx (mx (mx (mx (fl (unV z u) (q_h w) 14) (wy1 z u)) (wy2 z u)) (wy3 z u)) (wy4 z u)) 0)) _ from hP) hS _ (lv_sub hl [1, 2, 0] rfl)
  have J2 : ∀ (n_ : Nat), ∀ (k : Nat), k ≤ 14 → 14 < k + n_ → ∀ (H : Heap) (locs : List Loc), md E o z (w_h w (fl (unV z u) (q_h w) k)) H → va_S (bl o 6) s.heap H locs → ∀ (ls : Array Slot), lv_has ls 3 [(0, .ref o), (1, .int (nI u)), (2, .int (nI k))] → W p l e (headSpec wsX7_mixUnit rm_X7_mixUnit).room s m ([.ref o, .int (nI u)] : List Value).toArray below meth c H locs 0 0 (MQ below (qm none (bl o 6) (md E o z (w_h w (muH z u (q_h w))))) ([.ref o, .int (nI u)] : List Value).toArray s 0 0 (bl o 6)) (F0 m 2 ls []) := by
    intro n_
    induction n_ with
    | zero =>
      intro k hk hn_ _ _ _ _ _ _
      exact absurd hn_ (by omega)
    | succ n_ ih =>
      intro k hk hn_ H locs hW0 hS ls hl
      refine lv_iload_n hx hb dX7_mixUnit_2 rfl (lv_at hl 2 rfl) ?_
      refine lv_bipush (v := nI 14) hx hb dX7_mixUnit_3 (by decide) ?_
      refine n_ige (tgt := 25) hx hb dX7_mixUnit_5 (by decide) (by omega) (by omega) (fun c5 => ?_) (fun c5 => ?_)
      · exact J25 _ _ (show md E o z (w_h w (fl (unV z u) (q_h w) 14)) _ from (by have e9 : k = 14 := (by omega); rw [e9] at hW0; exact hW0)) hS _ (lv_sub hl [0, 1] rfl)
      · refine lv_aload_n hx hb dX7_mixUnit_8 rfl (lv_at hl 0 rfl) ?_
        refine lv_aload_n hx hb dX7_mixUnit_9 rfl (lv_at hl 0 rfl) ?_
        refine lv_iload_n hx hb dX7_mixUnit_10 rfl (lv_at hl 1 rfl) ?_
        refine lv_iload_n hx hb dX7_mixUnit_11 rfl (lv_at hl 2 rfl) ?_
        refine k_V (As := [.int (nI u), .int (nI k)]) (rest := [.ref o]) S hK (c_X7_unitOf l E o z (w_h w (fl (unV z u) (q_h w) k)) u k hI hu c5) gX7_mixUnit_X7_unitOf rfl hd_X7_unitOf ⟨rfl, rfl⟩ ⟨Nat.le_of_ble_eq_true rfl, Nat.le_of_ble_eq_true rfl⟩ (k_recv hK hW0.1 rfl) hW0 rfl hl.1 rfl (Nat.le_of_ble_eq_true rfl) dX7_mixUnit_12 ⟨Nat.le_of_ble_eq_true rfl, Nat.le_of_ble_eq_true rfl⟩ ?_
        refine lv_i2l hx hb dX7_mixUnit_15 rfl ?_
        refine k_VM (As := [.long ((unV z u k).toInt64)]) (rest := []) S hK (c_X7_mix l E o z (w_h w (fl (unV z u) (q_h w) k)) ((unV z u k).toInt64)) gX7_mixUnit_X7_mix rfl hd_X7_mix ⟨rfl, rfl⟩ ⟨Nat.le_of_ble_eq_true rfl, Nat.le_of_ble_eq_true rfl⟩ (k_recv hK hW0.1 rfl) hW0 rfl hl.1 rfl (Nat.le_of_ble_eq_true rfl) dX7_mixUnit_16 ⟨Nat.le_of_ble_eq_true rfl, Nat.le_of_ble_eq_true rfl⟩ hS (fun q h => h) (fun q h => h) (fun H locs hQ zH fH hS => ?_)
        have hP := hQ
        have hP : md E o z (w_h w (31 * (fl (unV z u) (q_h w) k) + ((unV z u k).toInt64))) H := hP
        refine lv_iinc (v := nI (k + 1)) (lv' := [(2, .int (nI (k + 1))), (0, .ref o), (1, .int (nI u))]) hx hb dX7_mixUnit_19 hl (k := 2) rfl (inc_1 _) (by decide) rfl (fun ls hl => ?_)
        refine lv_goto (tgt := 2) hx hb dX7_mixUnit_22 (by decide) ?_
        exact ih (k + 1) (by omega) (by omega) _ _ (show md E o z (w_h w (fl (unV z u) (q_h w) (k + 1))) _ from hP) hS _ (lv_sub hl [1, 2, 0] rfl)
  refine lv_iconst (v := nI 0) hx hb dX7_mixUnit_0 (by decide) ?_
  refine lv_istore_n (lv' := [(2, .int (nI 0)), (0, .ref o), (1, .int (nI u))]) hx hb dX7_mixUnit_1 rfl hl (by decide) rfl (fun ls hl => ?_)
  exact J2 (14 + 1) 0 (by omega) (by omega) _ _ (show md E o z (w_h w (fl (unV z u) (q_h w) 0)) _ from hP) hS _ (lv_sub hl [1, 2, 0] rfl)
def rm_X7_mixRows : Room := { frames := 6, cells := 0, slots := 0, locals := 140 }
theorem hd_X7_mixRows : k_hd1 yX7_mixRows RX7 0 := by decide +kernel
set_option maxHeartbeats 4000000 in
set_option maxRecDepth 100000 in
theorem c_X7_mixRows (l : Launch) (E : ke_E) (o : Nat) (z : Nat → Int32) (w : md_w) (hI : iv z) : Met l yX7_mixRows wsX7_mixRows rm_X7_mixRows (kp E [.ref o] (md E o z w)) (qm none (bl o 6) (md E o z (w_h w (rwH z (q_h w))))) 0 0 (bl o 6) := by
  refine k_hd (cc := cX7_mixRows) (maxL := 2) (ret := none) (by decide) rfl (Nat.le_of_ble_eq_true rfl) ?_
  intro p e s m below meth c ls S hr hlk hnm hK hP hl
  have hx := S.1
  have hb := S.2.1
  have hts := S.2.2.2.2
  have hP : md E o z w s.heap := hP
  have hl : lv_has ls 2 [(0, .ref o)] := hl
  have hS : va_S (bl o 6) s.heap s.heap [] := va_S.rf
  have hcn := iv_c hI
  have J56 : ∀ (n_ : Nat), ∀ (k : Nat), k ≤ 40 → 40 < k + n_ → ∀ (H : Heap) (locs : List Loc), md E o z (w_h w (fl (vsV z) (fl (gsV z) (usH z (q_h w) (cn z)) 36) k)) H → va_S (bl o 6) s.heap H locs → ∀ (ls : Array Slot), lv_has ls 2 [(0, .ref o), (1, .int (nI k))] → W p l e (headSpec wsX7_mixRows rm_X7_mixRows).room s m ([.ref o] : List Value).toArray below meth c H locs 0 0 (MQ below (qm none (bl o 6) (md E o z (w_h w (rwH z (q_h w))))) ([.ref o] : List Value).toArray s 0 0 (bl o 6)) (F0 m 56 ls []) := by
    intro n_
    induction n_ with
    | zero =>
      intro k hk hn_ _ _ _ _ _ _
      exact absurd hn_ (by omega)
    | succ n_ ih =>
      intro k hk hn_ H locs hW0 hS ls hl
      refine lv_iload_n hx hb dX7_mixRows_56 rfl (lv_at hl 1 rfl) ?_
      refine lv_bipush (v := nI 40) hx hb dX7_mixRows_57 (by decide) ?_
      refine n_ige (tgt := 85) hx hb dX7_mixRows_59 (by decide) (by omega) (by omega) (fun c59 => ?_) (fun c59 => ?_)
      · exact k_vretM hx hb hr hlk dX7_mixRows_85 hS (show md E o z (w_h w (rwH z (q_h w))) _ from (by have e9 : k = 40 := (by omega); rw [e9] at hW0; exact hW0))
      · refine lv_aload_n hx hb dX7_mixRows_62 rfl (lv_at hl 0 rfl) ?_
        refine lv_aload_n hx hb dX7_mixRows_63 rfl (lv_at hl 0 rfl) ?_
        refine lv_iload_n hx hb dX7_mixRows_64 rfl (lv_at hl 1 rfl) ?_
        refine lv_bipush (v := nI 10) hx hb dX7_mixRows_65 (by decide) ?_
        refine lv_idiv hx hb dX7_mixRows_67 (by decide) ?_
        refine k_top (y := nI (k/10)) (pk_div (by omega) (by decide) (by decide)) ?_
        refine lv_iload_n hx hb dX7_mixRows_68 rfl (lv_at hl 1 rfl) ?_
        refine lv_bipush (v := nI 10) hx hb dX7_mixRows_69 (by decide) ?_
        refine lv_irem hx hb dX7_mixRows_71 (by decide) ?_
        refine k_top (y := nI (k%10)) (pk_rem (by omega) (by decide) (by decide)) ?_
        refine k_V (As := [.int (nI (k/10)), .int (nI (k%10))]) (rest := [.ref o]) S hK (c_X7_vendorOf l E o z (w_h w (fl (vsV z) (fl (gsV z) (usH z (q_h w) (cn z)) 36) k)) (k/10) (k%10) hI (by omega) (by omega)) gX7_mixRows_X7_vendorOf rfl hd_X7_vendorOf ⟨rfl, rfl⟩ ⟨Nat.le_of_ble_eq_true rfl, Nat.le_of_ble_eq_true rfl⟩ (k_recv hK hW0.1 rfl) hW0 rfl hl.1 rfl (Nat.le_of_ble_eq_true rfl) dX7_mixRows_72 ⟨Nat.le_of_ble_eq_true rfl, Nat.le_of_ble_eq_true rfl⟩ ?_
        refine lv_i2l hx hb dX7_mixRows_75 rfl ?_
        refine k_VM (As := [.long ((veV z (k/10) (k%10)).toInt64)]) (rest := []) S hK (c_X7_mix l E o z (w_h w (fl (vsV z) (fl (gsV z) (usH z (q_h w) (cn z)) 36) k)) ((veV z (k/10) (k%10)).toInt64)) gX7_mixRows_X7_mix rfl hd_X7_mix ⟨rfl, rfl⟩ ⟨Nat.le_of_ble_eq_true rfl, Nat.le_of_ble_eq_true rfl⟩ (k_recv hK hW0.1 rfl) hW0 rfl hl.1 rfl (Nat.le_of_ble_eq_true rfl) dX7_mixRows_76 ⟨Nat.le_of_ble_eq_true rfl, Nat.le_of_ble_eq_true rfl⟩ hS (fun q h => h) (fun q h => h) (fun H locs hQ zH fH hS => ?_)
        have hP := hQ
        have hP : md E o z (w_h w (31 * (fl (vsV z) (fl (gsV z) (usH z (q_h w) (cn z)) 36) k) + ((veV z (k/10) (k%10)).toInt64))) H := hP
        refine lv_iinc (v := nI (k + 1)) (lv' := [(1, .int (nI (k + 1))), (0, .ref o)]) hx hb dX7_mixRows_79 hl (k := 1) rfl (inc_1 _) (by decide) rfl (fun ls hl => ?_)
        refine lv_goto (tgt := 56) hx hb dX7_mixRows_82 (by decide) ?_
        exact ih (k + 1) (by omega) (by omega) _ _ (show md E o z (w_h w (fl (vsV z) (fl (gsV z) (usH z (q_h w) (cn z)) 36) (k + 1))) _ from hP) hS _ (lv_sub hl [1, 0] rfl)
  have J25 : ∀ (n_ : Nat), ∀ (k : Nat), k ≤ 36 → 36 < k + n_ → ∀ (H : Heap) (locs : List Loc), md E o z (w_h w (fl (gsV z) (usH z (q_h w) (cn z)) k)) H → va_S (bl o 6) s.heap H locs → ∀ (ls : Array Slot), lv_has ls 2 [(0, .ref o), (1, .int (nI k))] → W p l e (headSpec wsX7_mixRows rm_X7_mixRows).room s m ([.ref o] : List Value).toArray below meth c H locs 0 0 (MQ below (qm none (bl o 6) (md E o z (w_h w (rwH z (q_h w))))) ([.ref o] : List Value).toArray s 0 0 (bl o 6)) (F0 m 25 ls []) := by
    intro n_
    induction n_ with
    | zero =>
      intro k hk hn_ _ _ _ _ _ _
      exact absurd hn_ (by omega)
    | succ n_ ih =>
      intro k hk hn_ H locs hW0 hS ls hl
      refine lv_iload_n hx hb dX7_mixRows_25 rfl (lv_at hl 1 rfl) ?_
      refine lv_bipush (v := nI 36) hx hb dX7_mixRows_26 (by decide) ?_
      refine n_ige (tgt := 54) hx hb dX7_mixRows_28 (by decide) (by omega) (by omega) (fun c28 => ?_) (fun c28 => ?_)
      · refine lv_iconst (v := nI 0) hx hb dX7_mixRows_54 (by decide) ?_
        refine lv_istore_n (lv' := [(1, .int (nI 0)), (0, .ref o)]) hx hb dX7_mixRows_55 rfl hl (by decide) rfl (fun ls hl => ?_)
        exact J56 (40 + 1) 0 (by omega) (by omega) _ _ (show md E o z (w_h w (fl (vsV z) (fl (gsV z) (usH z (q_h w) (cn z)) 36) 0)) _ from (by have e9 : k = 36 := (by omega); rw [e9] at hW0; exact hW0)) hS _ (lv_sub hl [1, 0] rfl)
      · refine lv_aload_n hx hb dX7_mixRows_31 rfl (lv_at hl 0 rfl) ?_
        refine lv_aload_n hx hb dX7_mixRows_32 rfl (lv_at hl 0 rfl) ?_
        refine lv_iload_n hx hb dX7_mixRows_33 rfl (lv_at hl 1 rfl) ?_
        refine lv_bipush (v := nI 6) hx hb dX7_mixRows_34 (by decide) ?_
        refine lv_idiv hx hb dX7_mixRows_36 (by decide) ?_
        refine k_top (y := nI (k/6)) (pk_div (by omega) (by decide) (by decide)) ?_
        refine lv_iload_n hx hb dX7_mixRows_37 rfl (lv_at hl 1 rfl) ?_
        refine lv_bipush (v := nI 6) hx hb dX7_mixRows_38 (by decide) ?_
        refine lv_irem hx hb dX7_mixRows_40 (by decide) ?_
        refine k_top (y := nI (k%6)) (pk_rem (by omega) (by decide) (by decide)) ?_
        refine k_V (As := [.int (nI (k/6)), .int (nI (k%6))]) (rest := [.ref o]) S hK (c_X7_goodsOf l E o z (w_h w (fl (gsV z) (usH z (q_h w) (cn z)) k)) (k/6) (k%6) hI (by omega) (by omega)) gX7_mixRows_X7_goodsOf rfl hd_X7_goodsOf ⟨rfl, rfl⟩ ⟨Nat.le_of_ble_eq_true rfl, Nat.le_of_ble_eq_true rfl⟩ (k_recv hK hW0.1 rfl) hW0 rfl hl.1 rfl (Nat.le_of_ble_eq_true rfl) dX7_mixRows_41 ⟨Nat.le_of_ble_eq_true rfl, Nat.le_of_ble_eq_true rfl⟩ ?_
        refine lv_i2l hx hb dX7_mixRows_44 rfl ?_
        refine k_VM (As := [.long ((gdV z (k/6) (k%6)).toInt64)]) (rest := []) S hK (c_X7_mix l E o z (w_h w (fl (gsV z) (usH z (q_h w) (cn z)) k)) ((gdV z (k/6) (k%6)).toInt64)) gX7_mixRows_X7_mix rfl hd_X7_mix ⟨rfl, rfl⟩ ⟨Nat.le_of_ble_eq_true rfl, Nat.le_of_ble_eq_true rfl⟩ (k_recv hK hW0.1 rfl) hW0 rfl hl.1 rfl (Nat.le_of_ble_eq_true rfl) dX7_mixRows_45 ⟨Nat.le_of_ble_eq_true rfl, Nat.le_of_ble_eq_true rfl⟩ hS (fun q h => h) (fun q h => h) (fun H locs hQ zH fH hS => ?_)
        have hP := hQ
        have hP : md E o z (w_h w (31 * (fl (gsV z) (usH z (q_h w) (cn z)) k) + ((gdV z (k/6) (k%6)).toInt64))) H := hP
        refine lv_iinc (v := nI (k + 1)) (lv' := [(1, .int (nI (k + 1))), (0, .ref o)]) hx hb dX7_mixRows_48 hl (k := 1) rfl (inc_1 _) (by decide) rfl (fun ls hl => ?_)
        refine lv_goto (tgt := 25) hx hb dX7_mixRows_51 (by decide) ?_
        exact ih (k + 1) (by omega) (by omega) _ _ (show md E o z (w_h w (fl (gsV z) (usH z (q_h w) (cn z)) (k + 1))) _ from hP) hS _ (lv_sub hl [1, 0] rfl)
  have J2 : ∀ (n_ : Nat), ∀ (k : Nat), k ≤ cn z → cn z < k + n_ → ∀ (H : Heap) (locs : List Loc), md E o z (w_h w (usH z (q_h w) k)) H → va_S (bl o 6) s.heap H locs → ∀ (ls : Array Slot), lv_has ls 2 [(0, .ref o), (1, .int (nI k))] → W p l e (headSpec wsX7_mixRows rm_X7_mixRows).room s m ([.ref o] : List Value).toArray below meth c H locs 0 0 (MQ below (qm none (bl o 6) (md E o z (w_h w (rwH z (q_h w))))) ([.ref o] : List Value).toArray s 0 0 (bl o 6)) (F0 m 2 ls []) := by
    intro n_
    induction n_ with
    | zero =>
      intro k hk hn_ _ _ _ _ _ _
      exact absurd hn_ (by omega)
    | succ n_ ih =>
      intro k hk hn_ H locs hW0 hS ls hl
      refine lv_iload_n hx hb dX7_mixRows_2 rfl (lv_at hl 1 rfl) ?_
      refine lv_aload_n hx hb dX7_mixRows_3 rfl (lv_at hl 0 rfl) ?_
      refine k_get S hK hW0.1 rfl (fun _ h => List.mem_cons_of_mem _ (List.mem_append_right _ (h))) 0 (by decide) (List.mem_cons_of_mem _ (List.mem_append_left _ (List.mem_append_left _ (List.mem_of_getElem? (i := 0) rfl)))) rfl (v := .ref (o + 1)) rfl dX7_mixRows_4 ?_
      refine lv_iconst (v := nI 0) hx hb dX7_mixRows_7 (by decide) ?_
      refine k_iald hx hb hK hW0.2.1 (by omega) (by decide) (v := nI (cn z)) (iv_n hI) dX7_mixRows_8 ?_
      refine n_ige (tgt := 23) hx hb dX7_mixRows_9 (by decide) (by omega) (by omega) (fun c9 => ?_) (fun c9 => ?_)
      · refine lv_iconst (v := nI 0) hx hb dX7_mixRows_23 (by decide) ?_
        refine lv_istore_n (lv' := [(1, .int (nI 0)), (0, .ref o)]) hx hb dX7_mixRows_24 rfl hl (by decide) rfl (fun ls hl => ?_)
        exact J25 (36 + 1) 0 (by omega) (by omega) _ _ (show md E o z (w_h w (fl (gsV z) (usH z (q_h w) (cn z)) 0)) _ from (by have e9 : k = cn z := (by omega); rw [e9] at hW0; exact hW0)) hS _ (lv_sub hl [1, 0] rfl)
      · refine lv_aload_n hx hb dX7_mixRows_12 rfl (lv_at hl 0 rfl) ?_
        refine lv_iload_n hx hb dX7_mixRows_13 rfl (lv_at hl 1 rfl) ?_
        refine k_VM (As := [.int (nI k)]) (rest := []) S hK (c_X7_mixUnit l E o z (w_h w (usH z (q_h w) k)) k hI c9) gX7_mixRows_X7_mixUnit rfl hd_X7_mixUnit ⟨rfl, rfl⟩ ⟨Nat.le_of_ble_eq_true rfl, Nat.le_of_ble_eq_true rfl⟩ (k_recv hK hW0.1 rfl) hW0 rfl hl.1 rfl (Nat.le_of_ble_eq_true rfl) dX7_mixRows_14 ⟨Nat.le_of_ble_eq_true rfl, Nat.le_of_ble_eq_true rfl⟩ hS (fun q h => h) (fun q h => h) (fun H locs hQ zH fH hS => ?_)
        have hP := hQ
        have hP : md E o z (w_h w (muH z k (usH z (q_h w) k))) H := hP
        refine lv_iinc (v := nI (k + 1)) (lv' := [(1, .int (nI (k + 1))), (0, .ref o)]) hx hb dX7_mixRows_17 hl (k := 1) rfl (inc_1 _) (by decide) rfl (fun ls hl => ?_)
        refine lv_goto (tgt := 2) hx hb dX7_mixRows_20 (by decide) ?_
        exact ih (k + 1) (by omega) (by omega) _ _ (show md E o z (w_h w (usH z (q_h w) (k + 1))) _ from hP) hS _ (lv_sub hl [1, 0] rfl)
  refine lv_iconst (v := nI 0) hx hb dX7_mixRows_0 (by decide) ?_
  refine lv_istore_n (lv' := [(1, .int (nI 0)), (0, .ref o)]) hx hb dX7_mixRows_1 rfl hl (by decide) rfl (fun ls hl => ?_)
  exact J2 (cn z + 1) 0 (by omega) (by omega) _ _ (show md E o z (w_h w (usH z (q_h w) 0)) _ from hP) hS _ (lv_sub hl [1, 0] rfl)
def rm_X7_digest : Room := { frames := 7, cells := 0, slots := 0, locals := 161 }
theorem hd_X7_digest : k_hd1 yX7_digest RX7 0 := by decide +kernel
set_option maxHeartbeats 4000000 in
set_option maxRecDepth 100000 in
theorem c_X7_digest (l : Launch) (E : ke_E) (o : Nat) (z : Nat → Int32) (w : md_w) (b : Nat → Int32) (bn : Nat) (hI : iv z) (hbf : q_buf w = b) (hbm : q_bm w = nI bn) (hbn : bn ≤ 60) : Met l yX7_digest wsX7_digest rm_X7_digest (kp E [.ref o] (md E o z w)) (qm (some (.long (dgH z (q_sm w) b bn))) (bl o 6) (md E o z (w_h (w_th (w_aside w (asI (q_aside w) z 322)) (nI 0)) (dgH z (q_sm w) b bn)))) 0 0 (bl o 6) := by
  refine k_hd (cc := cX7_digest) (maxL := 2) (ret := (some .long)) (by decide) rfl (Nat.le_of_ble_eq_true rfl) ?_
  intro p e s m below meth c ls S hr hlk hnm hK hP hl
  have hx := S.1
  have hb := S.2.1
  have hts := S.2.2.2.2
  have hP : md E o z w s.heap := hP
  have hl : lv_has ls 2 [(0, .ref o)] := hl
  have hS : va_S (bl o 6) s.heap s.heap [] := va_S.rf
  have hcn := iv_c hI
  have J153 : ∀ (n_ : Nat), ∀ (k : Nat), k ≤ bn → bn < k + n_ → ∀ (H : Heap) (locs : List Loc), md E o z (w_h (w_th (w_aside w (asI (q_aside w) z 322)) (nI 0)) (fl b (mx (d3H z (q_sm w)) (nI bn)) k)) H → va_S (bl o 6) s.heap H locs → ∀ (ls : Array Slot), lv_has ls 2 [(0, .ref o), (1, .int (nI k))] → W p l e (headSpec wsX7_digest rm_X7_digest).room s m ([.ref o] : List Value).toArray below meth c H locs 0 0 (MQ below (qm (some (.long (dgH z (q_sm w) b bn))) (bl o 6) (md E o z (w_h (w_th (w_aside w (asI (q_aside w) z 322)) (nI 0)) (dgH z (q_sm w) b bn)))) ([.ref o] : List Value).toArray s 0 0 (bl o 6)) (F0 m 153 ls []) := by
    intro n_
    induction n_ with
    | zero =>
      intro k hk hn_ _ _ _ _ _ _
      exact absurd hn_ (by omega)
    | succ n_ ih =>
      intro k hk hn_ H locs hW0 hS ls hl
      refine lv_iload_n hx hb dX7_digest_153 rfl (lv_at hl 1 rfl) ?_
      refine lv_aload_n hx hb dX7_digest_154 rfl (lv_at hl 0 rfl) ?_
      refine k_get S hK hW0.1 rfl (fun _ h => List.mem_cons_of_mem _ (List.mem_append_right _ (h))) 5 (by decide) (List.mem_cons_of_mem _ (List.mem_append_left _ (List.mem_append_left _ (List.mem_of_getElem? (i := 4) rfl)))) rfl (v := .int (nI bn)) (congrArg (fun x => some (Value.int x)) (hbm)) dX7_digest_155 ?_
      refine n_ige (tgt := 178) hx hb dX7_digest_158 (by decide) (by omega) (by omega) (fun c158 => ?_) (fun c158 => ?_)
      · refine lv_aload_n hx hb dX7_digest_178 rfl (lv_at hl 0 rfl) ?_
        refine k_get S hK hW0.1 rfl (fun _ h => List.mem_cons_of_mem _ (List.mem_append_right _ (h))) 10 (by decide) (List.mem_cons_of_mem _ (List.mem_append_left _ (List.mem_append_left _ (List.mem_of_getElem? (i := 2) rfl)))) rfl (v := .long (fl b (mx (d3H z (q_sm w)) (nI bn)) k)) rfl dX7_digest_179 ?_
        exact k_lretM hx hb hr hlk dX7_digest_182 hS (show md E o z (w_h (w_th (w_aside w (asI (q_aside w) z 322)) (nI 0)) (dgH z (q_sm w) b bn)) _ from (by have e9 : k = bn := (by omega); rw [e9] at hW0; exact hW0)) (by rw [show bn = k by omega]; rfl)
      · refine lv_aload_n hx hb dX7_digest_161 rfl (lv_at hl 0 rfl) ?_
        refine lv_aload_n hx hb dX7_digest_162 rfl (lv_at hl 0 rfl) ?_
        refine k_get S hK hW0.1 rfl (fun _ h => List.mem_cons_of_mem _ (List.mem_append_right _ (h))) 4 (by decide) (List.mem_cons_of_mem _ (List.mem_append_left _ (List.mem_append_left _ (List.mem_of_getElem? (i := 5) rfl)))) rfl (v := .ref (o + 4)) rfl dX7_digest_163 ?_
        refine lv_iload_n hx hb dX7_digest_166 rfl (lv_at hl 1 rfl) ?_
        refine k_iald hx hb hK hW0.2.2.2.2.1 (by omega) (by decide) (v := b k) (congrFun hbf _) dX7_digest_167 ?_
        refine lv_i2l hx hb dX7_digest_168 rfl ?_
        refine k_VM (As := [.long ((b k).toInt64)]) (rest := []) S hK (c_X7_mix l E o z (w_h (w_th (w_aside w (asI (q_aside w) z 322)) (nI 0)) (fl b (mx (d3H z (q_sm w)) (nI bn)) k)) ((b k).toInt64)) gX7_digest_X7_mix rfl hd_X7_mix ⟨rfl, rfl⟩ ⟨Nat.le_of_ble_eq_true rfl, Nat.le_of_ble_eq_true rfl⟩ (k_recv hK hW0.1 rfl) hW0 rfl hl.1 rfl (Nat.le_of_ble_eq_true rfl) dX7_digest_169 ⟨Nat.le_of_ble_eq_true rfl, Nat.le_of_ble_eq_true rfl⟩ hS (fun q h => h) (fun q h => h) (fun H locs hQ zH fH hS => ?_)
        have hP := hQ
        have hP : md E o z (w_h (w_th (w_aside w (asI (q_aside w) z 322)) (nI 0)) (31 * (fl b (mx (d3H z (q_sm w)) (nI bn)) k) + ((b k).toInt64))) H := hP
        refine lv_iinc (v := nI (k + 1)) (lv' := [(1, .int (nI (k + 1))), (0, .ref o)]) hx hb dX7_digest_172 hl (k := 1) rfl (inc_1 _) (by decide) rfl (fun ls hl => ?_)
        refine lv_goto (tgt := 153) hx hb dX7_digest_175 (by decide) ?_
        exact ih (k + 1) (by omega) (by omega) _ _ (show md E o z (w_h (w_th (w_aside w (asI (q_aside w) z 322)) (nI 0)) (fl b (mx (d3H z (q_sm w)) (nI bn)) (k + 1))) _ from hP) hS _ (lv_sub hl [1, 0] rfl)
  have J92 : ∀ (n_ : Nat), ∀ (k : Nat), k ≤ 3 → 3 < k + n_ → ∀ (H : Heap) (locs : List Loc), md E o z (w_h (w_th w (nI 0)) (fl (caV z) (fl (waV z) (d1H z (q_sm w)) 3) k)) H → va_S (bl o 6) s.heap H locs → ∀ (ls : Array Slot), lv_has ls 2 [(0, .ref o), (1, .int (nI k))] → W p l e (headSpec wsX7_digest rm_X7_digest).room s m ([.ref o] : List Value).toArray below meth c H locs 0 0 (MQ below (qm (some (.long (dgH z (q_sm w) b bn))) (bl o 6) (md E o z (w_h (w_th (w_aside w (asI (q_aside w) z 322)) (nI 0)) (dgH z (q_sm w) b bn)))) ([.ref o] : List Value).toArray s 0 0 (bl o 6)) (F0 m 92 ls []) := by
    intro n_
    induction n_ with
    | zero =>
      intro k hk hn_ _ _ _ _ _ _
      exact absurd hn_ (by omega)
    | succ n_ ih =>
      intro k hk hn_ H locs hW0 hS ls hl
      refine lv_iload_n hx hb dX7_digest_92 rfl (lv_at hl 1 rfl) ?_
      refine lv_iconst (v := nI 3) hx hb dX7_digest_93 (by decide) ?_
      refine n_ige (tgt := 113) hx hb dX7_digest_94 (by decide) (by omega) (by omega) (fun c94 => ?_) (fun c94 => ?_)
      · refine lv_aload_n hx hb dX7_digest_113 rfl (lv_at hl 0 rfl) ?_
        refine lv_aload_n hx hb dX7_digest_114 rfl (lv_at hl 0 rfl) ?_
        refine k_VM (As := []) (rest := [.ref o]) S hK (c_X7_closedOf l E o z (w_h (w_th w (nI 0)) (fl (caV z) (fl (waV z) (d1H z (q_sm w)) 3) k)) hI) gX7_digest_X7_closedOf rfl hd_X7_closedOf ⟨rfl, rfl⟩ ⟨Nat.le_of_ble_eq_true rfl, Nat.le_of_ble_eq_true rfl⟩ (k_recv hK hW0.1 rfl) hW0 rfl hl.1 rfl (Nat.le_of_ble_eq_true rfl) dX7_digest_115 ⟨Nat.le_of_ble_eq_true rfl, Nat.le_of_ble_eq_true rfl⟩ hS (fun q h => h) (fun q h => h) (fun H locs hQ zH fH hS => ?_)
        have hP := hQ
        have hP : md E o z (w_h (w_th (w_aside w (asI (q_aside w) z 322)) (nI 0)) (fl (caV z) (fl (waV z) (d1H z (q_sm w)) 3) k)) H := hP
        refine lv_i2l hx hb dX7_digest_118 rfl ?_
        refine k_VM (As := [.long ((cloZ z).2.toInt64)]) (rest := []) S hK (c_X7_mix l E o z (w_h (w_th (w_aside w (asI (q_aside w) z 322)) (nI 0)) (fl (caV z) (fl (waV z) (d1H z (q_sm w)) 3) k)) ((cloZ z).2.toInt64)) gX7_digest_X7_mix rfl hd_X7_mix ⟨rfl, rfl⟩ ⟨Nat.le_of_ble_eq_true rfl, Nat.le_of_ble_eq_true rfl⟩ (k_recv hK hP.1 rfl) hP rfl hl.1 rfl (Nat.le_of_ble_eq_true rfl) dX7_digest_119 ⟨Nat.le_of_ble_eq_true rfl, Nat.le_of_ble_eq_true rfl⟩ hS (fun q h => h) (fun q h => h) (fun H locs hQ zH fH hS => ?_)
        have hP := hQ
        have hP : md E o z (w_h (w_th (w_aside w (asI (q_aside w) z 322)) (nI 0)) (31 * (fl (caV z) (fl (waV z) (d1H z (q_sm w)) 3) k) + ((cloZ z).2.toInt64))) H := hP
        refine lv_aload_n hx hb dX7_digest_122 rfl (lv_at hl 0 rfl) ?_
        refine lv_aload_n hx hb dX7_digest_123 rfl (lv_at hl 0 rfl) ?_
        refine k_V (As := []) (rest := [.ref o]) S hK (c_X7_workOf l E o z (w_h (w_th (w_aside w (asI (q_aside w) z 322)) (nI 0)) (31 * (fl (caV z) (fl (waV z) (d1H z (q_sm w)) 3) k) + ((cloZ z).2.toInt64))) hI) gX7_digest_X7_workOf rfl hd_X7_workOf ⟨rfl, rfl⟩ ⟨Nat.le_of_ble_eq_true rfl, Nat.le_of_ble_eq_true rfl⟩ (k_recv hK hP.1 rfl) hP rfl hl.1 rfl (Nat.le_of_ble_eq_true rfl) dX7_digest_124 ⟨Nat.le_of_ble_eq_true rfl, Nat.le_of_ble_eq_true rfl⟩ ?_
        refine lv_i2l hx hb dX7_digest_127 rfl ?_
        refine k_VM (As := [.long ((wdV z).toInt64)]) (rest := []) S hK (c_X7_mix l E o z (w_h (w_th (w_aside w (asI (q_aside w) z 322)) (nI 0)) (31 * (fl (caV z) (fl (waV z) (d1H z (q_sm w)) 3) k) + ((cloZ z).2.toInt64))) ((wdV z).toInt64)) gX7_digest_X7_mix rfl hd_X7_mix ⟨rfl, rfl⟩ ⟨Nat.le_of_ble_eq_true rfl, Nat.le_of_ble_eq_true rfl⟩ (k_recv hK hP.1 rfl) hP rfl hl.1 rfl (Nat.le_of_ble_eq_true rfl) dX7_digest_128 ⟨Nat.le_of_ble_eq_true rfl, Nat.le_of_ble_eq_true rfl⟩ hS (fun q h => h) (fun q h => h) (fun H locs hQ zH fH hS => ?_)
        have hP := hQ
        have hP : md E o z (w_h (w_th (w_aside w (asI (q_aside w) z 322)) (nI 0)) (31 * (31 * (fl (caV z) (fl (waV z) (d1H z (q_sm w)) 3) k) + ((cloZ z).2.toInt64)) + ((wdV z).toInt64))) H := hP
        refine lv_aload_n hx hb dX7_digest_131 rfl (lv_at hl 0 rfl) ?_
        refine lv_aload_n hx hb dX7_digest_132 rfl (lv_at hl 0 rfl) ?_
        refine k_V (As := []) (rest := [.ref o]) S hK (c_X7_backOf l E o z (w_h (w_th (w_aside w (asI (q_aside w) z 322)) (nI 0)) (31 * (31 * (fl (caV z) (fl (waV z) (d1H z (q_sm w)) 3) k) + ((cloZ z).2.toInt64)) + ((wdV z).toInt64))) hI) gX7_digest_X7_backOf rfl hd_X7_backOf ⟨rfl, rfl⟩ ⟨Nat.le_of_ble_eq_true rfl, Nat.le_of_ble_eq_true rfl⟩ (k_recv hK hP.1 rfl) hP rfl hl.1 rfl (Nat.le_of_ble_eq_true rfl) dX7_digest_133 ⟨Nat.le_of_ble_eq_true rfl, Nat.le_of_ble_eq_true rfl⟩ ?_
        refine k_S (As := [.double (bkD z)]) (rest := [.ref o]) S hK (c_Jxe99ae_doubleToLongBits_ccdee l E (bkD z) (bkD_nn hI)) gX7_digest_Jxe99ae_doubleToLongBits_ccdee rfl hd_Jxe99ae_doubleToLongBits_ccdee ⟨rfl, rfl⟩ ⟨Nat.le_of_ble_eq_true rfl, Nat.le_of_ble_eq_true rfl⟩ trivial rfl hl.1 rfl (Nat.le_of_ble_eq_true rfl) dX7_digest_136 ⟨Nat.le_of_ble_eq_true rfl, Nat.le_of_ble_eq_true rfl⟩ ?_
        refine k_VM (As := [.long ((bkD z).toInt64)]) (rest := []) S hK (c_X7_mix l E o z (w_h (w_th (w_aside w (asI (q_aside w) z 322)) (nI 0)) (31 * (31 * (fl (caV z) (fl (waV z) (d1H z (q_sm w)) 3) k) + ((cloZ z).2.toInt64)) + ((wdV z).toInt64))) ((bkD z).toInt64)) gX7_digest_X7_mix rfl hd_X7_mix ⟨rfl, rfl⟩ ⟨Nat.le_of_ble_eq_true rfl, Nat.le_of_ble_eq_true rfl⟩ (k_recv hK hP.1 rfl) hP rfl hl.1 rfl (Nat.le_of_ble_eq_true rfl) dX7_digest_139 ⟨Nat.le_of_ble_eq_true rfl, Nat.le_of_ble_eq_true rfl⟩ hS (fun q h => h) (fun q h => h) (fun H locs hQ zH fH hS => ?_)
        have hP := hQ
        have hP : md E o z (w_h (w_th (w_aside w (asI (q_aside w) z 322)) (nI 0)) (31 * (31 * (31 * (fl (caV z) (fl (waV z) (d1H z (q_sm w)) 3) k) + ((cloZ z).2.toInt64)) + ((wdV z).toInt64)) + ((bkD z).toInt64))) H := hP
        refine lv_aload_n hx hb dX7_digest_142 rfl (lv_at hl 0 rfl) ?_
        refine lv_aload_n hx hb dX7_digest_143 rfl (lv_at hl 0 rfl) ?_
        refine k_get S hK hP.1 rfl (fun _ h => List.mem_cons_of_mem _ (List.mem_append_right _ (h))) 5 (by decide) (List.mem_cons_of_mem _ (List.mem_append_left _ (List.mem_append_left _ (List.mem_of_getElem? (i := 4) rfl)))) rfl (v := .int (nI bn)) (congrArg (fun x => some (Value.int x)) (hbm)) dX7_digest_144 ?_
        refine lv_i2l hx hb dX7_digest_147 rfl ?_
        refine k_VM (As := [.long ((nI bn).toInt64)]) (rest := []) S hK (c_X7_mix l E o z (w_h (w_th (w_aside w (asI (q_aside w) z 322)) (nI 0)) (31 * (31 * (31 * (fl (caV z) (fl (waV z) (d1H z (q_sm w)) 3) k) + ((cloZ z).2.toInt64)) + ((wdV z).toInt64)) + ((bkD z).toInt64))) ((nI bn).toInt64)) gX7_digest_X7_mix rfl hd_X7_mix ⟨rfl, rfl⟩ ⟨Nat.le_of_ble_eq_true rfl, Nat.le_of_ble_eq_true rfl⟩ (k_recv hK hP.1 rfl) hP rfl hl.1 rfl (Nat.le_of_ble_eq_true rfl) dX7_digest_148 ⟨Nat.le_of_ble_eq_true rfl, Nat.le_of_ble_eq_true rfl⟩ hS (fun q h => h) (fun q h => h) (fun H locs hQ zH fH hS => ?_)
        have hP := hQ
        have hP : md E o z (w_h (w_th (w_aside w (asI (q_aside w) z 322)) (nI 0)) (31 * (31 * (31 * (31 * (fl (caV z) (fl (waV z) (d1H z (q_sm w)) 3) k) + ((cloZ z).2.toInt64)) + ((wdV z).toInt64)) + ((bkD z).toInt64)) + ((nI bn).toInt64))) H := hP
        refine lv_iconst (v := nI 0) hx hb dX7_digest_151 (by decide) ?_
        refine lv_istore_n (lv' := [(1, .int (nI 0)), (0, .ref o)]) hx hb dX7_digest_152 rfl hl (by decide) rfl (fun ls hl => ?_)
        exact J153 (bn + 1) 0 (by omega) (by omega) _ _ (show md E o z (w_h (w_th (w_aside w (asI (q_aside w) z 322)) (nI 0)) (fl b (mx (d3H z (q_sm w)) (nI bn)) 0)) _ from (by have e9 : k = 3 := (by omega); rw [e9] at hP; exact hP)) hS _ (lv_sub hl [1, 0] rfl)
      · refine lv_aload_n hx hb dX7_digest_97 rfl (lv_at hl 0 rfl) ?_
        refine lv_aload_n hx hb dX7_digest_98 rfl (lv_at hl 0 rfl) ?_
        refine lv_iload_n hx hb dX7_digest_99 rfl (lv_at hl 1 rfl) ?_
        refine k_V (As := [.int (nI k)]) (rest := [.ref o]) S hK (c_X7_claimAt l E o z (w_h (w_th w (nI 0)) (fl (caV z) (fl (waV z) (d1H z (q_sm w)) 3) k)) k hI (by omega)) gX7_digest_X7_claimAt rfl hd_X7_claimAt ⟨rfl, rfl⟩ ⟨Nat.le_of_ble_eq_true rfl, Nat.le_of_ble_eq_true rfl⟩ (k_recv hK hW0.1 rfl) hW0 rfl hl.1 rfl (Nat.le_of_ble_eq_true rfl) dX7_digest_100 ⟨Nat.le_of_ble_eq_true rfl, Nat.le_of_ble_eq_true rfl⟩ ?_
        refine lv_i2l hx hb dX7_digest_103 rfl ?_
        refine k_VM (As := [.long ((oI (ca z k).2).toInt64)]) (rest := []) S hK (c_X7_mix l E o z (w_h (w_th w (nI 0)) (fl (caV z) (fl (waV z) (d1H z (q_sm w)) 3) k)) ((oI (ca z k).2).toInt64)) gX7_digest_X7_mix rfl hd_X7_mix ⟨rfl, rfl⟩ ⟨Nat.le_of_ble_eq_true rfl, Nat.le_of_ble_eq_true rfl⟩ (k_recv hK hW0.1 rfl) hW0 rfl hl.1 rfl (Nat.le_of_ble_eq_true rfl) dX7_digest_104 ⟨Nat.le_of_ble_eq_true rfl, Nat.le_of_ble_eq_true rfl⟩ hS (fun q h => h) (fun q h => h) (fun H locs hQ zH fH hS => ?_)
        have hP := hQ
        have hP : md E o z (w_h (w_th w (nI 0)) (31 * (fl (caV z) (fl (waV z) (d1H z (q_sm w)) 3) k) + ((oI (ca z k).2).toInt64))) H := hP
        refine lv_iinc (v := nI (k + 1)) (lv' := [(1, .int (nI (k + 1))), (0, .ref o)]) hx hb dX7_digest_107 hl (k := 1) rfl (inc_1 _) (by decide) rfl (fun ls hl => ?_)
        refine lv_goto (tgt := 92) hx hb dX7_digest_110 (by decide) ?_
        exact ih (k + 1) (by omega) (by omega) _ _ (show md E o z (w_h (w_th w (nI 0)) (fl (caV z) (fl (waV z) (d1H z (q_sm w)) 3) (k + 1))) _ from hP) hS _ (lv_sub hl [1, 0] rfl)
  have J69 : ∀ (n_ : Nat), ∀ (k : Nat), k ≤ 3 → 3 < k + n_ → ∀ (H : Heap) (locs : List Loc), md E o z (w_h (w_th w (nI 0)) (fl (waV z) (d1H z (q_sm w)) k)) H → va_S (bl o 6) s.heap H locs → ∀ (ls : Array Slot), lv_has ls 2 [(0, .ref o), (1, .int (nI k))] → W p l e (headSpec wsX7_digest rm_X7_digest).room s m ([.ref o] : List Value).toArray below meth c H locs 0 0 (MQ below (qm (some (.long (dgH z (q_sm w) b bn))) (bl o 6) (md E o z (w_h (w_th (w_aside w (asI (q_aside w) z 322)) (nI 0)) (dgH z (q_sm w) b bn)))) ([.ref o] : List Value).toArray s 0 0 (bl o 6)) (F0 m 69 ls []) := by
    intro n_
    induction n_ with
    | zero =>
      intro k hk hn_ _ _ _ _ _ _
      exact absurd hn_ (by omega)
    | succ n_ ih =>
      intro k hk hn_ H locs hW0 hS ls hl
      refine lv_iload_n hx hb dX7_digest_69 rfl (lv_at hl 1 rfl) ?_
      refine lv_iconst (v := nI 3) hx hb dX7_digest_70 (by decide) ?_
      refine n_ige (tgt := 90) hx hb dX7_digest_71 (by decide) (by omega) (by omega) (fun c71 => ?_) (fun c71 => ?_)
      · refine lv_iconst (v := nI 0) hx hb dX7_digest_90 (by decide) ?_
        refine lv_istore_n (lv' := [(1, .int (nI 0)), (0, .ref o)]) hx hb dX7_digest_91 rfl hl (by decide) rfl (fun ls hl => ?_)
        exact J92 (3 + 1) 0 (by omega) (by omega) _ _ (show md E o z (w_h (w_th w (nI 0)) (fl (caV z) (fl (waV z) (d1H z (q_sm w)) 3) 0)) _ from (by have e9 : k = 3 := (by omega); rw [e9] at hW0; exact hW0)) hS _ (lv_sub hl [1, 0] rfl)
      · refine lv_aload_n hx hb dX7_digest_74 rfl (lv_at hl 0 rfl) ?_
        refine lv_aload_n hx hb dX7_digest_75 rfl (lv_at hl 0 rfl) ?_
        refine lv_iload_n hx hb dX7_digest_76 rfl (lv_at hl 1 rfl) ?_
        refine k_V (As := [.int (nI k)]) (rest := [.ref o]) S hK (c_X7_workAt l E o z (w_h (w_th w (nI 0)) (fl (waV z) (d1H z (q_sm w)) k)) k hI (by omega)) gX7_digest_X7_workAt rfl hd_X7_workAt ⟨rfl, rfl⟩ ⟨Nat.le_of_ble_eq_true rfl, Nat.le_of_ble_eq_true rfl⟩ (k_recv hK hW0.1 rfl) hW0 rfl hl.1 rfl (Nat.le_of_ble_eq_true rfl) dX7_digest_77 ⟨Nat.le_of_ble_eq_true rfl, Nat.le_of_ble_eq_true rfl⟩ ?_
        refine lv_i2l hx hb dX7_digest_80 rfl ?_
        refine k_VM (As := [.long ((oI (wa z k).2).toInt64)]) (rest := []) S hK (c_X7_mix l E o z (w_h (w_th w (nI 0)) (fl (waV z) (d1H z (q_sm w)) k)) ((oI (wa z k).2).toInt64)) gX7_digest_X7_mix rfl hd_X7_mix ⟨rfl, rfl⟩ ⟨Nat.le_of_ble_eq_true rfl, Nat.le_of_ble_eq_true rfl⟩ (k_recv hK hW0.1 rfl) hW0 rfl hl.1 rfl (Nat.le_of_ble_eq_true rfl) dX7_digest_81 ⟨Nat.le_of_ble_eq_true rfl, Nat.le_of_ble_eq_true rfl⟩ hS (fun q h => h) (fun q h => h) (fun H locs hQ zH fH hS => ?_)
        have hP := hQ
        have hP : md E o z (w_h (w_th w (nI 0)) (31 * (fl (waV z) (d1H z (q_sm w)) k) + ((oI (wa z k).2).toInt64))) H := hP
        refine lv_iinc (v := nI (k + 1)) (lv' := [(1, .int (nI (k + 1))), (0, .ref o)]) hx hb dX7_digest_84 hl (k := 1) rfl (inc_1 _) (by decide) rfl (fun ls hl => ?_)
        refine lv_goto (tgt := 69) hx hb dX7_digest_87 (by decide) ?_
        exact ih (k + 1) (by omega) (by omega) _ _ (show md E o z (w_h (w_th w (nI 0)) (fl (waV z) (d1H z (q_sm w)) (k + 1))) _ from hP) hS _ (lv_sub hl [1, 0] rfl)
  have J38 : ∀ (n_ : Nat), ∀ (k : Nat), k ≤ 5 → 5 < k + n_ → ∀ (H : Heap) (locs : List Loc), md E o z (w_h (w_th w (nI 0)) (fl (seV z) (fl (coV z (q_sm w)) 2477 14) k)) H → va_S (bl o 6) s.heap H locs → ∀ (ls : Array Slot), lv_has ls 2 [(0, .ref o), (1, .int (nI k))] → W p l e (headSpec wsX7_digest rm_X7_digest).room s m ([.ref o] : List Value).toArray below meth c H locs 0 0 (MQ below (qm (some (.long (dgH z (q_sm w) b bn))) (bl o 6) (md E o z (w_h (w_th (w_aside w (asI (q_aside w) z 322)) (nI 0)) (dgH z (q_sm w) b bn)))) ([.ref o] : List Value).toArray s 0 0 (bl o 6)) (F0 m 38 ls []) := by
    intro n_
    induction n_ with
    | zero =>
      intro k hk hn_ _ _ _ _ _ _
      exact absurd hn_ (by omega)
    | succ n_ ih =>
      intro k hk hn_ H locs hW0 hS ls hl
      refine lv_iload_n hx hb dX7_digest_38 rfl (lv_at hl 1 rfl) ?_
      refine lv_iconst (v := nI 5) hx hb dX7_digest_39 (by decide) ?_
      refine n_ige (tgt := 63) hx hb dX7_digest_40 (by decide) (by omega) (by omega) (fun c40 => ?_) (fun c40 => ?_)
      · refine lv_aload_n hx hb dX7_digest_63 rfl (lv_at hl 0 rfl) ?_
        refine k_VM (As := []) (rest := []) S hK (c_X7_mixRows l E o z (w_h (w_th w (nI 0)) (fl (seV z) (fl (coV z (q_sm w)) 2477 14) k)) hI) gX7_digest_X7_mixRows rfl hd_X7_mixRows ⟨rfl, rfl⟩ ⟨Nat.le_of_ble_eq_true rfl, Nat.le_of_ble_eq_true rfl⟩ (k_recv hK hW0.1 rfl) hW0 rfl hl.1 rfl (Nat.le_of_ble_eq_true rfl) dX7_digest_64 ⟨Nat.le_of_ble_eq_true rfl, Nat.le_of_ble_eq_true rfl⟩ hS (fun q h => h) (fun q h => h) (fun H locs hQ zH fH hS => ?_)
        have hP := hQ
        have hP : md E o z (w_h (w_th w (nI 0)) (rwH z (fl (seV z) (fl (coV z (q_sm w)) 2477 14) k))) H := hP
        refine lv_iconst (v := nI 0) hx hb dX7_digest_67 (by decide) ?_
        refine lv_istore_n (lv' := [(1, .int (nI 0)), (0, .ref o)]) hx hb dX7_digest_68 rfl hl (by decide) rfl (fun ls hl => ?_)
        exact J69 (3 + 1) 0 (by omega) (by omega) _ _ (show md E o z (w_h (w_th w (nI 0)) (fl (waV z) (d1H z (q_sm w)) 0)) _ from (by have e9 : k = 5 := (by omega); rw [e9] at hP; exact hP)) hS _ (lv_sub hl [1, 0] rfl)
      · refine lv_aload_n hx hb dX7_digest_43 rfl (lv_at hl 0 rfl) ?_
        refine lv_aload_n hx hb dX7_digest_44 rfl (lv_at hl 0 rfl) ?_
        refine k_get S hK hW0.1 rfl (fun _ h => List.mem_cons_of_mem _ (List.mem_append_right _ (h))) 0 (by decide) (List.mem_cons_of_mem _ (List.mem_append_left _ (List.mem_append_left _ (List.mem_of_getElem? (i := 3) rfl)))) rfl (v := .ref (o + 1)) rfl dX7_digest_45 ?_
        refine lv_bipush (v := nI 7) hx hb dX7_digest_48 (by decide) ?_
        refine lv_iload_n hx hb dX7_digest_50 rfl (lv_at hl 1 rfl) ?_
        refine n_iadd (n := k + 7) hx hb dX7_digest_51 (by omega) ?_
        refine k_iald hx hb hK hW0.2.1 (by omega) (by decide) (v := z (k + 7)) rfl dX7_digest_52 ?_
        refine lv_i2l hx hb dX7_digest_53 rfl ?_
        refine k_VM (As := [.long ((z (k + 7)).toInt64)]) (rest := []) S hK (c_X7_mix l E o z (w_h (w_th w (nI 0)) (fl (seV z) (fl (coV z (q_sm w)) 2477 14) k)) ((z (k + 7)).toInt64)) gX7_digest_X7_mix rfl hd_X7_mix ⟨rfl, rfl⟩ ⟨Nat.le_of_ble_eq_true rfl, Nat.le_of_ble_eq_true rfl⟩ (k_recv hK hW0.1 rfl) hW0 rfl hl.1 rfl (Nat.le_of_ble_eq_true rfl) dX7_digest_54 ⟨Nat.le_of_ble_eq_true rfl, Nat.le_of_ble_eq_true rfl⟩ hS (fun q h => h) (fun q h => h) (fun H locs hQ zH fH hS => ?_)
        have hP := hQ
        have hP : md E o z (w_h (w_th w (nI 0)) (31 * (fl (seV z) (fl (coV z (q_sm w)) 2477 14) k) + ((z (k + 7)).toInt64))) H := hP
        refine lv_iinc (v := nI (k + 1)) (lv' := [(1, .int (nI (k + 1))), (0, .ref o)]) hx hb dX7_digest_57 hl (k := 1) rfl (inc_1 _) (by decide) rfl (fun ls hl => ?_)
        refine lv_goto (tgt := 38) hx hb dX7_digest_60 (by decide) ?_
        exact ih (k + 1) (by omega) (by omega) _ _ (show md E o z (w_h (w_th w (nI 0)) (fl (seV z) (fl (coV z (q_sm w)) 2477 14) (k + 1))) _ from hP) hS _ (lv_sub hl [1, 0] rfl)
  have J14 : ∀ (n_ : Nat), ∀ (k : Nat), k ≤ 14 → 14 < k + n_ → ∀ (H : Heap) (locs : List Loc), md E o z (w_h (w_th w (nI 0)) (fl (coV z (q_sm w)) 2477 k)) H → va_S (bl o 6) s.heap H locs → ∀ (ls : Array Slot), lv_has ls 2 [(0, .ref o), (1, .int (nI k))] → W p l e (headSpec wsX7_digest rm_X7_digest).room s m ([.ref o] : List Value).toArray below meth c H locs 0 0 (MQ below (qm (some (.long (dgH z (q_sm w) b bn))) (bl o 6) (md E o z (w_h (w_th (w_aside w (asI (q_aside w) z 322)) (nI 0)) (dgH z (q_sm w) b bn)))) ([.ref o] : List Value).toArray s 0 0 (bl o 6)) (F0 m 14 ls []) := by
    intro n_
    induction n_ with
    | zero =>
      intro k hk hn_ _ _ _ _ _ _
      exact absurd hn_ (by omega)
    | succ n_ ih =>
      intro k hk hn_ H locs hW0 hS ls hl
      refine lv_iload_n hx hb dX7_digest_14 rfl (lv_at hl 1 rfl) ?_
      refine lv_bipush (v := nI 14) hx hb dX7_digest_15 (by decide) ?_
      refine n_ige (tgt := 36) hx hb dX7_digest_17 (by decide) (by omega) (by omega) (fun c17 => ?_) (fun c17 => ?_)
      · refine lv_iconst (v := nI 0) hx hb dX7_digest_36 (by decide) ?_
        refine lv_istore_n (lv' := [(1, .int (nI 0)), (0, .ref o)]) hx hb dX7_digest_37 rfl hl (by decide) rfl (fun ls hl => ?_)
        exact J38 (5 + 1) 0 (by omega) (by omega) _ _ (show md E o z (w_h (w_th w (nI 0)) (fl (seV z) (fl (coV z (q_sm w)) 2477 14) 0)) _ from (by have e9 : k = 14 := (by omega); rw [e9] at hW0; exact hW0)) hS _ (lv_sub hl [1, 0] rfl)
      · refine lv_aload_n hx hb dX7_digest_20 rfl (lv_at hl 0 rfl) ?_
        refine lv_aload_n hx hb dX7_digest_21 rfl (lv_at hl 0 rfl) ?_
        refine lv_iload_n hx hb dX7_digest_22 rfl (lv_at hl 1 rfl) ?_
        refine k_V (As := [.int (nI k)]) (rest := [.ref o]) S hK (c_X7_counted l E o z (w_h (w_th w (nI 0)) (fl (coV z (q_sm w)) 2477 k)) k hI c17) gX7_digest_X7_counted rfl hd_X7_counted ⟨rfl, rfl⟩ ⟨Nat.le_of_ble_eq_true rfl, Nat.le_of_ble_eq_true rfl⟩ (k_recv hK hW0.1 rfl) hW0 rfl hl.1 rfl (Nat.le_of_ble_eq_true rfl) dX7_digest_23 ⟨Nat.le_of_ble_eq_true rfl, Nat.le_of_ble_eq_true rfl⟩ ?_
        refine lv_i2l hx hb dX7_digest_26 rfl ?_
        refine k_VM (As := [.long ((coV z (q_sm w) k).toInt64)]) (rest := []) S hK (c_X7_mix l E o z (w_h (w_th w (nI 0)) (fl (coV z (q_sm w)) 2477 k)) ((coV z (q_sm w) k).toInt64)) gX7_digest_X7_mix rfl hd_X7_mix ⟨rfl, rfl⟩ ⟨Nat.le_of_ble_eq_true rfl, Nat.le_of_ble_eq_true rfl⟩ (k_recv hK hW0.1 rfl) hW0 rfl hl.1 rfl (Nat.le_of_ble_eq_true rfl) dX7_digest_27 ⟨Nat.le_of_ble_eq_true rfl, Nat.le_of_ble_eq_true rfl⟩ hS (fun q h => h) (fun q h => h) (fun H locs hQ zH fH hS => ?_)
        have hP := hQ
        have hP : md E o z (w_h (w_th w (nI 0)) (31 * (fl (coV z (q_sm w)) 2477 k) + ((coV z (q_sm w) k).toInt64))) H := hP
        refine lv_iinc (v := nI (k + 1)) (lv' := [(1, .int (nI (k + 1))), (0, .ref o)]) hx hb dX7_digest_30 hl (k := 1) rfl (inc_1 _) (by decide) rfl (fun ls hl => ?_)
        refine lv_goto (tgt := 14) hx hb dX7_digest_33 (by decide) ?_
        exact ih (k + 1) (by omega) (by omega) _ _ (show md E o z (w_h (w_th w (nI 0)) (fl (coV z (q_sm w)) 2477 (k + 1))) _ from hP) hS _ (lv_sub hl [1, 0] rfl)
  refine lv_aload_n hx hb dX7_digest_0 rfl (lv_at hl 0 rfl) ?_
  refine lv_iconst (v := nI 0) hx hb dX7_digest_1 (by decide) ?_
  refine md_put (w' := w_th w (nI 0)) S hK hP (fun _ h => List.mem_cons_of_mem _ (List.mem_append_right _ (h))) 6 (by decide) (List.mem_cons_of_mem _ (List.mem_append_left _ (List.mem_append_left _ (List.mem_of_getElem? (i := 0) rfl)))) rfl rfl rfl rfl rfl rfl rfl rfl rfl hS (fun _ h => h) dX7_digest_2 (fun H locs hP zH fH hS => ?_)
  refine lv_aload_n hx hb dX7_digest_5 rfl (lv_at hl 0 rfl) ?_
  refine lv_ldc2 (v := 2477) hx hb S.2.2.2.1 (hts _ (List.mem_cons_of_mem _ (List.mem_append_left _ (List.mem_append_left _ (List.mem_of_getElem? (i := 1) rfl))))) dX7_digest_6 ?_
  refine md_put (w' := w_h (w_th w (nI 0)) 2477) S hK hP (fun _ h => List.mem_cons_of_mem _ (List.mem_append_right _ (h))) 10 (by decide) (List.mem_cons_of_mem _ (List.mem_append_left _ (List.mem_append_left _ (List.mem_of_getElem? (i := 2) rfl)))) rfl rfl rfl rfl rfl rfl rfl rfl rfl hS (fun _ h => h) dX7_digest_9 (fun H locs hP zH fH hS => ?_)
  refine lv_iconst (v := nI 0) hx hb dX7_digest_12 (by decide) ?_
  refine lv_istore_n (lv' := [(1, .int (nI 0)), (0, .ref o)]) hx hb dX7_digest_13 rfl hl (by decide) rfl (fun ls hl => ?_)
  exact J14 (14 + 1) 0 (by omega) (by omega) _ _ (show md E o z (w_h (w_th w (nI 0)) (fl (coV z (q_sm w)) 2477 0)) _ from hP) hS _ (lv_sub hl [1, 0] rfl)
def rm_X6_bitsOf_0 : Room := { frames := 0, cells := 0, slots := 0, locals := 0 }
theorem hd_X6_bitsOf : k_hd1 yX6_bitsOf RX6 1 := by decide +kernel
set_option maxHeartbeats 4000000 in
set_option maxRecDepth 100000 in
theorem c_X6_bitsOf_0 (l : Launch) (E : ke_E) : Met l yX6_bitsOf wsX6_bitsOf rm_X6_bitsOf_0 (kp E [.double FP.dconst0] (fun _ => True)) (qp (some (.long 0))) 0 0 nof := by
  refine k_hd (cc := cX6_bitsOf) (maxL := 9) (ret := (some .long)) (by decide) rfl (Nat.le_of_ble_eq_true rfl) ?_
  intro p e s m below meth c ls S hr hlk hnm hK hP hl
  have hx := S.1
  have hb := S.2.1
  have hts := S.2.2.2.2
  have hl : lv_has ls 9 [(0, .double FP.dconst0)] := hl
  refine lv_dload_n hx hb dX6_bitsOf_0 rfl (lv_at hl 0 rfl) ?_
  refine lv_dconst0 hx hb dX6_bitsOf_1 ?_
  refine lv_dcmp hx hb dX6_bitsOf_2 ?_
  refine lv_if_ne (tgt := 8) hx hb dX6_bitsOf_3 (by decide) (fun h => absurd (by decide +kernel) h) (fun c3 => ?_)
  refine lv_lconst (v := 0) hx hb dX6_bitsOf_6 (by decide) ?_
  exact k_lret hx hb hr hlk dX6_bitsOf_7 (rfl)
def rm_X6_bitsOf : Room := { frames := 0, cells := 0, slots := 0, locals := 0 }
set_option maxHeartbeats 4000000 in
set_option maxRecDepth 100000 in
theorem c_X6_bitsOf (l : Launch) (E : ke_E) (v : UInt64) (s0 : Bool) (c0 : Nat) (q : Int) (hv : fpN v s0 c0 q) (hq : -90 ≤ q ∧ q ≤ 0) : Met l yX6_bitsOf wsX6_bitsOf rm_X6_bitsOf (kp E [.double v] (fun _ => True)) (qp (some (.long v.toInt64))) 0 0 nof := by
  refine k_hd (cc := cX6_bitsOf) (maxL := 9) (ret := (some .long)) (by decide) rfl (Nat.le_of_ble_eq_true rfl) ?_
  intro p e s m below meth c ls S hr hlk hnm hK hP hl
  have hx := S.1
  have hb := S.2.1
  have hts := S.2.2.2.2
  have hl : lv_has ls 9 [(0, .double v)] := hl
  have J63 : ∀ (n_ : Nat), ∀ (x : UInt64), ∀ (j : Nat), ∀ (e9 : Nat), ∀ (pp : Int), fpN x false c0 pp → (e9 : Int) + pp = 1023 + q → -90 ≤ pp ∧ pp ≤ -52 → (j : Int) ≤ pp + 90 → (-pp).toNat < n_ → ∀ (ls : Array Slot), lv_has ls 9 [(0, .double v), (2, .double x), (4, .int (nI e9)), (5, .int (nI j))] → W p l e (headSpec wsX6_bitsOf rm_X6_bitsOf).room s m ([.double v] : List Value).toArray below meth c s.heap [] 0 0 (MQ below (qp (some (.long v.toInt64))) ([.double v] : List Value).toArray s 0 0 nof) (F0 m 63 ls []) := by
    intro n_
    induction n_ with
    | zero =>
      intro x j e9 pp hx9 hep hp hj hn_ _ _
      exact absurd hn_ (by omega)
    | succ n_ ih =>
      intro x j e9 pp hx9 hep hp hj hn_ ls hl
      refine lv_iload hx hb dX6_bitsOf_63 (lv_at hl 3 rfl) ?_
      refine lv_sipush (v := nI 1023) hx hb dX6_bitsOf_65 (by decide) ?_
      refine n_ige (tgt := 92) hx hb dX6_bitsOf_68 (by decide) (by omega) (by omega) (fun h => absurd h (by omega)) (fun c68 => ?_)
      refine lv_dload_n hx hb dX6_bitsOf_71 rfl (lv_at hl 1 rfl) ?_
      refine lv_dconst1 hx hb dX6_bitsOf_72 ?_
      refine lv_dcmp hx hb dX6_bitsOf_73 ?_
      refine lv_if_ge (tgt := 92) hx hb dX6_bitsOf_74 (by decide) (fun c74 => ?_) (fun c74 => ?_)
      · have e8 := (fp_c1 hx9).mp c74
        have e7 : pp = -52 := by omega
        subst e7
        obtain ⟨f1, f2, f3⟩ := fp_frac hx9
        have e6 : (e9 : Int) = q + 1075 := by omega
        refine lv_dload_n hx hb dX6_bitsOf_92 rfl (lv_at hl 1 rfl) ?_
        refine lv_dconst1 hx hb dX6_bitsOf_93 ?_
        refine lv_dsub hx hb dX6_bitsOf_94 f1 ?_
        refine lv_ldc2d (v := 4841369599423283200) hx hb S.2.2.2.1 (hts _ (List.mem_cons_of_mem _ (List.mem_of_getElem? (i := 1) rfl))) dX6_bitsOf_95 ?_
        refine lv_dmul hx hb dX6_bitsOf_98 f2 ?_
        refine lv_d2l hx hb dX6_bitsOf_99 ?_
        refine lv_lstore (lv' := [(5, .long (FP.d2l (FP.dmul (FP.dsub x FP.dconst1) 4841369599423283200))), (0, .double v), (2, .double x), (4, .int (nI e9))]) hx hb dX6_bitsOf_100 hl (by decide) rfl (fun ls hl => ?_)
        refine lv_iload hx hb dX6_bitsOf_102 (lv_at hl 3 rfl) ?_
        refine lv_i2l hx hb dX6_bitsOf_104 rfl ?_
        refine lv_bipush (v := nI 52) hx hb dX6_bitsOf_105 (by decide) ?_
        refine lv_lshl hx hb dX6_bitsOf_107 rfl ?_
        refine lv_lload hx hb dX6_bitsOf_108 (lv_at hl 0 rfl) ?_
        refine lv_lor hx hb dX6_bitsOf_110 ?_
        refine lv_lstore (lv' := [(7, .long ((((nI e9).toInt64) <<< ((nI 52).toInt64 &&& 63)) ||| (FP.d2l (FP.dmul (FP.dsub x FP.dconst1) 4841369599423283200)))), (5, .long (FP.d2l (FP.dmul (FP.dsub x FP.dconst1) 4841369599423283200))), (0, .double v), (2, .double x), (4, .int (nI e9))]) hx hb dX6_bitsOf_111 hl (by decide) rfl (fun ls hl => ?_)
        refine lv_dload_n hx hb dX6_bitsOf_113 rfl (lv_at hl 2 rfl) ?_
        refine lv_dconst0 hx hb dX6_bitsOf_114 ?_
        refine lv_dcmp hx hb dX6_bitsOf_115 ?_
        refine lv_if_ge (tgt := 128) hx hb dX6_bitsOf_116 (by decide) (fun c116 => ?_) (fun c116 => ?_)
        · refine lv_lload hx hb dX6_bitsOf_128 (lv_at hl 0 rfl) ?_
          exact k_lret hx hb hr hlk dX6_bitsOf_130 (by rw [f3]; exact (fp_bf (show fpN v false c0 q by have e5 := (fp_c0g hv).mp c116; subst e5; exact hv) hq e6).symm)
        · refine lv_lload hx hb dX6_bitsOf_119 (lv_at hl 0 rfl) ?_
          refine lv_ldc2 (v := (-9223372036854775808)) hx hb S.2.2.2.1 (hts _ (List.mem_cons_of_mem _ (List.mem_of_getElem? (i := 2) rfl))) dX6_bitsOf_121 ?_
          refine lv_lor hx hb dX6_bitsOf_124 ?_
          refine lv_goto (tgt := 130) hx hb dX6_bitsOf_125 (by decide) ?_
          exact k_lret hx hb hr hlk dX6_bitsOf_130 (by rw [f3]; exact (fp_bt (show fpN v true c0 q by have e5 := fun k => c116 ((fp_c0g hv).mpr k); cases s0 with | false => exact absurd rfl e5 | true => exact hv) hq e6).symm)
      · refine lv_dload_n hx hb dX6_bitsOf_77 rfl (lv_at hl 1 rfl) ?_
        refine lv_ldc2d (v := 4611686018427387904) hx hb S.2.2.2.1 (hts _ (List.mem_cons_of_mem _ (List.mem_of_getElem? (i := 0) rfl))) dX6_bitsOf_78 ?_
        refine lv_dmul hx hb dX6_bitsOf_81 (fpN_n (fp_dbl hx9 (by omega) (by omega))) ?_
        refine lv_dstore_n (lv' := [(2, .double (FP.dmul x 4611686018427387904)), (0, .double v), (4, .int (nI e9)), (5, .int (nI j))]) hx hb dX6_bitsOf_82 rfl hl (by decide) rfl (fun ls hl => ?_)
        obtain ⟨e1, rfl⟩ : ∃ e1, e9 = e1 + 1 := ⟨e9 - 1, by omega⟩
        refine lv_iinc (v := nI e1) (lv' := [(4, .int (nI e1)), (2, .double (FP.dmul x 4611686018427387904)), (0, .double v), (5, .int (nI j))]) hx hb dX6_bitsOf_83 hl (k := 2) rfl (inc_m1 _) (by decide) rfl (fun ls hl => ?_)
        refine lv_iinc (v := nI (j + 1)) (lv' := [(5, .int (nI (j + 1))), (4, .int (nI e1)), (2, .double (FP.dmul x 4611686018427387904)), (0, .double v)]) hx hb dX6_bitsOf_86 hl (k := 3) rfl (inc_1 _) (by decide) rfl (fun ls hl => ?_)
        refine lv_goto (tgt := 63) hx hb dX6_bitsOf_89 (by decide) ?_
        exact ih (FP.dmul x 4611686018427387904) (j + 1) e1 (pp + 1) (fp_dbl hx9 (by omega) (by omega)) (by omega) (by have e8 : ¬ -52 ≤ pp := fun k => c74 ((fp_c1 hx9).mpr k); omega) (by omega) (by omega) _ (lv_sub hl [3, 2, 1, 0] rfl)
  have J29 : ∀ (n_ : Nat), ∀ (x : UInt64), ∀ (i : Nat), ∀ (pp : Int), fpN x false c0 pp → pp = q - i → i = 0 ∨ -52 ≤ pp → (q + 100 - i).toNat < n_ → ∀ (ls : Array Slot), lv_has ls 9 [(0, .double v), (2, .double x), (4, .int (nI (i + 1023))), (5, .int (nI i))] → W p l e (headSpec wsX6_bitsOf rm_X6_bitsOf).room s m ([.double v] : List Value).toArray below meth c s.heap [] 0 0 (MQ below (qp (some (.long v.toInt64))) ([.double v] : List Value).toArray s 0 0 nof) (F0 m 29 ls []) := by
    intro n_
    induction n_ with
    | zero =>
      intro x i pp hx9 hip hi hn_ _ _
      exact absurd hn_ (by omega)
    | succ n_ ih =>
      intro x i pp hx9 hip hi hn_ ls hl
      refine lv_iload hx hb dX6_bitsOf_29 (lv_at hl 3 rfl) ?_
      refine lv_sipush (v := nI 1023) hx hb dX6_bitsOf_31 (by decide) ?_
      refine n_ige (tgt := 60) hx hb dX6_bitsOf_34 (by decide) (by omega) (by omega) (fun h => absurd h (by omega)) (fun c34 => ?_)
      refine lv_dload_n hx hb dX6_bitsOf_37 rfl (lv_at hl 1 rfl) ?_
      refine lv_ldc2d (v := 4611686018427387904) hx hb S.2.2.2.1 (hts _ (List.mem_cons_of_mem _ (List.mem_of_getElem? (i := 0) rfl))) dX6_bitsOf_38 ?_
      refine lv_dcmp hx hb dX6_bitsOf_41 ?_
      refine lv_if_lt (tgt := 60) hx hb dX6_bitsOf_42 (by decide) (fun c42 => ?_) (fun c42 => ?_)
      · refine lv_iconst (v := nI 0) hx hb dX6_bitsOf_60 (by decide) ?_
        refine lv_istore (lv' := [(5, .int (nI 0)), (0, .double v), (2, .double x), (4, .int (nI (i + 1023)))]) hx hb dX6_bitsOf_61 hl (by decide) rfl (fun ls hl => ?_)
        exact J63 ((-pp).toNat + 1) x 0 (i + 1023) pp hx9 (by omega) (by have e8 := (fp_c2 hx9).mp c42; omega) (by omega) (by omega) _ (lv_sub hl [1, 2, 3, 0] rfl)
      · refine lv_dload_n hx hb dX6_bitsOf_45 rfl (lv_at hl 1 rfl) ?_
        refine lv_ldc2d (v := 4611686018427387904) hx hb S.2.2.2.1 (hts _ (List.mem_cons_of_mem _ (List.mem_of_getElem? (i := 0) rfl))) dX6_bitsOf_46 ?_
        refine lv_ddiv hx hb dX6_bitsOf_49 (fpN_n (fp_half hx9 (by omega) (by omega))) ?_
        refine lv_dstore_n (lv' := [(2, .double (FP.ddiv x 4611686018427387904)), (0, .double v), (4, .int (nI (i + 1023))), (5, .int (nI i))]) hx hb dX6_bitsOf_50 rfl hl (by decide) rfl (fun ls hl => ?_)
        refine lv_iinc (v := nI (i + 1024)) (lv' := [(4, .int (nI (i + 1024))), (2, .double (FP.ddiv x 4611686018427387904)), (0, .double v), (5, .int (nI i))]) hx hb dX6_bitsOf_51 hl (k := 2) rfl (inc_1 _) (by decide) rfl (fun ls hl => ?_)
        refine lv_iinc (v := nI (i + 1)) (lv' := [(5, .int (nI (i + 1))), (4, .int (nI (i + 1024))), (2, .double (FP.ddiv x 4611686018427387904)), (0, .double v)]) hx hb dX6_bitsOf_54 hl (k := 3) rfl (inc_1 _) (by decide) rfl (fun ls hl => ?_)
        refine lv_goto (tgt := 29) hx hb dX6_bitsOf_57 (by decide) ?_
        exact ih (FP.ddiv x 4611686018427387904) (i + 1) (pp - 1) (fp_half hx9 (by omega) (by omega)) (by omega) (Or.inr (by have e8 : ¬ pp < -51 := fun k => c42 ((fp_c2 hx9).mpr k); omega)) (by omega) _ (lv_sub hl [3, 2, 1, 0] rfl)
  have J20 : ∀ (x : UInt64), fpN x false c0 q → ∀ (ls : Array Slot), lv_has ls 9 [(0, .double v)] → W p l e (headSpec wsX6_bitsOf rm_X6_bitsOf).room s m ([.double v] : List Value).toArray below meth c s.heap [] 0 0 (MQ below (qp (some (.long v.toInt64))) ([.double v] : List Value).toArray s 0 0 nof) (F0 m 20 ls [.double x]) := by
    intro x hx9 ls hl
    refine lv_dstore_n (lv' := [(2, .double x), (0, .double v)]) hx hb dX6_bitsOf_20 rfl hl (by decide) rfl (fun ls hl => ?_)
    refine lv_sipush (v := nI 1023) hx hb dX6_bitsOf_21 (by decide) ?_
    refine lv_istore (lv' := [(4, .int (nI 1023)), (2, .double x), (0, .double v)]) hx hb dX6_bitsOf_24 hl (by decide) rfl (fun ls hl => ?_)
    refine lv_iconst (v := nI 0) hx hb dX6_bitsOf_26 (by decide) ?_
    refine lv_istore (lv' := [(5, .int (nI 0)), (4, .int (nI 1023)), (2, .double x), (0, .double v)]) hx hb dX6_bitsOf_27 hl (by decide) rfl (fun ls hl => ?_)
    exact J29 ((q + 100 - 0).toNat + 1) x 0 q hx9 (by omega) (Or.inl rfl) (by omega) _ (lv_sub hl [3, 2, 1, 0] rfl)
  refine lv_dload_n hx hb dX6_bitsOf_0 rfl (lv_at hl 0 rfl) ?_
  refine lv_dconst0 hx hb dX6_bitsOf_1 ?_
  refine lv_dcmp hx hb dX6_bitsOf_2 ?_
  refine lv_if_ne (tgt := 8) hx hb dX6_bitsOf_3 (by decide) (fun c3 => ?_) (fun h => absurd h (fp_c0l hv))
  refine lv_dload_n hx hb dX6_bitsOf_8 rfl (lv_at hl 0 rfl) ?_
  refine lv_dconst0 hx hb dX6_bitsOf_9 ?_
  refine lv_dcmp hx hb dX6_bitsOf_10 ?_
  refine lv_if_ge (tgt := 19) hx hb dX6_bitsOf_11 (by decide) (fun c11 => ?_) (fun c11 => ?_)
  · refine lv_dload_n hx hb dX6_bitsOf_19 rfl (lv_at hl 0 rfl) ?_
    exact J20 v (show fpN v false c0 q by have e8 := (fp_c0g hv).mp c11; subst e8; exact hv) _ (lv_sub hl [0] rfl)
  · refine lv_dload_n hx hb dX6_bitsOf_14 rfl (lv_at hl 0 rfl) ?_
    refine lv_dneg hx hb dX6_bitsOf_15 ?_
    refine lv_goto (tgt := 20) hx hb dX6_bitsOf_16 (by decide) ?_
    exact J20 (FP.dneg v) (fp_neg (show fpN v true c0 q by have e8 := fun k => c11 ((fp_c0g hv).mpr k); cases s0 with | false => exact absurd rfl e8 | true => exact hv)) _ (lv_sub hl [0] rfl)
