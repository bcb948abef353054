def rm_X1_heldUnits : Room := { frames := 3, cells := 0, slots := 0, locals := 63 }
theorem hd_X1_heldUnits : k_hd1 yX1_heldUnits RX1 0 := by decide +kernel
set_option maxHeartbeats 4000000 in
set_option maxRecDepth 100000 in
theorem c_X1_heldUnits (l : Launch) (E : ke_E) (d : Nat) (z : Nat → Int32) (hI : iv z) : Met l yX1_heldUnits wsX1_heldUnits rm_X1_heldUnits (kp E [.ref d] (dz E d z)) (qp (some (.int (hlN z (cn z))))) 0 0 nof := by
  refine k_hd (cc := cX1_heldUnits) (maxL := 3) (ret := (some .int)) (by decide) rfl (Nat.le_of_ble_eq_true rfl) ?_
  intro p e s m below meth c ls S hr hlk hnm hK hP hl
  have hx := S.1
  have hb := S.2.1
  have hts := S.2.2.2.2
  have hP : dz E d z s.heap := hP
  have hl : lv_has ls 3 [(0, .ref d)] := hl
  have hc20 := iv_c hI
  have J4 : ∀ (n_ : Nat), ∀ (i : Nat), i ≤ cn z → cn z < i + n_ → ∀ (ls : Array Slot), lv_has ls 3 [(0, .ref d), (1, .int (hlN z i)), (2, .int (nI i))] → W p l e (headSpec wsX1_heldUnits rm_X1_heldUnits).room s m ([.ref d] : List Value).toArray below meth c s.heap [] 0 0 (MQ below (qp (some (.int (hlN z (cn z))))) ([.ref d] : List Value).toArray s 0 0 nof) (F0 m 4 ls []) := by
    intro n_
    induction n_ with
    | zero =>
      intro i hi hn_ _ _
      exact absurd hn_ (by omega)
    | succ n_ ih =>
      intro i hi hn_ ls hl
      refine lv_iload_n hx hb dX1_heldUnits_4 rfl (lv_at hl 2 rfl) ?_
      refine lv_aload_n hx hb dX1_heldUnits_5 rfl (lv_at hl 0 rfl) ?_
      refine k_get S hK (dz_d hP) rfl (fun _ h => List.mem_cons_of_mem _ (List.mem_append_left _ (List.mem_append_left _ (List.mem_append_right _ (h))))) 4 (by decide) (List.mem_cons_of_mem _ (List.mem_append_left _ (List.mem_append_left _ (List.mem_append_left _ (List.mem_of_getElem? (i := 0) rfl))))) rfl (v := .int (nI (cn z))) (congrArg (fun x => some (Value.int x)) ((iv_n hI))) dX1_heldUnits_6 ?_
      refine n_ige (tgt := 48) hx hb dX1_heldUnits_9 (by decide) (by omega) (by omega) (fun c9 => ?_) (fun c9 => ?_)
      · refine lv_iload_n hx hb dX1_heldUnits_48 rfl (lv_at hl 1 rfl) ?_
        exact k_iret hx hb hr hlk dX1_heldUnits_49 (by rw [show i = cn z by omega])
      · refine lv_iload_n hx hb dX1_heldUnits_12 rfl (lv_at hl 2 rfl) ?_
        refine lv_aload_n hx hb dX1_heldUnits_13 rfl (lv_at hl 0 rfl) ?_
        refine k_get S hK (dz_d hP) rfl (fun _ h => List.mem_cons_of_mem _ (List.mem_append_left _ (List.mem_append_left _ (List.mem_append_right _ (h))))) 2 (by decide) (List.mem_cons_of_mem _ (List.mem_append_left _ (List.mem_append_left _ (List.mem_append_left _ (List.mem_of_getElem? (i := 1) rfl))))) rfl (v := .ref (d + 3)) rfl dX1_heldUnits_14 ?_
        refine k_alen hx hb hK (t := 3) rfl (dz_ua hP) dX1_heldUnits_17 ?_
        refine k_top (y := nI 20) rfl ?_
        refine n_ige (tgt := 48) hx hb dX1_heldUnits_18 (by decide) (by omega) (by omega) (fun c18 => ?_) (fun c18 => ?_)
        · refine lv_iload_n hx hb dX1_heldUnits_48 rfl (lv_at hl 1 rfl) ?_
          exact k_iret hx hb hr hlk dX1_heldUnits_49 (by rw [show i = cn z by omega])
        · refine lv_iload_n hx hb dX1_heldUnits_21 rfl (lv_at hl 1 rfl) ?_
          refine lv_aload_n hx hb dX1_heldUnits_22 rfl (lv_at hl 0 rfl) ?_
          refine lv_aload_n hx hb dX1_heldUnits_23 rfl (lv_at hl 0 rfl) ?_
          refine k_get S hK (dz_d hP) rfl (fun _ h => List.mem_cons_of_mem _ (List.mem_append_left _ (List.mem_append_left _ (List.mem_append_right _ (h))))) 2 (by decide) (List.mem_cons_of_mem _ (List.mem_append_left _ (List.mem_append_left _ (List.mem_append_left _ (List.mem_of_getElem? (i := 1) rfl))))) rfl (v := .ref (d + 3)) rfl dX1_heldUnits_24 ?_
          refine lv_iload_n hx hb dX1_heldUnits_27 rfl (lv_at hl 2 rfl) ?_
          refine k_aald hx hb hK (t := 3) rfl (dz_ua hP) (by omega) (by decide) (v := d + 2*i + 19) rfl dX1_heldUnits_28 ?_
          refine k_V (As := [.ref (d + 2*i + 19)]) (rest := [.int (hlN z i)]) S hK (c_X1_isHeld l E d z i hI c9) gX1_heldUnits_X1_isHeld rfl hd_X1_isHeld ⟨rfl, rfl⟩ ⟨Nat.le_of_ble_eq_true rfl, Nat.le_of_ble_eq_true rfl⟩ (k_recv hK (dz_d hP) rfl) hP rfl hl.1 rfl (Nat.le_of_ble_eq_true rfl) dX1_heldUnits_29 ⟨Nat.le_of_ble_eq_true rfl, Nat.le_of_ble_eq_true rfl⟩ ?_
          refine b_eq (tgt := 39) hx hb dX1_heldUnits_32 (by decide) (fun c32 => ?_) (fun c32 => ?_)
          · refine lv_iconst (v := nI 0) hx hb dX1_heldUnits_39 (by decide) ?_
            refine lv_iadd hx hb dX1_heldUnits_40 ?_
            refine lv_istore_n (lv' := [(1, .int ((hlN z i) + (nI 0))), (0, .ref d), (2, .int (nI i))]) hx hb dX1_heldUnits_41 rfl hl (by decide) rfl (fun ls hl => ?_)
            refine lv_iinc (v := nI (i + 1)) (lv' := [(2, .int (nI (i + 1))), (1, .int ((hlN z i) + (nI 0))), (0, .ref d)]) hx hb dX1_heldUnits_42 hl (k := 2) rfl (inc_1 _) (by decide) rfl (fun ls hl => ?_)
            refine lv_goto (tgt := 4) hx hb dX1_heldUnits_45 (by decide) ?_
            have hl : lv_has ls 3 [(0, .ref d), (1, .int (hlN z (i + 1))), (2, .int (nI (i + 1)))] := by
              have h9 := lv_sub (l' := [(0, .ref d), (1, .int ((hlN z i) + (nI 0))), (2, .int (nI (i + 1)))]) hl [2, 1, 0] rfl
              rw [show (.int (hlN z (i + 1)) : Value) = .int ((hlN z i) + (nI 0)) from congrArg Value.int (congrArg (fun y9 => hlN z i + y9) (bI_f c32))]
              exact h9
            exact ih (i + 1) (by omega) (by omega) _ hl
          · refine lv_iconst (v := nI 1) hx hb dX1_heldUnits_35 (by decide) ?_
            refine lv_goto (tgt := 40) hx hb dX1_heldUnits_36 (by decide) ?_
            refine lv_iadd hx hb dX1_heldUnits_40 ?_
            refine lv_istore_n (lv' := [(1, .int ((hlN z i) + (nI 1))), (0, .ref d), (2, .int (nI i))]) hx hb dX1_heldUnits_41 rfl hl (by decide) rfl (fun ls hl => ?_)
            refine lv_iinc (v := nI (i + 1)) (lv' := [(2, .int (nI (i + 1))), (1, .int ((hlN z i) + (nI 1))), (0, .ref d)]) hx hb dX1_heldUnits_42 hl (k := 2) rfl (inc_1 _) (by decide) rfl (fun ls hl => ?_)
            refine lv_goto (tgt := 4) hx hb dX1_heldUnits_45 (by decide) ?_
            have hl : lv_has ls 3 [(0, .ref d), (1, .int (hlN z (i + 1))), (2, .int (nI (i + 1)))] := by
              have h9 := lv_sub (l' := [(0, .ref d), (1, .int ((hlN z i) + (nI 1))), (2, .int (nI (i + 1)))]) hl [2, 1, 0] rfl
              rw [show (.int (hlN z (i + 1)) : Value) = .int ((hlN z i) + (nI 1)) from congrArg Value.int (congrArg (fun y9 => hlN z i + y9) (bI_t c32))]
              exact h9
            exact ih (i + 1) (by omega) (by omega) _ hl
  refine lv_iconst (v := nI 0) hx hb dX1_heldUnits_0 (by decide) ?_
  refine lv_istore_n (lv' := [(1, .int (nI 0)), (0, .ref d)]) hx hb dX1_heldUnits_1 rfl hl (by decide) rfl (fun ls hl => ?_)
  refine lv_iconst (v := nI 0) hx hb dX1_heldUnits_2 (by decide) ?_
  refine lv_istore_n (lv' := [(2, .int (nI 0)), (1, .int (nI 0)), (0, .ref d)]) hx hb dX1_heldUnits_3 rfl hl (by decide) rfl (fun ls hl => ?_)
  have hl : lv_has ls 3 [(0, .ref d), (1, .int (hlN z 0)), (2, .int (nI 0))] := by
    have h9 := lv_sub (l' := [(0, .ref d), (1, .int (nI 0)), (2, .int (nI 0))]) hl [2, 1, 0] rfl
    rw [show (.int (hlN z 0) : Value) = .int (nI 0) from congrArg Value.int rfl]
    exact h9
  exact J4 (cn z + 1) 0 (by omega) (by omega) _ hl
def rm_X1_unitsToRepair : Room := { frames := 3, cells := 0, slots := 0, locals := 63 }
theorem hd_X1_unitsToRepair : k_hd1 yX1_unitsToRepair RX1 0 := by decide +kernel
set_option maxHeartbeats 4000000 in
set_option maxRecDepth 100000 in
theorem c_X1_unitsToRepair (l : Launch) (E : ke_E) (d : Nat) (z : Nat → Int32) (hI : iv z) : Met l yX1_unitsToRepair wsX1_unitsToRepair rm_X1_unitsToRepair (kp E [.ref d] (dz E d z)) (qp (some (.int (wkN z (cn z))))) 0 0 nof := by
  refine k_hd (cc := cX1_unitsToRepair) (maxL := 3) (ret := (some .int)) (by decide) rfl (Nat.le_of_ble_eq_true rfl) ?_
  intro p e s m below meth c ls S hr hlk hnm hK hP hl
  have hx := S.1
  have hb := S.2.1
  have hts := S.2.2.2.2
  have hP : dz E d z s.heap := hP
  have hl : lv_has ls 3 [(0, .ref d)] := hl
  have hc20 := iv_c hI
  have J4 : ∀ (n_ : Nat), ∀ (i : Nat), i ≤ cn z → cn z < i + n_ → ∀ (ls : Array Slot), lv_has ls 3 [(0, .ref d), (1, .int (wkN z i)), (2, .int (nI i))] → W p l e (headSpec wsX1_unitsToRepair rm_X1_unitsToRepair).room s m ([.ref d] : List Value).toArray below meth c s.heap [] 0 0 (MQ below (qp (some (.int (wkN z (cn z))))) ([.ref d] : List Value).toArray s 0 0 nof) (F0 m 4 ls []) := by
    intro n_
    induction n_ with
    | zero =>
      intro i hi hn_ _ _
      exact absurd hn_ (by omega)
    | succ n_ ih =>
      intro i hi hn_ ls hl
      refine lv_iload_n hx hb dX1_unitsToRepair_4 rfl (lv_at hl 2 rfl) ?_
      refine lv_aload_n hx hb dX1_unitsToRepair_5 rfl (lv_at hl 0 rfl) ?_
      refine k_get S hK (dz_d hP) rfl (fun _ h => List.mem_cons_of_mem _ (List.mem_append_left _ (List.mem_append_left _ (List.mem_append_right _ (h))))) 4 (by decide) (List.mem_cons_of_mem _ (List.mem_append_left _ (List.mem_append_left _ (List.mem_append_left _ (List.mem_of_getElem? (i := 0) rfl))))) rfl (v := .int (nI (cn z))) (congrArg (fun x => some (Value.int x)) ((iv_n hI))) dX1_unitsToRepair_6 ?_
      refine n_ige (tgt := 61) hx hb dX1_unitsToRepair_9 (by decide) (by omega) (by omega) (fun c9 => ?_) (fun c9 => ?_)
      · refine lv_iload_n hx hb dX1_unitsToRepair_61 rfl (lv_at hl 1 rfl) ?_
        exact k_iret hx hb hr hlk dX1_unitsToRepair_62 (by rw [show i = cn z by omega])
      · refine lv_iload_n hx hb dX1_unitsToRepair_12 rfl (lv_at hl 2 rfl) ?_
        refine lv_aload_n hx hb dX1_unitsToRepair_13 rfl (lv_at hl 0 rfl) ?_
        refine k_get S hK (dz_d hP) rfl (fun _ h => List.mem_cons_of_mem _ (List.mem_append_left _ (List.mem_append_left _ (List.mem_append_right _ (h))))) 2 (by decide) (List.mem_cons_of_mem _ (List.mem_append_left _ (List.mem_append_left _ (List.mem_append_left _ (List.mem_of_getElem? (i := 1) rfl))))) rfl (v := .ref (d + 3)) rfl dX1_unitsToRepair_14 ?_
        refine k_alen hx hb hK (t := 3) rfl (dz_ua hP) dX1_unitsToRepair_17 ?_
        refine k_top (y := nI 20) rfl ?_
        refine n_ige (tgt := 61) hx hb dX1_unitsToRepair_18 (by decide) (by omega) (by omega) (fun c18 => ?_) (fun c18 => ?_)
        · refine lv_iload_n hx hb dX1_unitsToRepair_61 rfl (lv_at hl 1 rfl) ?_
          exact k_iret hx hb hr hlk dX1_unitsToRepair_62 (by rw [show i = cn z by omega])
        · refine lv_iload_n hx hb dX1_unitsToRepair_21 rfl (lv_at hl 1 rfl) ?_
          refine lv_aload_n hx hb dX1_unitsToRepair_22 rfl (lv_at hl 0 rfl) ?_
          refine k_get S hK (dz_d hP) rfl (fun _ h => List.mem_cons_of_mem _ (List.mem_append_left _ (List.mem_append_left _ (List.mem_append_right _ (h))))) 2 (by decide) (List.mem_cons_of_mem _ (List.mem_append_left _ (List.mem_append_left _ (List.mem_append_left _ (List.mem_of_getElem? (i := 1) rfl))))) rfl (v := .ref (d + 3)) rfl dX1_unitsToRepair_23 ?_
          refine lv_iload_n hx hb dX1_unitsToRepair_26 rfl (lv_at hl 2 rfl) ?_
          refine k_aald hx hb hK (t := 3) rfl (dz_ua hP) (by omega) (by decide) (v := d + 2*i + 19) rfl dX1_unitsToRepair_27 ?_
          refine k_get S hK (dz_u hP i c9) rfl (fun _ h => List.mem_cons_of_mem _ (List.mem_append_left _ (List.mem_append_right _ (h)))) 3 (by decide) (List.mem_cons_of_mem _ (List.mem_append_left _ (List.mem_append_left _ (List.mem_append_left _ (List.mem_of_getElem? (i := 2) rfl))))) rfl (v := .int (z (13*i + 68))) rfl dX1_unitsToRepair_28 ?_
          refine lv_iconst (v := nI 1) hx hb dX1_unitsToRepair_31 (by decide) ?_
          refine lv_icmp_ne (tgt := 52) hx hb dX1_unitsToRepair_32 (by decide) (fun c32 => ?_) (fun c32 => ?_)
          · refine lv_iconst (v := nI 0) hx hb dX1_unitsToRepair_52 (by decide) ?_
            refine lv_iadd hx hb dX1_unitsToRepair_53 ?_
            refine lv_istore_n (lv' := [(1, .int ((wkN z i) + (nI 0))), (0, .ref d), (2, .int (nI i))]) hx hb dX1_unitsToRepair_54 rfl hl (by decide) rfl (fun ls hl => ?_)
            refine lv_iinc (v := nI (i + 1)) (lv' := [(2, .int (nI (i + 1))), (1, .int ((wkN z i) + (nI 0))), (0, .ref d)]) hx hb dX1_unitsToRepair_55 hl (k := 2) rfl (inc_1 _) (by decide) rfl (fun ls hl => ?_)
            refine lv_goto (tgt := 4) hx hb dX1_unitsToRepair_58 (by decide) ?_
            have hl : lv_has ls 3 [(0, .ref d), (1, .int (wkN z (i + 1))), (2, .int (nI (i + 1)))] := by
              have h9 := lv_sub (l' := [(0, .ref d), (1, .int ((wkN z i) + (nI 0))), (2, .int (nI (i + 1)))]) hl [2, 1, 0] rfl
              rw [show (.int (wkN z (i + 1)) : Value) = .int ((wkN z i) + (nI 0)) from congrArg Value.int (congrArg (fun y9 => wkN z i + y9) (bI_f (fun h => c32 h.1)))]
              exact h9
            exact ih (i + 1) (by omega) (by omega) _ hl
          · refine lv_aload_n hx hb dX1_unitsToRepair_35 rfl (lv_at hl 0 rfl) ?_
            refine lv_aload_n hx hb dX1_unitsToRepair_36 rfl (lv_at hl 0 rfl) ?_
            refine k_get S hK (dz_d hP) rfl (fun _ h => List.mem_cons_of_mem _ (List.mem_append_left _ (List.mem_append_left _ (List.mem_append_right _ (h))))) 2 (by decide) (List.mem_cons_of_mem _ (List.mem_append_left _ (List.mem_append_left _ (List.mem_append_left _ (List.mem_of_getElem? (i := 1) rfl))))) rfl (v := .ref (d + 3)) rfl dX1_unitsToRepair_37 ?_
            refine lv_iload_n hx hb dX1_unitsToRepair_40 rfl (lv_at hl 2 rfl) ?_
            refine k_aald hx hb hK (t := 3) rfl (dz_ua hP) (by omega) (by decide) (v := d + 2*i + 19) rfl dX1_unitsToRepair_41 ?_
            refine k_V (As := [.ref (d + 2*i + 19)]) (rest := [.int (wkN z i)]) S hK (c_X1_isHeld l E d z i hI c9) gX1_unitsToRepair_X1_isHeld rfl hd_X1_isHeld ⟨rfl, rfl⟩ ⟨Nat.le_of_ble_eq_true rfl, Nat.le_of_ble_eq_true rfl⟩ (k_recv hK (dz_d hP) rfl) hP rfl hl.1 rfl (Nat.le_of_ble_eq_true rfl) dX1_unitsToRepair_42 ⟨Nat.le_of_ble_eq_true rfl, Nat.le_of_ble_eq_true rfl⟩ ?_
            refine b_ne (tgt := 52) hx hb dX1_unitsToRepair_45 (by decide) (fun c45 => ?_) (fun c45 => ?_)
            · refine lv_iconst (v := nI 0) hx hb dX1_unitsToRepair_52 (by decide) ?_
              refine lv_iadd hx hb dX1_unitsToRepair_53 ?_
              refine lv_istore_n (lv' := [(1, .int ((wkN z i) + (nI 0))), (0, .ref d), (2, .int (nI i))]) hx hb dX1_unitsToRepair_54 rfl hl (by decide) rfl (fun ls hl => ?_)
              refine lv_iinc (v := nI (i + 1)) (lv' := [(2, .int (nI (i + 1))), (1, .int ((wkN z i) + (nI 0))), (0, .ref d)]) hx hb dX1_unitsToRepair_55 hl (k := 2) rfl (inc_1 _) (by decide) rfl (fun ls hl => ?_)
              refine lv_goto (tgt := 4) hx hb dX1_unitsToRepair_58 (by decide) ?_
              have hl : lv_has ls 3 [(0, .ref d), (1, .int (wkN z (i + 1))), (2, .int (nI (i + 1)))] := by
                have h9 := lv_sub (l' := [(0, .ref d), (1, .int ((wkN z i) + (nI 0))), (2, .int (nI (i + 1)))]) hl [2, 1, 0] rfl
                rw [show (.int (wkN z (i + 1)) : Value) = .int ((wkN z i) + (nI 0)) from congrArg Value.int (congrArg (fun y9 => wkN z i + y9) (bI_f (fun h => h.2 c45)))]
                exact h9
              exact ih (i + 1) (by omega) (by omega) _ hl
            · refine lv_iconst (v := nI 1) hx hb dX1_unitsToRepair_48 (by decide) ?_
              refine lv_goto (tgt := 53) hx hb dX1_unitsToRepair_49 (by decide) ?_
              refine lv_iadd hx hb dX1_unitsToRepair_53 ?_
              refine lv_istore_n (lv' := [(1, .int ((wkN z i) + (nI 1))), (0, .ref d), (2, .int (nI i))]) hx hb dX1_unitsToRepair_54 rfl hl (by decide) rfl (fun ls hl => ?_)
              refine lv_iinc (v := nI (i + 1)) (lv' := [(2, .int (nI (i + 1))), (1, .int ((wkN z i) + (nI 1))), (0, .ref d)]) hx hb dX1_unitsToRepair_55 hl (k := 2) rfl (inc_1 _) (by decide) rfl (fun ls hl => ?_)
              refine lv_goto (tgt := 4) hx hb dX1_unitsToRepair_58 (by decide) ?_
              have hl : lv_has ls 3 [(0, .ref d), (1, .int (wkN z (i + 1))), (2, .int (nI (i + 1)))] := by
                have h9 := lv_sub (l' := [(0, .ref d), (1, .int ((wkN z i) + (nI 1))), (2, .int (nI (i + 1)))]) hl [2, 1, 0] rfl
                rw [show (.int (wkN z (i + 1)) : Value) = .int ((wkN z i) + (nI 1)) from congrArg Value.int (congrArg (fun y9 => wkN z i + y9) (bI_t ⟨c32, c45⟩))]
                exact h9
              exact ih (i + 1) (by omega) (by omega) _ hl
  refine lv_iconst (v := nI 0) hx hb dX1_unitsToRepair_0 (by decide) ?_
  refine lv_istore_n (lv' := [(1, .int (nI 0)), (0, .ref d)]) hx hb dX1_unitsToRepair_1 rfl hl (by decide) rfl (fun ls hl => ?_)
  refine lv_iconst (v := nI 0) hx hb dX1_unitsToRepair_2 (by decide) ?_
  refine lv_istore_n (lv' := [(2, .int (nI 0)), (1, .int (nI 0)), (0, .ref d)]) hx hb dX1_unitsToRepair_3 rfl hl (by decide) rfl (fun ls hl => ?_)
  have hl : lv_has ls 3 [(0, .ref d), (1, .int (wkN z 0)), (2, .int (nI 0))] := by
    have h9 := lv_sub (l' := [(0, .ref d), (1, .int (nI 0)), (2, .int (nI 0))]) hl [2, 1, 0] rfl
    rw [show (.int (wkN z 0) : Value) = .int (nI 0) from congrArg Value.int rfl]
    exact h9
  exact J4 (cn z + 1) 0 (by omega) (by omega) _ hl
def rm_X1_unitsIn : Room := { frames := 0, cells := 0, slots := 0, locals := 0 }
theorem hd_X1_unitsIn : k_hd1 yX1_unitsIn RX1 1 := by decide +kernel
set_option maxHeartbeats 4000000 in
set_option maxRecDepth 100000 in
theorem c_X1_unitsIn (l : Launch) (E : ke_E) (d : Nat) (z : Nat → Int32) (x : Int32) (hI : iv z) : Met l yX1_unitsIn wsX1_unitsIn rm_X1_unitsIn (kp E [.ref d, .int x] (dz E d z)) (qp (some (.int (whN z x (cn z))))) 0 0 nof := by
  refine k_hd (cc := cX1_unitsIn) (maxL := 4) (ret := (some .int)) (by decide) rfl (Nat.le_of_ble_eq_true rfl) ?_
  intro p e s m below meth c ls S hr hlk hnm hK hP hl
  have hx := S.1
  have hb := S.2.1
  have hts := S.2.2.2.2
  have hP : dz E d z s.heap := hP
  have hl : lv_has ls 4 [(0, .ref d), (1, .int x)] := hl
  have hc20 := iv_c hI
  have J4 : ∀ (n_ : Nat), ∀ (i : Nat), i ≤ cn z → cn z < i + n_ → ∀ (ls : Array Slot), lv_has ls 4 [(0, .ref d), (1, .int x), (2, .int (whN z x i)), (3, .int (nI i))] → W p l e (headSpec wsX1_unitsIn rm_X1_unitsIn).room s m ([.ref d, .int x] : List Value).toArray below meth c s.heap [] 0 0 (MQ below (qp (some (.int (whN z x (cn z))))) ([.ref d, .int x] : List Value).toArray s 0 0 nof) (F0 m 4 ls []) := by
    intro n_
    induction n_ with
    | zero =>
      intro i hi hn_ _ _
      exact absurd hn_ (by omega)
    | succ n_ ih =>
      intro i hi hn_ ls hl
      refine lv_iload_n hx hb dX1_unitsIn_4 rfl (lv_at hl 3 rfl) ?_
      refine lv_aload_n hx hb dX1_unitsIn_5 rfl (lv_at hl 0 rfl) ?_
      refine k_get S hK (dz_d hP) rfl (fun _ h => List.mem_cons_of_mem _ (List.mem_append_left _ (List.mem_append_right _ (h)))) 4 (by decide) (List.mem_cons_of_mem _ (List.mem_append_left _ (List.mem_append_left _ (List.mem_of_getElem? (i := 0) rfl)))) rfl (v := .int (nI (cn z))) (congrArg (fun x => some (Value.int x)) ((iv_n hI))) dX1_unitsIn_6 ?_
      refine n_ige (tgt := 48) hx hb dX1_unitsIn_9 (by decide) (by omega) (by omega) (fun c9 => ?_) (fun c9 => ?_)
      · refine lv_iload_n hx hb dX1_unitsIn_48 rfl (lv_at hl 2 rfl) ?_
        exact k_iret hx hb hr hlk dX1_unitsIn_49 (by rw [show i = cn z by omega])
      · refine lv_iload_n hx hb dX1_unitsIn_12 rfl (lv_at hl 3 rfl) ?_
        refine lv_aload_n hx hb dX1_unitsIn_13 rfl (lv_at hl 0 rfl) ?_
        refine k_get S hK (dz_d hP) rfl (fun _ h => List.mem_cons_of_mem _ (List.mem_append_left _ (List.mem_append_right _ (h)))) 2 (by decide) (List.mem_cons_of_mem _ (List.mem_append_left _ (List.mem_append_left _ (List.mem_of_getElem? (i := 1) rfl)))) rfl (v := .ref (d + 3)) rfl dX1_unitsIn_14 ?_
        refine k_alen hx hb hK (t := 3) rfl (dz_ua hP) dX1_unitsIn_17 ?_
        refine k_top (y := nI 20) rfl ?_
        refine n_ige (tgt := 48) hx hb dX1_unitsIn_18 (by decide) (by omega) (by omega) (fun c18 => ?_) (fun c18 => ?_)
        · refine lv_iload_n hx hb dX1_unitsIn_48 rfl (lv_at hl 2 rfl) ?_
          exact k_iret hx hb hr hlk dX1_unitsIn_49 (by rw [show i = cn z by omega])
        · refine lv_iload_n hx hb dX1_unitsIn_21 rfl (lv_at hl 2 rfl) ?_
          refine lv_aload_n hx hb dX1_unitsIn_22 rfl (lv_at hl 0 rfl) ?_
          refine k_get S hK (dz_d hP) rfl (fun _ h => List.mem_cons_of_mem _ (List.mem_append_left _ (List.mem_append_right _ (h)))) 2 (by decide) (List.mem_cons_of_mem _ (List.mem_append_left _ (List.mem_append_left _ (List.mem_of_getElem? (i := 1) rfl)))) rfl (v := .ref (d + 3)) rfl dX1_unitsIn_23 ?_
          refine lv_iload_n hx hb dX1_unitsIn_26 rfl (lv_at hl 3 rfl) ?_
          refine k_aald hx hb hK (t := 3) rfl (dz_ua hP) (by omega) (by decide) (v := d + 2*i + 19) rfl dX1_unitsIn_27 ?_
          refine k_get S hK (dz_u hP i c9) rfl (fun _ h => List.mem_cons_of_mem _ (List.mem_append_right _ (h))) 3 (by decide) (List.mem_cons_of_mem _ (List.mem_append_left _ (List.mem_append_left _ (List.mem_of_getElem? (i := 2) rfl)))) rfl (v := .int (z (13*i + 68))) rfl dX1_unitsIn_28 ?_
          refine lv_iload_n hx hb dX1_unitsIn_31 rfl (lv_at hl 1 rfl) ?_
          refine lv_icmp_ne (tgt := 39) hx hb dX1_unitsIn_32 (by decide) (fun c32 => ?_) (fun c32 => ?_)
          · refine lv_iconst (v := nI 0) hx hb dX1_unitsIn_39 (by decide) ?_
            refine lv_iadd hx hb dX1_unitsIn_40 ?_
            refine lv_istore_n (lv' := [(2, .int ((whN z x i) + (nI 0))), (0, .ref d), (1, .int x), (3, .int (nI i))]) hx hb dX1_unitsIn_41 rfl hl (by decide) rfl (fun ls hl => ?_)
            refine lv_iinc (v := nI (i + 1)) (lv' := [(3, .int (nI (i + 1))), (2, .int ((whN z x i) + (nI 0))), (0, .ref d), (1, .int x)]) hx hb dX1_unitsIn_42 hl (k := 3) rfl (inc_1 _) (by decide) rfl (fun ls hl => ?_)
            refine lv_goto (tgt := 4) hx hb dX1_unitsIn_45 (by decide) ?_
            have hl : lv_has ls 4 [(0, .ref d), (1, .int x), (2, .int (whN z x (i + 1))), (3, .int (nI (i + 1)))] := by
              have h9 := lv_sub (l' := [(0, .ref d), (1, .int x), (2, .int ((whN z x i) + (nI 0))), (3, .int (nI (i + 1)))]) hl [2, 3, 1, 0] rfl
              rw [show (.int (whN z x (i + 1)) : Value) = .int ((whN z x i) + (nI 0)) from congrArg Value.int (congrArg (fun y9 => whN z x i + y9) (bI_f c32))]
              exact h9
            exact ih (i + 1) (by omega) (by omega) _ hl
          · refine lv_iconst (v := nI 1) hx hb dX1_unitsIn_35 (by decide) ?_
            refine lv_goto (tgt := 40) hx hb dX1_unitsIn_36 (by decide) ?_
            refine lv_iadd hx hb dX1_unitsIn_40 ?_
            refine lv_istore_n (lv' := [(2, .int ((whN z x i) + (nI 1))), (0, .ref d), (1, .int x), (3, .int (nI i))]) hx hb dX1_unitsIn_41 rfl hl (by decide) rfl (fun ls hl => ?_)
            refine lv_iinc (v := nI (i + 1)) (lv' := [(3, .int (nI (i + 1))), (2, .int ((whN z x i) + (nI 1))), (0, .ref d), (1, .int x)]) hx hb dX1_unitsIn_42 hl (k := 3) rfl (inc_1 _) (by decide) rfl (fun ls hl => ?_)
            refine lv_goto (tgt := 4) hx hb dX1_unitsIn_45 (by decide) ?_
            have hl : lv_has ls 4 [(0, .ref d), (1, .int x), (2, .int (whN z x (i + 1))), (3, .int (nI (i + 1)))] := by
              have h9 := lv_sub (l' := [(0, .ref d), (1, .int x), (2, .int ((whN z x i) + (nI 1))), (3, .int (nI (i + 1)))]) hl [2, 3, 1, 0] rfl
              rw [show (.int (whN z x (i + 1)) : Value) = .int ((whN z x i) + (nI 1)) from congrArg Value.int (congrArg (fun y9 => whN z x i + y9) (bI_t c32))]
              exact h9
            exact ih (i + 1) (by omega) (by omega) _ hl
  refine lv_iconst (v := nI 0) hx hb dX1_unitsIn_0 (by decide) ?_
  refine lv_istore_n (lv' := [(2, .int (nI 0)), (0, .ref d), (1, .int x)]) hx hb dX1_unitsIn_1 rfl hl (by decide) rfl (fun ls hl => ?_)
  refine lv_iconst (v := nI 0) hx hb dX1_unitsIn_2 (by decide) ?_
  refine lv_istore_n (lv' := [(3, .int (nI 0)), (2, .int (nI 0)), (0, .ref d), (1, .int x)]) hx hb dX1_unitsIn_3 rfl hl (by decide) rfl (fun ls hl => ?_)
  have hl : lv_has ls 4 [(0, .ref d), (1, .int x), (2, .int (whN z x 0)), (3, .int (nI 0))] := by
    have h9 := lv_sub (l' := [(0, .ref d), (1, .int x), (2, .int (nI 0)), (3, .int (nI 0))]) hl [2, 3, 1, 0] rfl
    rw [show (.int (whN z x 0) : Value) = .int (nI 0) from congrArg Value.int rfl]
    exact h9
  exact J4 (cn z + 1) 0 (by omega) (by omega) _ hl
def rm_X1_unitsOf_04 : Room := { frames := 0, cells := 0, slots := 0, locals := 0 }
theorem hd_X1_unitsOf : k_hd1 yX1_unitsOf RX1 3 := by decide +kernel
set_option maxHeartbeats 4000000 in
set_option maxRecDepth 100000 in
theorem c_X1_unitsOf_04 (l : Launch) (E : ke_E) (d : Nat) (z : Nat → Int32) (q : Nat) (hI : iv z) (hq6 : q < 6) : Met l yX1_unitsOf wsX1_unitsOf rm_X1_unitsOf_04 (kp E [.ref d, .int (nI q), .int (nI 0), .int (nI 4)] (dz E d z)) (qp (some (.int (ofN z q (fun _ => True) (cn z))))) 0 0 nof := by
  refine k_hd (cc := cX1_unitsOf) (maxL := 7) (ret := (some .int)) (by decide) rfl (Nat.le_of_ble_eq_true rfl) ?_
  intro p e s m below meth c ls S hr hlk hnm hK hP hl
  have hx := S.1
  have hb := S.2.1
  have hts := S.2.2.2.2
  have hP : dz E d z s.heap := hP
  have hl : lv_has ls 7 [(0, .ref d), (1, .int (nI q)), (2, .int (nI 0)), (3, .int (nI 4))] := hl
  have hc20 := iv_c hI
  have J6 : ∀ (n_ : Nat), ∀ (i : Nat), i ≤ cn z → cn z < i + n_ → ∀ (ls : Array Slot), lv_has ls 7 [(0, .ref d), (1, .int (nI q)), (2, .int (nI 0)), (3, .int (nI 4)), (4, .int (ofN z q (fun _ => True) i)), (5, .int (nI i))] → W p l e (headSpec wsX1_unitsOf rm_X1_unitsOf_04).room s m ([.ref d, .int (nI q), .int (nI 0), .int (nI 4)] : List Value).toArray below meth c s.heap [] 0 0 (MQ below (qp (some (.int (ofN z q (fun _ => True) (cn z))))) ([.ref d, .int (nI q), .int (nI 0), .int (nI 4)] : List Value).toArray s 0 0 nof) (F0 m 6 ls []) := by
    intro n_
    induction n_ with
    | zero =>
      intro i hi hn_ _ _
      exact absurd hn_ (by omega)
    | succ n_ ih =>
      intro i hi hn_ ls hl
      refine lv_iload hx hb dX1_unitsOf_6 (lv_at hl 5 rfl) ?_
      refine lv_aload_n hx hb dX1_unitsOf_8 rfl (lv_at hl 0 rfl) ?_
      refine k_get S hK (dz_d hP) rfl (fun _ h => List.mem_cons_of_mem _ (List.mem_append_left _ (List.mem_append_right _ (h)))) 4 (by decide) (List.mem_cons_of_mem _ (List.mem_append_left _ (List.mem_append_left _ (List.mem_of_getElem? (i := 0) rfl)))) rfl (v := .int (nI (cn z))) (congrArg (fun x => some (Value.int x)) ((iv_n hI))) dX1_unitsOf_9 ?_
      refine n_ige (tgt := 77) hx hb dX1_unitsOf_12 (by decide) (by omega) (by omega) (fun c12 => ?_) (fun c12 => ?_)
      · refine lv_iload hx hb dX1_unitsOf_77 (lv_at hl 4 rfl) ?_
        exact k_iret hx hb hr hlk dX1_unitsOf_79 (by rw [show i = cn z by omega])
      · refine lv_iload hx hb dX1_unitsOf_15 (lv_at hl 5 rfl) ?_
        refine lv_aload_n hx hb dX1_unitsOf_17 rfl (lv_at hl 0 rfl) ?_
        refine k_get S hK (dz_d hP) rfl (fun _ h => List.mem_cons_of_mem _ (List.mem_append_left _ (List.mem_append_right _ (h)))) 2 (by decide) (List.mem_cons_of_mem _ (List.mem_append_left _ (List.mem_append_left _ (List.mem_of_getElem? (i := 1) rfl)))) rfl (v := .ref (d + 3)) rfl dX1_unitsOf_18 ?_
        refine k_alen hx hb hK (t := 3) rfl (dz_ua hP) dX1_unitsOf_21 ?_
        refine k_top (y := nI 20) rfl ?_
        refine n_ige (tgt := 77) hx hb dX1_unitsOf_22 (by decide) (by omega) (by omega) (fun c22 => ?_) (fun c22 => ?_)
        · refine lv_iload hx hb dX1_unitsOf_77 (lv_at hl 4 rfl) ?_
          exact k_iret hx hb hr hlk dX1_unitsOf_79 (by rw [show i = cn z by omega])
        · refine lv_aload_n hx hb dX1_unitsOf_25 rfl (lv_at hl 0 rfl) ?_
          refine k_get S hK (dz_d hP) rfl (fun _ h => List.mem_cons_of_mem _ (List.mem_append_left _ (List.mem_append_right _ (h)))) 2 (by decide) (List.mem_cons_of_mem _ (List.mem_append_left _ (List.mem_append_left _ (List.mem_of_getElem? (i := 1) rfl)))) rfl (v := .ref (d + 3)) rfl dX1_unitsOf_26 ?_
          refine lv_iload hx hb dX1_unitsOf_29 (lv_at hl 5 rfl) ?_
          refine k_aald hx hb hK (t := 3) rfl (dz_ua hP) (by omega) (by decide) (v := d + 2*i + 19) rfl dX1_unitsOf_31 ?_
          refine lv_astore (lv' := [(6, .ref (d + 2*i + 19)), (0, .ref d), (1, .int (nI q)), (2, .int (nI 0)), (3, .int (nI 4)), (4, .int (ofN z q (fun _ => True) i)), (5, .int (nI i))]) hx hb dX1_unitsOf_32 hl (by decide) rfl (fun ls hl => ?_)
          refine lv_iload hx hb dX1_unitsOf_34 (lv_at hl 5 rfl) ?_
          refine lv_aload hx hb dX1_unitsOf_36 (lv_at hl 0 rfl) ?_
          have hq1 := iv_upl hI c12
          refine k_get S hK (dz_u hP i c12) rfl (fun _ h => List.mem_cons_of_mem _ (List.mem_append_right _ (h))) 1 (by decide) (List.mem_cons_of_mem _ (List.mem_append_left _ (List.mem_append_left _ (List.mem_of_getElem? (i := 2) rfl)))) rfl (v := .int (nI (up z i))) (congrArg (fun x => some (Value.int x)) ((iv_up hI c12))) dX1_unitsOf_38 ?_
          refine lv_iload_n hx hb dX1_unitsOf_41 rfl (lv_at hl 2 rfl) ?_
          refine n_ine (tgt := 67) hx hb dX1_unitsOf_42 (by decide) (by omega) (by omega) (fun c42 => ?_) (fun c42 => ?_)
          · refine lv_iconst (v := nI 0) hx hb dX1_unitsOf_67 (by decide) ?_
            refine lv_iadd hx hb dX1_unitsOf_68 ?_
            refine lv_istore (lv' := [(4, .int ((ofN z q (fun _ => True) i) + (nI 0))), (6, .ref (d + 2*i + 19)), (0, .ref d), (1, .int (nI q)), (2, .int (nI 0)), (3, .int (nI 4)), (5, .int (nI i))]) hx hb dX1_unitsOf_69 hl (by decide) rfl (fun ls hl => ?_)
            refine lv_iinc (v := nI (i + 1)) (lv' := [(5, .int (nI (i + 1))), (4, .int ((ofN z q (fun _ => True) i) + (nI 0))), (6, .ref (d + 2*i + 19)), (0, .ref d), (1, .int (nI q)), (2, .int (nI 0)), (3, .int (nI 4))]) hx hb dX1_unitsOf_71 hl (k := 6) rfl (inc_1 _) (by decide) rfl (fun ls hl => ?_)
            refine lv_goto (tgt := 6) hx hb dX1_unitsOf_74 (by decide) ?_
            have hl : lv_has ls 7 [(0, .ref d), (1, .int (nI q)), (2, .int (nI 0)), (3, .int (nI 4)), (4, .int (ofN z q (fun _ => True) (i + 1))), (5, .int (nI (i + 1)))] := by
              have h9 := lv_sub (l' := [(0, .ref d), (1, .int (nI q)), (2, .int (nI 0)), (3, .int (nI 4)), (4, .int ((ofN z q (fun _ => True) i) + (nI 0))), (5, .int (nI (i + 1)))]) hl [3, 4, 5, 6, 1, 0] rfl
              rw [show (.int (ofN z q (fun _ => True) (i + 1)) : Value) = .int ((ofN z q (fun _ => True) i) + (nI 0)) from congrArg Value.int (congrArg (fun y9 => ofN z q (fun _ => True) i + y9) (bI_f (fun h => c42 h.1)))]
              exact h9
            exact ih (i + 1) (by omega) (by omega) _ hl
          · refine lv_aload hx hb dX1_unitsOf_45 (lv_at hl 0 rfl) ?_
            refine k_get S hK (dz_u hP i c12) rfl (fun _ h => List.mem_cons_of_mem _ (List.mem_append_right _ (h))) 3 (by decide) (List.mem_cons_of_mem _ (List.mem_append_left _ (List.mem_append_left _ (List.mem_of_getElem? (i := 3) rfl)))) rfl (v := .int (z (13*i + 68))) rfl dX1_unitsOf_47 ?_
            refine lv_iload_n hx hb dX1_unitsOf_50 rfl (lv_at hl 3 rfl) ?_
            refine lv_icmp_lt (tgt := 67) hx hb dX1_unitsOf_51 (by decide) (fun h => absurd h (pl_lo hI (by omega))) (fun c51 => ?_)
            refine lv_aload hx hb dX1_unitsOf_54 (lv_at hl 0 rfl) ?_
            refine k_get S hK (dz_u hP i c12) rfl (fun _ h => List.mem_cons_of_mem _ (List.mem_append_right _ (h))) 3 (by decide) (List.mem_cons_of_mem _ (List.mem_append_left _ (List.mem_append_left _ (List.mem_of_getElem? (i := 3) rfl)))) rfl (v := .int (z (13*i + 68))) rfl dX1_unitsOf_56 ?_
            refine lv_iload_n hx hb dX1_unitsOf_59 rfl (lv_at hl 4 rfl) ?_
            refine lv_icmp_gt (tgt := 67) hx hb dX1_unitsOf_60 (by decide) (fun h => absurd h (pl_hi hI (by omega))) (fun c60 => ?_)
            refine lv_iconst (v := nI 1) hx hb dX1_unitsOf_63 (by decide) ?_
            refine lv_goto (tgt := 68) hx hb dX1_unitsOf_64 (by decide) ?_
            refine lv_iadd hx hb dX1_unitsOf_68 ?_
            refine lv_istore (lv' := [(4, .int ((ofN z q (fun _ => True) i) + (nI 1))), (6, .ref (d + 2*i + 19)), (0, .ref d), (1, .int (nI q)), (2, .int (nI 0)), (3, .int (nI 4)), (5, .int (nI i))]) hx hb dX1_unitsOf_69 hl (by decide) rfl (fun ls hl => ?_)
            refine lv_iinc (v := nI (i + 1)) (lv' := [(5, .int (nI (i + 1))), (4, .int ((ofN z q (fun _ => True) i) + (nI 1))), (6, .ref (d + 2*i + 19)), (0, .ref d), (1, .int (nI q)), (2, .int (nI 0)), (3, .int (nI 4))]) hx hb dX1_unitsOf_71 hl (k := 6) rfl (inc_1 _) (by decide) rfl (fun ls hl => ?_)
            refine lv_goto (tgt := 6) hx hb dX1_unitsOf_74 (by decide) ?_
            have hl : lv_has ls 7 [(0, .ref d), (1, .int (nI q)), (2, .int (nI 0)), (3, .int (nI 4)), (4, .int (ofN z q (fun _ => True) (i + 1))), (5, .int (nI (i + 1)))] := by
              have h9 := lv_sub (l' := [(0, .ref d), (1, .int (nI q)), (2, .int (nI 0)), (3, .int (nI 4)), (4, .int ((ofN z q (fun _ => True) i) + (nI 1))), (5, .int (nI (i + 1)))]) hl [3, 4, 5, 6, 1, 0] rfl
              rw [show (.int (ofN z q (fun _ => True) (i + 1)) : Value) = .int ((ofN z q (fun _ => True) i) + (nI 1)) from congrArg Value.int (congrArg (fun y9 => ofN z q (fun _ => True) i + y9) (bI_t ⟨c42, trivial⟩))]
              exact h9
            exact ih (i + 1) (by omega) (by omega) _ hl
  refine lv_iconst (v := nI 0) hx hb dX1_unitsOf_0 (by decide) ?_
  refine lv_istore (lv' := [(4, .int (nI 0)), (0, .ref d), (1, .int (nI q)), (2, .int (nI 0)), (3, .int (nI 4))]) hx hb dX1_unitsOf_1 hl (by decide) rfl (fun ls hl => ?_)
  refine lv_iconst (v := nI 0) hx hb dX1_unitsOf_3 (by decide) ?_
  refine lv_istore (lv' := [(5, .int (nI 0)), (4, .int (nI 0)), (0, .ref d), (1, .int (nI q)), (2, .int (nI 0)), (3, .int (nI 4))]) hx hb dX1_unitsOf_4 hl (by decide) rfl (fun ls hl => ?_)
  have hl : lv_has ls 7 [(0, .ref d), (1, .int (nI q)), (2, .int (nI 0)), (3, .int (nI 4)), (4, .int (ofN z q (fun _ => True) 0)), (5, .int (nI 0))] := by
    have h9 := lv_sub (l' := [(0, .ref d), (1, .int (nI q)), (2, .int (nI 0)), (3, .int (nI 4)), (4, .int (nI 0)), (5, .int (nI 0))]) hl [2, 3, 4, 5, 1, 0] rfl
    rw [show (.int (ofN z q (fun _ => True) 0) : Value) = .int (nI 0) from congrArg Value.int rfl]
    exact h9
  exact J6 (cn z + 1) 0 (by omega) (by omega) _ hl
def rm_X1_unitsOf_01 : Room := { frames := 0, cells := 0, slots := 0, locals := 0 }
set_option maxHeartbeats 4000000 in
set_option maxRecDepth 100000 in
theorem c_X1_unitsOf_01 (l : Launch) (E : ke_E) (d : Nat) (z : Nat → Int32) (q : Nat) (hI : iv z) (hq6 : q < 6) : Met l yX1_unitsOf wsX1_unitsOf rm_X1_unitsOf_01 (kp E [.ref d, .int (nI q), .int (nI 0), .int (nI 1)] (dz E d z)) (qp (some (.int (ofN z q (fun x => x < nI 2) (cn z))))) 0 0 nof := by
  refine k_hd (cc := cX1_unitsOf) (maxL := 7) (ret := (some .int)) (by decide) rfl (Nat.le_of_ble_eq_true rfl) ?_
  intro p e s m below meth c ls S hr hlk hnm hK hP hl
  have hx := S.1
  have hb := S.2.1
  have hts := S.2.2.2.2
  have hP : dz E d z s.heap := hP
  have hl : lv_has ls 7 [(0, .ref d), (1, .int (nI q)), (2, .int (nI 0)), (3, .int (nI 1))] := hl
  have hc20 := iv_c hI
  have J6 : ∀ (n_ : Nat), ∀ (i : Nat), i ≤ cn z → cn z < i + n_ → ∀ (ls : Array Slot), lv_has ls 7 [(0, .ref d), (1, .int (nI q)), (2, .int (nI 0)), (3, .int (nI 1)), (4, .int (ofN z q (fun x => x < nI 2) i)), (5, .int (nI i))] → W p l e (headSpec wsX1_unitsOf rm_X1_unitsOf_01).room s m ([.ref d, .int (nI q), .int (nI 0), .int (nI 1)] : List Value).toArray below meth c s.heap [] 0 0 (MQ below (qp (some (.int (ofN z q (fun x => x < nI 2) (cn z))))) ([.ref d, .int (nI q), .int (nI 0), .int (nI 1)] : List Value).toArray s 0 0 nof) (F0 m 6 ls []) := by
    intro n_
    induction n_ with
    | zero =>
      intro i hi hn_ _ _
      exact absurd hn_ (by omega)
    | succ n_ ih =>
      intro i hi hn_ ls hl
      refine lv_iload hx hb dX1_unitsOf_6 (lv_at hl 5 rfl) ?_
      refine lv_aload_n hx hb dX1_unitsOf_8 rfl (lv_at hl 0 rfl) ?_
      refine k_get S hK (dz_d hP) rfl (fun _ h => List.mem_cons_of_mem _ (List.mem_append_left _ (List.mem_append_right _ (h)))) 4 (by decide) (List.mem_cons_of_mem _ (List.mem_append_left _ (List.mem_append_left _ (List.mem_of_getElem? (i := 0) rfl)))) rfl (v := .int (nI (cn z))) (congrArg (fun x => some (Value.int x)) ((iv_n hI))) dX1_unitsOf_9 ?_
      refine n_ige (tgt := 77) hx hb dX1_unitsOf_12 (by decide) (by omega) (by omega) (fun c12 => ?_) (fun c12 => ?_)
      · refine lv_iload hx hb dX1_unitsOf_77 (lv_at hl 4 rfl) ?_
        exact k_iret hx hb hr hlk dX1_unitsOf_79 (by rw [show i = cn z by omega])
      · refine lv_iload hx hb dX1_unitsOf_15 (lv_at hl 5 rfl) ?_
        refine lv_aload_n hx hb dX1_unitsOf_17 rfl (lv_at hl 0 rfl) ?_
        refine k_get S hK (dz_d hP) rfl (fun _ h => List.mem_cons_of_mem _ (List.mem_append_left _ (List.mem_append_right _ (h)))) 2 (by decide) (List.mem_cons_of_mem _ (List.mem_append_left _ (List.mem_append_left _ (List.mem_of_getElem? (i := 1) rfl)))) rfl (v := .ref (d + 3)) rfl dX1_unitsOf_18 ?_
        refine k_alen hx hb hK (t := 3) rfl (dz_ua hP) dX1_unitsOf_21 ?_
        refine k_top (y := nI 20) rfl ?_
        refine n_ige (tgt := 77) hx hb dX1_unitsOf_22 (by decide) (by omega) (by omega) (fun c22 => ?_) (fun c22 => ?_)
        · refine lv_iload hx hb dX1_unitsOf_77 (lv_at hl 4 rfl) ?_
          exact k_iret hx hb hr hlk dX1_unitsOf_79 (by rw [show i = cn z by omega])
        · refine lv_aload_n hx hb dX1_unitsOf_25 rfl (lv_at hl 0 rfl) ?_
          refine k_get S hK (dz_d hP) rfl (fun _ h => List.mem_cons_of_mem _ (List.mem_append_left _ (List.mem_append_right _ (h)))) 2 (by decide) (List.mem_cons_of_mem _ (List.mem_append_left _ (List.mem_append_left _ (List.mem_of_getElem? (i := 1) rfl)))) rfl (v := .ref (d + 3)) rfl dX1_unitsOf_26 ?_
          refine lv_iload hx hb dX1_unitsOf_29 (lv_at hl 5 rfl) ?_
          refine k_aald hx hb hK (t := 3) rfl (dz_ua hP) (by omega) (by decide) (v := d + 2*i + 19) rfl dX1_unitsOf_31 ?_
          refine lv_astore (lv' := [(6, .ref (d + 2*i + 19)), (0, .ref d), (1, .int (nI q)), (2, .int (nI 0)), (3, .int (nI 1)), (4, .int (ofN z q (fun x => x < nI 2) i)), (5, .int (nI i))]) hx hb dX1_unitsOf_32 hl (by decide) rfl (fun ls hl => ?_)
          refine lv_iload hx hb dX1_unitsOf_34 (lv_at hl 5 rfl) ?_
          refine lv_aload hx hb dX1_unitsOf_36 (lv_at hl 0 rfl) ?_
          have hq1 := iv_upl hI c12
          refine k_get S hK (dz_u hP i c12) rfl (fun _ h => List.mem_cons_of_mem _ (List.mem_append_right _ (h))) 1 (by decide) (List.mem_cons_of_mem _ (List.mem_append_left _ (List.mem_append_left _ (List.mem_of_getElem? (i := 2) rfl)))) rfl (v := .int (nI (up z i))) (congrArg (fun x => some (Value.int x)) ((iv_up hI c12))) dX1_unitsOf_38 ?_
          refine lv_iload_n hx hb dX1_unitsOf_41 rfl (lv_at hl 2 rfl) ?_
          refine n_ine (tgt := 67) hx hb dX1_unitsOf_42 (by decide) (by omega) (by omega) (fun c42 => ?_) (fun c42 => ?_)
          · refine lv_iconst (v := nI 0) hx hb dX1_unitsOf_67 (by decide) ?_
            refine lv_iadd hx hb dX1_unitsOf_68 ?_
            refine lv_istore (lv' := [(4, .int ((ofN z q (fun x => x < nI 2) i) + (nI 0))), (6, .ref (d + 2*i + 19)), (0, .ref d), (1, .int (nI q)), (2, .int (nI 0)), (3, .int (nI 1)), (5, .int (nI i))]) hx hb dX1_unitsOf_69 hl (by decide) rfl (fun ls hl => ?_)
            refine lv_iinc (v := nI (i + 1)) (lv' := [(5, .int (nI (i + 1))), (4, .int ((ofN z q (fun x => x < nI 2) i) + (nI 0))), (6, .ref (d + 2*i + 19)), (0, .ref d), (1, .int (nI q)), (2, .int (nI 0)), (3, .int (nI 1))]) hx hb dX1_unitsOf_71 hl (k := 6) rfl (inc_1 _) (by decide) rfl (fun ls hl => ?_)
            refine lv_goto (tgt := 6) hx hb dX1_unitsOf_74 (by decide) ?_
            have hl : lv_has ls 7 [(0, .ref d), (1, .int (nI q)), (2, .int (nI 0)), (3, .int (nI 1)), (4, .int (ofN z q (fun x => x < nI 2) (i + 1))), (5, .int (nI (i + 1)))] := by
              have h9 := lv_sub (l' := [(0, .ref d), (1, .int (nI q)), (2, .int (nI 0)), (3, .int (nI 1)), (4, .int ((ofN z q (fun x => x < nI 2) i) + (nI 0))), (5, .int (nI (i + 1)))]) hl [3, 4, 5, 6, 1, 0] rfl
              rw [show (.int (ofN z q (fun x => x < nI 2) (i + 1)) : Value) = .int ((ofN z q (fun x => x < nI 2) i) + (nI 0)) from congrArg Value.int (congrArg (fun y9 => ofN z q (fun x => x < nI 2) i + y9) (bI_f (fun h => c42 h.1)))]
              exact h9
            exact ih (i + 1) (by omega) (by omega) _ hl
          · refine lv_aload hx hb dX1_unitsOf_45 (lv_at hl 0 rfl) ?_
            refine k_get S hK (dz_u hP i c12) rfl (fun _ h => List.mem_cons_of_mem _ (List.mem_append_right _ (h))) 3 (by decide) (List.mem_cons_of_mem _ (List.mem_append_left _ (List.mem_append_left _ (List.mem_of_getElem? (i := 3) rfl)))) rfl (v := .int (z (13*i + 68))) rfl dX1_unitsOf_47 ?_
            refine lv_iload_n hx hb dX1_unitsOf_50 rfl (lv_at hl 3 rfl) ?_
            refine lv_icmp_lt (tgt := 67) hx hb dX1_unitsOf_51 (by decide) (fun h => absurd h (pl_lo hI (by omega))) (fun c51 => ?_)
            refine lv_aload hx hb dX1_unitsOf_54 (lv_at hl 0 rfl) ?_
            refine k_get S hK (dz_u hP i c12) rfl (fun _ h => List.mem_cons_of_mem _ (List.mem_append_right _ (h))) 3 (by decide) (List.mem_cons_of_mem _ (List.mem_append_left _ (List.mem_append_left _ (List.mem_of_getElem? (i := 3) rfl)))) rfl (v := .int (z (13*i + 68))) rfl dX1_unitsOf_56 ?_
            refine lv_iload_n hx hb dX1_unitsOf_59 rfl (lv_at hl 4 rfl) ?_
            refine lv_icmp_gt (tgt := 67) hx hb dX1_unitsOf_60 (by decide) (fun c60 => ?_) (fun c60 => ?_)
            · refine lv_iconst (v := nI 0) hx hb dX1_unitsOf_67 (by decide) ?_
              refine lv_iadd hx hb dX1_unitsOf_68 ?_
              refine lv_istore (lv' := [(4, .int ((ofN z q (fun x => x < nI 2) i) + (nI 0))), (6, .ref (d + 2*i + 19)), (0, .ref d), (1, .int (nI q)), (2, .int (nI 0)), (3, .int (nI 1)), (5, .int (nI i))]) hx hb dX1_unitsOf_69 hl (by decide) rfl (fun ls hl => ?_)
              refine lv_iinc (v := nI (i + 1)) (lv' := [(5, .int (nI (i + 1))), (4, .int ((ofN z q (fun x => x < nI 2) i) + (nI 0))), (6, .ref (d + 2*i + 19)), (0, .ref d), (1, .int (nI q)), (2, .int (nI 0)), (3, .int (nI 1))]) hx hb dX1_unitsOf_71 hl (k := 6) rfl (inc_1 _) (by decide) rfl (fun ls hl => ?_)
              refine lv_goto (tgt := 6) hx hb dX1_unitsOf_74 (by decide) ?_
              have hl : lv_has ls 7 [(0, .ref d), (1, .int (nI q)), (2, .int (nI 0)), (3, .int (nI 1)), (4, .int (ofN z q (fun x => x < nI 2) (i + 1))), (5, .int (nI (i + 1)))] := by
                have h9 := lv_sub (l' := [(0, .ref d), (1, .int (nI q)), (2, .int (nI 0)), (3, .int (nI 1)), (4, .int ((ofN z q (fun x => x < nI 2) i) + (nI 0))), (5, .int (nI (i + 1)))]) hl [3, 4, 5, 6, 1, 0] rfl
                rw [show (.int (ofN z q (fun x => x < nI 2) (i + 1)) : Value) = .int ((ofN z q (fun x => x < nI 2) i) + (nI 0)) from congrArg Value.int (congrArg (fun y9 => ofN z q (fun x => x < nI 2) i + y9) (bI_f (fun h => lt2_n1.mp h.2 c60)))]
                exact h9
              exact ih (i + 1) (by omega) (by omega) _ hl
            · refine lv_iconst (v := nI 1) hx hb dX1_unitsOf_63 (by decide) ?_
              refine lv_goto (tgt := 68) hx hb dX1_unitsOf_64 (by decide) ?_
              refine lv_iadd hx hb dX1_unitsOf_68 ?_
              refine lv_istore (lv' := [(4, .int ((ofN z q (fun x => x < nI 2) i) + (nI 1))), (6, .ref (d + 2*i + 19)), (0, .ref d), (1, .int (nI q)), (2, .int (nI 0)), (3, .int (nI 1)), (5, .int (nI i))]) hx hb dX1_unitsOf_69 hl (by decide) rfl (fun ls hl => ?_)
              refine lv_iinc (v := nI (i + 1)) (lv' := [(5, .int (nI (i + 1))), (4, .int ((ofN z q (fun x => x < nI 2) i) + (nI 1))), (6, .ref (d + 2*i + 19)), (0, .ref d), (1, .int (nI q)), (2, .int (nI 0)), (3, .int (nI 1))]) hx hb dX1_unitsOf_71 hl (k := 6) rfl (inc_1 _) (by decide) rfl (fun ls hl => ?_)
              refine lv_goto (tgt := 6) hx hb dX1_unitsOf_74 (by decide) ?_
              have hl : lv_has ls 7 [(0, .ref d), (1, .int (nI q)), (2, .int (nI 0)), (3, .int (nI 1)), (4, .int (ofN z q (fun x => x < nI 2) (i + 1))), (5, .int (nI (i + 1)))] := by
                have h9 := lv_sub (l' := [(0, .ref d), (1, .int (nI q)), (2, .int (nI 0)), (3, .int (nI 1)), (4, .int ((ofN z q (fun x => x < nI 2) i) + (nI 1))), (5, .int (nI (i + 1)))]) hl [3, 4, 5, 6, 1, 0] rfl
                rw [show (.int (ofN z q (fun x => x < nI 2) (i + 1)) : Value) = .int ((ofN z q (fun x => x < nI 2) i) + (nI 1)) from congrArg Value.int (congrArg (fun y9 => ofN z q (fun x => x < nI 2) i + y9) (bI_t ⟨c42, lt2_n1.mpr c60⟩))]
                exact h9
              exact ih (i + 1) (by omega) (by omega) _ hl
  refine lv_iconst (v := nI 0) hx hb dX1_unitsOf_0 (by decide) ?_
  refine lv_istore (lv' := [(4, .int (nI 0)), (0, .ref d), (1, .int (nI q)), (2, .int (nI 0)), (3, .int (nI 1))]) hx hb dX1_unitsOf_1 hl (by decide) rfl (fun ls hl => ?_)
  refine lv_iconst (v := nI 0) hx hb dX1_unitsOf_3 (by decide) ?_
  refine lv_istore (lv' := [(5, .int (nI 0)), (4, .int (nI 0)), (0, .ref d), (1, .int (nI q)), (2, .int (nI 0)), (3, .int (nI 1))]) hx hb dX1_unitsOf_4 hl (by decide) rfl (fun ls hl => ?_)
  have hl : lv_has ls 7 [(0, .ref d), (1, .int (nI q)), (2, .int (nI 0)), (3, .int (nI 1)), (4, .int (ofN z q (fun x => x < nI 2) 0)), (5, .int (nI 0))] := by
    have h9 := lv_sub (l' := [(0, .ref d), (1, .int (nI q)), (2, .int (nI 0)), (3, .int (nI 1)), (4, .int (nI 0)), (5, .int (nI 0))]) hl [2, 3, 4, 5, 1, 0] rfl
    rw [show (.int (ofN z q (fun x => x < nI 2) 0) : Value) = .int (nI 0) from congrArg Value.int rfl]
    exact h9
  exact J6 (cn z + 1) 0 (by omega) (by omega) _ hl
def rm_X1_unitsOf_22 : Room := { frames := 0, cells := 0, slots := 0, locals := 0 }
set_option maxHeartbeats 4000000 in
set_option maxRecDepth 100000 in
theorem c_X1_unitsOf_22 (l : Launch) (E : ke_E) (d : Nat) (z : Nat → Int32) (q : Nat) (hI : iv z) (hq6 : q < 6) : Met l yX1_unitsOf wsX1_unitsOf rm_X1_unitsOf_22 (kp E [.ref d, .int (nI q), .int (nI 2), .int (nI 2)] (dz E d z)) (qp (some (.int (ofN z q (fun x => x = nI 2) (cn z))))) 0 0 nof := by
  refine k_hd (cc := cX1_unitsOf) (maxL := 7) (ret := (some .int)) (by decide) rfl (Nat.le_of_ble_eq_true rfl) ?_
  intro p e s m below meth c ls S hr hlk hnm hK hP hl
  have hx := S.1
  have hb := S.2.1
  have hts := S.2.2.2.2
  have hP : dz E d z s.heap := hP
  have hl : lv_has ls 7 [(0, .ref d), (1, .int (nI q)), (2, .int (nI 2)), (3, .int (nI 2))] := hl
  have hc20 := iv_c hI
  have J6 : ∀ (n_ : Nat), ∀ (i : Nat), i ≤ cn z → cn z < i + n_ → ∀ (ls : Array Slot), lv_has ls 7 [(0, .ref d), (1, .int (nI q)), (2, .int (nI 2)), (3, .int (nI 2)), (4, .int (ofN z q (fun x => x = nI 2) i)), (5, .int (nI i))] → W p l e (headSpec wsX1_unitsOf rm_X1_unitsOf_22).room s m ([.ref d, .int (nI q), .int (nI 2), .int (nI 2)] : List Value).toArray below meth c s.heap [] 0 0 (MQ below (qp (some (.int (ofN z q (fun x => x = nI 2) (cn z))))) ([.ref d, .int (nI q), .int (nI 2), .int (nI 2)] : List Value).toArray s 0 0 nof) (F0 m 6 ls []) := by
    intro n_
    induction n_ with
    | zero =>
      intro i hi hn_ _ _
      exact absurd hn_ (by omega)
    | succ n_ ih =>
      intro i hi hn_ ls hl
      refine lv_iload hx hb dX1_unitsOf_6 (lv_at hl 5 rfl) ?_
      refine lv_aload_n hx hb dX1_unitsOf_8 rfl (lv_at hl 0 rfl) ?_
      refine k_get S hK (dz_d hP) rfl (fun _ h => List.mem_cons_of_mem _ (List.mem_append_left _ (List.mem_append_right _ (h)))) 4 (by decide) (List.mem_cons_of_mem _ (List.mem_append_left _ (List.mem_append_left _ (List.mem_of_getElem? (i := 0) rfl)))) rfl (v := .int (nI (cn z))) (congrArg (fun x => some (Value.int x)) ((iv_n hI))) dX1_unitsOf_9 ?_
      refine n_ige (tgt := 77) hx hb dX1_unitsOf_12 (by decide) (by omega) (by omega) (fun c12 => ?_) (fun c12 => ?_)
      · refine lv_iload hx hb dX1_unitsOf_77 (lv_at hl 4 rfl) ?_
        exact k_iret hx hb hr hlk dX1_unitsOf_79 (by rw [show i = cn z by omega])
      · refine lv_iload hx hb dX1_unitsOf_15 (lv_at hl 5 rfl) ?_
        refine lv_aload_n hx hb dX1_unitsOf_17 rfl (lv_at hl 0 rfl) ?_
        refine k_get S hK (dz_d hP) rfl (fun _ h => List.mem_cons_of_mem _ (List.mem_append_left _ (List.mem_append_right _ (h)))) 2 (by decide) (List.mem_cons_of_mem _ (List.mem_append_left _ (List.mem_append_left _ (List.mem_of_getElem? (i := 1) rfl)))) rfl (v := .ref (d + 3)) rfl dX1_unitsOf_18 ?_
        refine k_alen hx hb hK (t := 3) rfl (dz_ua hP) dX1_unitsOf_21 ?_
        refine k_top (y := nI 20) rfl ?_
        refine n_ige (tgt := 77) hx hb dX1_unitsOf_22 (by decide) (by omega) (by omega) (fun c22 => ?_) (fun c22 => ?_)
        · refine lv_iload hx hb dX1_unitsOf_77 (lv_at hl 4 rfl) ?_
          exact k_iret hx hb hr hlk dX1_unitsOf_79 (by rw [show i = cn z by omega])
        · refine lv_aload_n hx hb dX1_unitsOf_25 rfl (lv_at hl 0 rfl) ?_
          refine k_get S hK (dz_d hP) rfl (fun _ h => List.mem_cons_of_mem _ (List.mem_append_left _ (List.mem_append_right _ (h)))) 2 (by decide) (List.mem_cons_of_mem _ (List.mem_append_left _ (List.mem_append_left _ (List.mem_of_getElem? (i := 1) rfl)))) rfl (v := .ref (d + 3)) rfl dX1_unitsOf_26 ?_
          refine lv_iload hx hb dX1_unitsOf_29 (lv_at hl 5 rfl) ?_
          refine k_aald hx hb hK (t := 3) rfl (dz_ua hP) (by omega) (by decide) (v := d + 2*i + 19) rfl dX1_unitsOf_31 ?_
          refine lv_astore (lv' := [(6, .ref (d + 2*i + 19)), (0, .ref d), (1, .int (nI q)), (2, .int (nI 2)), (3, .int (nI 2)), (4, .int (ofN z q (fun x => x = nI 2) i)), (5, .int (nI i))]) hx hb dX1_unitsOf_32 hl (by decide) rfl (fun ls hl => ?_)
          refine lv_iload hx hb dX1_unitsOf_34 (lv_at hl 5 rfl) ?_
          refine lv_aload hx hb dX1_unitsOf_36 (lv_at hl 0 rfl) ?_
          have hq1 := iv_upl hI c12
          refine k_get S hK (dz_u hP i c12) rfl (fun _ h => List.mem_cons_of_mem _ (List.mem_append_right _ (h))) 1 (by decide) (List.mem_cons_of_mem _ (List.mem_append_left _ (List.mem_append_left _ (List.mem_of_getElem? (i := 2) rfl)))) rfl (v := .int (nI (up z i))) (congrArg (fun x => some (Value.int x)) ((iv_up hI c12))) dX1_unitsOf_38 ?_
          refine lv_iload_n hx hb dX1_unitsOf_41 rfl (lv_at hl 2 rfl) ?_
          refine n_ine (tgt := 67) hx hb dX1_unitsOf_42 (by decide) (by omega) (by omega) (fun c42 => ?_) (fun c42 => ?_)
          · refine lv_iconst (v := nI 0) hx hb dX1_unitsOf_67 (by decide) ?_
            refine lv_iadd hx hb dX1_unitsOf_68 ?_
            refine lv_istore (lv' := [(4, .int ((ofN z q (fun x => x = nI 2) i) + (nI 0))), (6, .ref (d + 2*i + 19)), (0, .ref d), (1, .int (nI q)), (2, .int (nI 2)), (3, .int (nI 2)), (5, .int (nI i))]) hx hb dX1_unitsOf_69 hl (by decide) rfl (fun ls hl => ?_)
            refine lv_iinc (v := nI (i + 1)) (lv' := [(5, .int (nI (i + 1))), (4, .int ((ofN z q (fun x => x = nI 2) i) + (nI 0))), (6, .ref (d + 2*i + 19)), (0, .ref d), (1, .int (nI q)), (2, .int (nI 2)), (3, .int (nI 2))]) hx hb dX1_unitsOf_71 hl (k := 6) rfl (inc_1 _) (by decide) rfl (fun ls hl => ?_)
            refine lv_goto (tgt := 6) hx hb dX1_unitsOf_74 (by decide) ?_
            have hl : lv_has ls 7 [(0, .ref d), (1, .int (nI q)), (2, .int (nI 2)), (3, .int (nI 2)), (4, .int (ofN z q (fun x => x = nI 2) (i + 1))), (5, .int (nI (i + 1)))] := by
              have h9 := lv_sub (l' := [(0, .ref d), (1, .int (nI q)), (2, .int (nI 2)), (3, .int (nI 2)), (4, .int ((ofN z q (fun x => x = nI 2) i) + (nI 0))), (5, .int (nI (i + 1)))]) hl [3, 4, 5, 6, 1, 0] rfl
              rw [show (.int (ofN z q (fun x => x = nI 2) (i + 1)) : Value) = .int ((ofN z q (fun x => x = nI 2) i) + (nI 0)) from congrArg Value.int (congrArg (fun y9 => ofN z q (fun x => x = nI 2) i + y9) (bI_f (fun h => c42 h.1)))]
              exact h9
            exact ih (i + 1) (by omega) (by omega) _ hl
          · refine lv_aload hx hb dX1_unitsOf_45 (lv_at hl 0 rfl) ?_
            refine k_get S hK (dz_u hP i c12) rfl (fun _ h => List.mem_cons_of_mem _ (List.mem_append_right _ (h))) 3 (by decide) (List.mem_cons_of_mem _ (List.mem_append_left _ (List.mem_append_left _ (List.mem_of_getElem? (i := 3) rfl)))) rfl (v := .int (z (13*i + 68))) rfl dX1_unitsOf_47 ?_
            refine lv_iload_n hx hb dX1_unitsOf_50 rfl (lv_at hl 3 rfl) ?_
            refine lv_icmp_lt (tgt := 67) hx hb dX1_unitsOf_51 (by decide) (fun c51 => ?_) (fun c51 => ?_)
            · refine lv_iconst (v := nI 0) hx hb dX1_unitsOf_67 (by decide) ?_
              refine lv_iadd hx hb dX1_unitsOf_68 ?_
              refine lv_istore (lv' := [(4, .int ((ofN z q (fun x => x = nI 2) i) + (nI 0))), (6, .ref (d + 2*i + 19)), (0, .ref d), (1, .int (nI q)), (2, .int (nI 2)), (3, .int (nI 2)), (5, .int (nI i))]) hx hb dX1_unitsOf_69 hl (by decide) rfl (fun ls hl => ?_)
              refine lv_iinc (v := nI (i + 1)) (lv' := [(5, .int (nI (i + 1))), (4, .int ((ofN z q (fun x => x = nI 2) i) + (nI 0))), (6, .ref (d + 2*i + 19)), (0, .ref d), (1, .int (nI q)), (2, .int (nI 2)), (3, .int (nI 2))]) hx hb dX1_unitsOf_71 hl (k := 6) rfl (inc_1 _) (by decide) rfl (fun ls hl => ?_)
              refine lv_goto (tgt := 6) hx hb dX1_unitsOf_74 (by decide) ?_
              have hl : lv_has ls 7 [(0, .ref d), (1, .int (nI q)), (2, .int (nI 2)), (3, .int (nI 2)), (4, .int (ofN z q (fun x => x = nI 2) (i + 1))), (5, .int (nI (i + 1)))] := by
                have h9 := lv_sub (l' := [(0, .ref d), (1, .int (nI q)), (2, .int (nI 2)), (3, .int (nI 2)), (4, .int ((ofN z q (fun x => x = nI 2) i) + (nI 0))), (5, .int (nI (i + 1)))]) hl [3, 4, 5, 6, 1, 0] rfl
                rw [show (.int (ofN z q (fun x => x = nI 2) (i + 1)) : Value) = .int ((ofN z q (fun x => x = nI 2) i) + (nI 0)) from congrArg Value.int (congrArg (fun y9 => ofN z q (fun x => x = nI 2) i + y9) (bI_f (fun h => (eq2_n.mp h.2).1 c51)))]
                exact h9
              exact ih (i + 1) (by omega) (by omega) _ hl
            · refine lv_aload hx hb dX1_unitsOf_54 (lv_at hl 0 rfl) ?_
              refine k_get S hK (dz_u hP i c12) rfl (fun _ h => List.mem_cons_of_mem _ (List.mem_append_right _ (h))) 3 (by decide) (List.mem_cons_of_mem _ (List.mem_append_left _ (List.mem_append_left _ (List.mem_of_getElem? (i := 3) rfl)))) rfl (v := .int (z (13*i + 68))) rfl dX1_unitsOf_56 ?_
              refine lv_iload_n hx hb dX1_unitsOf_59 rfl (lv_at hl 4 rfl) ?_
              refine lv_icmp_gt (tgt := 67) hx hb dX1_unitsOf_60 (by decide) (fun c60 => ?_) (fun c60 => ?_)
              · refine lv_iconst (v := nI 0) hx hb dX1_unitsOf_67 (by decide) ?_
                refine lv_iadd hx hb dX1_unitsOf_68 ?_
                refine lv_istore (lv' := [(4, .int ((ofN z q (fun x => x = nI 2) i) + (nI 0))), (6, .ref (d + 2*i + 19)), (0, .ref d), (1, .int (nI q)), (2, .int (nI 2)), (3, .int (nI 2)), (5, .int (nI i))]) hx hb dX1_unitsOf_69 hl (by decide) rfl (fun ls hl => ?_)
                refine lv_iinc (v := nI (i + 1)) (lv' := [(5, .int (nI (i + 1))), (4, .int ((ofN z q (fun x => x = nI 2) i) + (nI 0))), (6, .ref (d + 2*i + 19)), (0, .ref d), (1, .int (nI q)), (2, .int (nI 2)), (3, .int (nI 2))]) hx hb dX1_unitsOf_71 hl (k := 6) rfl (inc_1 _) (by decide) rfl (fun ls hl => ?_)
                refine lv_goto (tgt := 6) hx hb dX1_unitsOf_74 (by decide) ?_
                have hl : lv_has ls 7 [(0, .ref d), (1, .int (nI q)), (2, .int (nI 2)), (3, .int (nI 2)), (4, .int (ofN z q (fun x => x = nI 2) (i + 1))), (5, .int (nI (i + 1)))] := by
                  have h9 := lv_sub (l' := [(0, .ref d), (1, .int (nI q)), (2, .int (nI 2)), (3, .int (nI 2)), (4, .int ((ofN z q (fun x => x = nI 2) i) + (nI 0))), (5, .int (nI (i + 1)))]) hl [3, 4, 5, 6, 1, 0] rfl
                  rw [show (.int (ofN z q (fun x => x = nI 2) (i + 1)) : Value) = .int ((ofN z q (fun x => x = nI 2) i) + (nI 0)) from congrArg Value.int (congrArg (fun y9 => ofN z q (fun x => x = nI 2) i + y9) (bI_f (fun h => (eq2_n.mp h.2).2 c60)))]
                  exact h9
                exact ih (i + 1) (by omega) (by omega) _ hl
              · refine lv_iconst (v := nI 1) hx hb dX1_unitsOf_63 (by decide) ?_
                refine lv_goto (tgt := 68) hx hb dX1_unitsOf_64 (by decide) ?_
                refine lv_iadd hx hb dX1_unitsOf_68 ?_
                refine lv_istore (lv' := [(4, .int ((ofN z q (fun x => x = nI 2) i) + (nI 1))), (6, .ref (d + 2*i + 19)), (0, .ref d), (1, .int (nI q)), (2, .int (nI 2)), (3, .int (nI 2)), (5, .int (nI i))]) hx hb dX1_unitsOf_69 hl (by decide) rfl (fun ls hl => ?_)
                refine lv_iinc (v := nI (i + 1)) (lv' := [(5, .int (nI (i + 1))), (4, .int ((ofN z q (fun x => x = nI 2) i) + (nI 1))), (6, .ref (d + 2*i + 19)), (0, .ref d), (1, .int (nI q)), (2, .int (nI 2)), (3, .int (nI 2))]) hx hb dX1_unitsOf_71 hl (k := 6) rfl (inc_1 _) (by decide) rfl (fun ls hl => ?_)
                refine lv_goto (tgt := 6) hx hb dX1_unitsOf_74 (by decide) ?_
                have hl : lv_has ls 7 [(0, .ref d), (1, .int (nI q)), (2, .int (nI 2)), (3, .int (nI 2)), (4, .int (ofN z q (fun x => x = nI 2) (i + 1))), (5, .int (nI (i + 1)))] := by
                  have h9 := lv_sub (l' := [(0, .ref d), (1, .int (nI q)), (2, .int (nI 2)), (3, .int (nI 2)), (4, .int ((ofN z q (fun x => x = nI 2) i) + (nI 1))), (5, .int (nI (i + 1)))]) hl [3, 4, 5, 6, 1, 0] rfl
                  rw [show (.int (ofN z q (fun x => x = nI 2) (i + 1)) : Value) = .int ((ofN z q (fun x => x = nI 2) i) + (nI 1)) from congrArg Value.int (congrArg (fun y9 => ofN z q (fun x => x = nI 2) i + y9) (bI_t ⟨c42, eq2_n.mpr ⟨c51, c60⟩⟩))]
                  exact h9
                exact ih (i + 1) (by omega) (by omega) _ hl
  refine lv_iconst (v := nI 0) hx hb dX1_unitsOf_0 (by decide) ?_
  refine lv_istore (lv' := [(4, .int (nI 0)), (0, .ref d), (1, .int (nI q)), (2, .int (nI 2)), (3, .int (nI 2))]) hx hb dX1_unitsOf_1 hl (by decide) rfl (fun ls hl => ?_)
  refine lv_iconst (v := nI 0) hx hb dX1_unitsOf_3 (by decide) ?_
  refine lv_istore (lv' := [(5, .int (nI 0)), (4, .int (nI 0)), (0, .ref d), (1, .int (nI q)), (2, .int (nI 2)), (3, .int (nI 2))]) hx hb dX1_unitsOf_4 hl (by decide) rfl (fun ls hl => ?_)
  have hl : lv_has ls 7 [(0, .ref d), (1, .int (nI q)), (2, .int (nI 2)), (3, .int (nI 2)), (4, .int (ofN z q (fun x => x = nI 2) 0)), (5, .int (nI 0))] := by
    have h9 := lv_sub (l' := [(0, .ref d), (1, .int (nI q)), (2, .int (nI 2)), (3, .int (nI 2)), (4, .int (nI 0)), (5, .int (nI 0))]) hl [2, 3, 4, 5, 1, 0] rfl
    rw [show (.int (ofN z q (fun x => x = nI 2) 0) : Value) = .int (nI 0) from congrArg Value.int rfl]
    exact h9
  exact J6 (cn z + 1) 0 (by omega) (by omega) _ hl
def rm_X1_claims : Room := { frames := 1, cells := 0, slots := 0, locals := 20 }
theorem hd_X1_claims : k_hd1 yX1_claims RX1 0 := by decide +kernel
set_option maxHeartbeats 4000000 in
set_option maxRecDepth 100000 in
theorem c_X1_claims (l : Launch) (E : ke_E) (d : Nat) (z : Nat → Int32) (hI : iv z) : Met l yX1_claims wsX1_claims rm_X1_claims (kp E [.ref d] (dz E d z)) (qp (some (.int (cmN z (cn z))))) 0 0 nof := by
  refine k_hd (cc := cX1_claims) (maxL := 3) (ret := (some .int)) (by decide) rfl (Nat.le_of_ble_eq_true rfl) ?_
  intro p e s m below meth c ls S hr hlk hnm hK hP hl
  have hx := S.1
  have hb := S.2.1
  have hts := S.2.2.2.2
  have hP : dz E d z s.heap := hP
  have hl : lv_has ls 3 [(0, .ref d)] := hl
  have hc20 := iv_c hI
  have J4 : ∀ (n_ : Nat), ∀ (i : Nat), i ≤ cn z → cn z < i + n_ → ∀ (ls : Array Slot), lv_has ls 3 [(0, .ref d), (1, .int (cmN z i)), (2, .int (nI i))] → W p l e (headSpec wsX1_claims rm_X1_claims).room s m ([.ref d] : List Value).toArray below meth c s.heap [] 0 0 (MQ below (qp (some (.int (cmN z (cn z))))) ([.ref d] : List Value).toArray s 0 0 nof) (F0 m 4 ls []) := by
    intro n_
    induction n_ with
    | zero =>
      intro i hi hn_ _ _
      exact absurd hn_ (by omega)
    | succ n_ ih =>
      intro i hi hn_ ls hl
      refine lv_iload_n hx hb dX1_claims_4 rfl (lv_at hl 2 rfl) ?_
      refine lv_aload_n hx hb dX1_claims_5 rfl (lv_at hl 0 rfl) ?_
      refine k_get S hK (dz_d hP) rfl (fun _ h => List.mem_cons_of_mem _ (List.mem_append_left _ (List.mem_append_right _ (h)))) 4 (by decide) (List.mem_cons_of_mem _ (List.mem_append_left _ (List.mem_append_left _ (List.mem_of_getElem? (i := 0) rfl)))) rfl (v := .int (nI (cn z))) (congrArg (fun x => some (Value.int x)) ((iv_n hI))) dX1_claims_6 ?_
      refine n_ige (tgt := 47) hx hb dX1_claims_9 (by decide) (by omega) (by omega) (fun c9 => ?_) (fun c9 => ?_)
      · refine lv_iload_n hx hb dX1_claims_47 rfl (lv_at hl 1 rfl) ?_
        exact k_iret hx hb hr hlk dX1_claims_48 (by rw [show i = cn z by omega])
      · refine lv_iload_n hx hb dX1_claims_12 rfl (lv_at hl 2 rfl) ?_
        refine lv_aload_n hx hb dX1_claims_13 rfl (lv_at hl 0 rfl) ?_
        refine k_get S hK (dz_d hP) rfl (fun _ h => List.mem_cons_of_mem _ (List.mem_append_left _ (List.mem_append_right _ (h)))) 2 (by decide) (List.mem_cons_of_mem _ (List.mem_append_left _ (List.mem_append_left _ (List.mem_of_getElem? (i := 1) rfl)))) rfl (v := .ref (d + 3)) rfl dX1_claims_14 ?_
        refine k_alen hx hb hK (t := 3) rfl (dz_ua hP) dX1_claims_17 ?_
        refine k_top (y := nI 20) rfl ?_
        refine n_ige (tgt := 47) hx hb dX1_claims_18 (by decide) (by omega) (by omega) (fun c18 => ?_) (fun c18 => ?_)
        · refine lv_iload_n hx hb dX1_claims_47 rfl (lv_at hl 1 rfl) ?_
          exact k_iret hx hb hr hlk dX1_claims_48 (by rw [show i = cn z by omega])
        · refine lv_iload_n hx hb dX1_claims_21 rfl (lv_at hl 1 rfl) ?_
          refine lv_aload_n hx hb dX1_claims_22 rfl (lv_at hl 0 rfl) ?_
          refine k_get S hK (dz_d hP) rfl (fun _ h => List.mem_cons_of_mem _ (List.mem_append_left _ (List.mem_append_right _ (h)))) 2 (by decide) (List.mem_cons_of_mem _ (List.mem_append_left _ (List.mem_append_left _ (List.mem_of_getElem? (i := 1) rfl)))) rfl (v := .ref (d + 3)) rfl dX1_claims_23 ?_
          refine lv_iload_n hx hb dX1_claims_26 rfl (lv_at hl 2 rfl) ?_
          refine k_aald hx hb hK (t := 3) rfl (dz_ua hP) (by omega) (by decide) (v := d + 2*i + 19) rfl dX1_claims_27 ?_
          refine k_V (As := []) (rest := [.int (cmN z i)]) S hK (c_X4_hasClaim l E d z i c9) gX1_claims_X4_hasClaim rfl hd_X4_hasClaim ⟨rfl, rfl⟩ ⟨Nat.le_of_ble_eq_true rfl, Nat.le_of_ble_eq_true rfl⟩ (k_recv hK (dz_u hP i c9) rfl) hP rfl hl.1 rfl (Nat.le_of_ble_eq_true rfl) dX1_claims_28 ⟨Nat.le_of_ble_eq_true rfl, Nat.le_of_ble_eq_true rfl⟩ ?_
          refine b_eq (tgt := 38) hx hb dX1_claims_31 (by decide) (fun c31 => ?_) (fun c31 => ?_)
          · refine lv_iconst (v := nI 0) hx hb dX1_claims_38 (by decide) ?_
            refine lv_iadd hx hb dX1_claims_39 ?_
            refine lv_istore_n (lv' := [(1, .int ((cmN z i) + (nI 0))), (0, .ref d), (2, .int (nI i))]) hx hb dX1_claims_40 rfl hl (by decide) rfl (fun ls hl => ?_)
            refine lv_iinc (v := nI (i + 1)) (lv' := [(2, .int (nI (i + 1))), (1, .int ((cmN z i) + (nI 0))), (0, .ref d)]) hx hb dX1_claims_41 hl (k := 2) rfl (inc_1 _) (by decide) rfl (fun ls hl => ?_)
            refine lv_goto (tgt := 4) hx hb dX1_claims_44 (by decide) ?_
            have hl : lv_has ls 3 [(0, .ref d), (1, .int (cmN z (i + 1))), (2, .int (nI (i + 1)))] := by
              have h9 := lv_sub (l' := [(0, .ref d), (1, .int ((cmN z i) + (nI 0))), (2, .int (nI (i + 1)))]) hl [2, 1, 0] rfl
              rw [show (.int (cmN z (i + 1)) : Value) = .int ((cmN z i) + (nI 0)) from congrArg Value.int (congrArg (fun y9 => cmN z i + y9) (bI_f c31))]
              exact h9
            exact ih (i + 1) (by omega) (by omega) _ hl
          · refine lv_iconst (v := nI 1) hx hb dX1_claims_34 (by decide) ?_
            refine lv_goto (tgt := 39) hx hb dX1_claims_35 (by decide) ?_
            refine lv_iadd hx hb dX1_claims_39 ?_
            refine lv_istore_n (lv' := [(1, .int ((cmN z i) + (nI 1))), (0, .ref d), (2, .int (nI i))]) hx hb dX1_claims_40 rfl hl (by decide) rfl (fun ls hl => ?_)
            refine lv_iinc (v := nI (i + 1)) (lv' := [(2, .int (nI (i + 1))), (1, .int ((cmN z i) + (nI 1))), (0, .ref d)]) hx hb dX1_claims_41 hl (k := 2) rfl (inc_1 _) (by decide) rfl (fun ls hl => ?_)
            refine lv_goto (tgt := 4) hx hb dX1_claims_44 (by decide) ?_
            have hl : lv_has ls 3 [(0, .ref d), (1, .int (cmN z (i + 1))), (2, .int (nI (i + 1)))] := by
              have h9 := lv_sub (l' := [(0, .ref d), (1, .int ((cmN z i) + (nI 1))), (2, .int (nI (i + 1)))]) hl [2, 1, 0] rfl
              rw [show (.int (cmN z (i + 1)) : Value) = .int ((cmN z i) + (nI 1)) from congrArg Value.int (congrArg (fun y9 => cmN z i + y9) (bI_t c31))]
              exact h9
            exact ih (i + 1) (by omega) (by omega) _ hl
  refine lv_iconst (v := nI 0) hx hb dX1_claims_0 (by decide) ?_
  refine lv_istore_n (lv' := [(1, .int (nI 0)), (0, .ref d)]) hx hb dX1_claims_1 rfl hl (by decide) rfl (fun ls hl => ?_)
  refine lv_iconst (v := nI 0) hx hb dX1_claims_2 (by decide) ?_
  refine lv_istore_n (lv' := [(2, .int (nI 0)), (1, .int (nI 0)), (0, .ref d)]) hx hb dX1_claims_3 rfl hl (by decide) rfl (fun ls hl => ?_)
  have hl : lv_has ls 3 [(0, .ref d), (1, .int (cmN z 0)), (2, .int (nI 0))] := by
    have h9 := lv_sub (l' := [(0, .ref d), (1, .int (nI 0)), (2, .int (nI 0))]) hl [2, 1, 0] rfl
    rw [show (.int (cmN z 0) : Value) = .int (nI 0) from congrArg Value.int rfl]
    exact h9
  exact J4 (cn z + 1) 0 (by omega) (by omega) _ hl
def rm_X1_claimsWaitingOn : Room := { frames := 2, cells := 0, slots := 0, locals := 40 }
theorem hd_X1_claimsWaitingOn : k_hd1 yX1_claimsWaitingOn RX1 1 := by decide +kernel
set_option maxHeartbeats 4000000 in
set_option maxRecDepth 100000 in
theorem c_X1_claimsWaitingOn (l : Launch) (E : ke_E) (d : Nat) (z : Nat → Int32) (v : Nat) (hI : iv z) (hv4 : v < 4) : Met l yX1_claimsWaitingOn wsX1_claimsWaitingOn rm_X1_claimsWaitingOn (kp E [.ref d, .int (nI v)] (dz E d z)) (qp (some (.int (clN z v (cn z))))) 0 0 nof := by
  refine k_hd (cc := cX1_claimsWaitingOn) (maxL := 4) (ret := (some .int)) (by decide) rfl (Nat.le_of_ble_eq_true rfl) ?_
  intro p e s m below meth c ls S hr hlk hnm hK hP hl
  have hx := S.1
  have hb := S.2.1
  have hts := S.2.2.2.2
  have hP : dz E d z s.heap := hP
  have hl : lv_has ls 4 [(0, .ref d), (1, .int (nI v))] := hl
  have hc20 := iv_c hI
  have J4 : ∀ (n_ : Nat), ∀ (i : Nat), i ≤ cn z → cn z < i + n_ → ∀ (ls : Array Slot), lv_has ls 4 [(0, .ref d), (1, .int (nI v)), (2, .int (clN z v i)), (3, .int (nI i))] → W p l e (headSpec wsX1_claimsWaitingOn rm_X1_claimsWaitingOn).room s m ([.ref d, .int (nI v)] : List Value).toArray below meth c s.heap [] 0 0 (MQ below (qp (some (.int (clN z v (cn z))))) ([.ref d, .int (nI v)] : List Value).toArray s 0 0 nof) (F0 m 4 ls []) := by
    intro n_
    induction n_ with
    | zero =>
      intro i hi hn_ _ _
      exact absurd hn_ (by omega)
    | succ n_ ih =>
      intro i hi hn_ ls hl
      refine lv_iload_n hx hb dX1_claimsWaitingOn_4 rfl (lv_at hl 3 rfl) ?_
      refine lv_aload_n hx hb dX1_claimsWaitingOn_5 rfl (lv_at hl 0 rfl) ?_
      refine k_get S hK (dz_d hP) rfl (fun _ h => List.mem_cons_of_mem _ (List.mem_append_left _ (List.mem_append_right _ (h)))) 4 (by decide) (List.mem_cons_of_mem _ (List.mem_append_left _ (List.mem_append_left _ (List.mem_of_getElem? (i := 0) rfl)))) rfl (v := .int (nI (cn z))) (congrArg (fun x => some (Value.int x)) ((iv_n hI))) dX1_claimsWaitingOn_6 ?_
      refine n_ige (tgt := 60) hx hb dX1_claimsWaitingOn_9 (by decide) (by omega) (by omega) (fun c9 => ?_) (fun c9 => ?_)
      · refine lv_iload_n hx hb dX1_claimsWaitingOn_60 rfl (lv_at hl 2 rfl) ?_
        exact k_iret hx hb hr hlk dX1_claimsWaitingOn_61 (by rw [show i = cn z by omega])
      · refine lv_iload_n hx hb dX1_claimsWaitingOn_12 rfl (lv_at hl 3 rfl) ?_
        refine lv_aload_n hx hb dX1_claimsWaitingOn_13 rfl (lv_at hl 0 rfl) ?_
        refine k_get S hK (dz_d hP) rfl (fun _ h => List.mem_cons_of_mem _ (List.mem_append_left _ (List.mem_append_right _ (h)))) 2 (by decide) (List.mem_cons_of_mem _ (List.mem_append_left _ (List.mem_append_left _ (List.mem_of_getElem? (i := 1) rfl)))) rfl (v := .ref (d + 3)) rfl dX1_claimsWaitingOn_14 ?_
        refine k_alen hx hb hK (t := 3) rfl (dz_ua hP) dX1_claimsWaitingOn_17 ?_
        refine k_top (y := nI 20) rfl ?_
        refine n_ige (tgt := 60) hx hb dX1_claimsWaitingOn_18 (by decide) (by omega) (by omega) (fun c18 => ?_) (fun c18 => ?_)
        · refine lv_iload_n hx hb dX1_claimsWaitingOn_60 rfl (lv_at hl 2 rfl) ?_
          exact k_iret hx hb hr hlk dX1_claimsWaitingOn_61 (by rw [show i = cn z by omega])
        · refine lv_iload_n hx hb dX1_claimsWaitingOn_21 rfl (lv_at hl 2 rfl) ?_
          refine lv_aload_n hx hb dX1_claimsWaitingOn_22 rfl (lv_at hl 0 rfl) ?_
          refine k_get S hK (dz_d hP) rfl (fun _ h => List.mem_cons_of_mem _ (List.mem_append_left _ (List.mem_append_right _ (h)))) 2 (by decide) (List.mem_cons_of_mem _ (List.mem_append_left _ (List.mem_append_left _ (List.mem_of_getElem? (i := 1) rfl)))) rfl (v := .ref (d + 3)) rfl dX1_claimsWaitingOn_23 ?_
          refine lv_iload_n hx hb dX1_claimsWaitingOn_26 rfl (lv_at hl 3 rfl) ?_
          refine k_aald hx hb hK (t := 3) rfl (dz_ua hP) (by omega) (by decide) (v := d + 2*i + 19) rfl dX1_claimsWaitingOn_27 ?_
          refine k_V (As := []) (rest := [.int (clN z v i)]) S hK (c_X4_isClaimWaiting l E d z i c9) gX1_claimsWaitingOn_X4_isClaimWaiting rfl hd_X4_isClaimWaiting ⟨rfl, rfl⟩ ⟨Nat.le_of_ble_eq_true rfl, Nat.le_of_ble_eq_true rfl⟩ (k_recv hK (dz_u hP i c9) rfl) hP rfl hl.1 rfl (Nat.le_of_ble_eq_true rfl) dX1_claimsWaitingOn_28 ⟨Nat.le_of_ble_eq_true rfl, Nat.le_of_ble_eq_true rfl⟩ ?_
          refine b_eq (tgt := 51) hx hb dX1_claimsWaitingOn_31 (by decide) (fun c31 => ?_) (fun c31 => ?_)
          · refine lv_iconst (v := nI 0) hx hb dX1_claimsWaitingOn_51 (by decide) ?_
            refine lv_iadd hx hb dX1_claimsWaitingOn_52 ?_
            refine lv_istore_n (lv' := [(2, .int ((clN z v i) + (nI 0))), (0, .ref d), (1, .int (nI v)), (3, .int (nI i))]) hx hb dX1_claimsWaitingOn_53 rfl hl (by decide) rfl (fun ls hl => ?_)
            refine lv_iinc (v := nI (i + 1)) (lv' := [(3, .int (nI (i + 1))), (2, .int ((clN z v i) + (nI 0))), (0, .ref d), (1, .int (nI v))]) hx hb dX1_claimsWaitingOn_54 hl (k := 3) rfl (inc_1 _) (by decide) rfl (fun ls hl => ?_)
            refine lv_goto (tgt := 4) hx hb dX1_claimsWaitingOn_57 (by decide) ?_
            have hl : lv_has ls 4 [(0, .ref d), (1, .int (nI v)), (2, .int (clN z v (i + 1))), (3, .int (nI (i + 1)))] := by
              have h9 := lv_sub (l' := [(0, .ref d), (1, .int (nI v)), (2, .int ((clN z v i) + (nI 0))), (3, .int (nI (i + 1)))]) hl [2, 3, 1, 0] rfl
              rw [show (.int (clN z v (i + 1)) : Value) = .int ((clN z v i) + (nI 0)) from congrArg Value.int (congrArg (fun y9 => clN z v i + y9) (bI_f (fun h => c31 h.1)))]
              exact h9
            exact ih (i + 1) (by omega) (by omega) _ hl
          · refine lv_aload_n hx hb dX1_claimsWaitingOn_34 rfl (lv_at hl 0 rfl) ?_
            refine k_get S hK (dz_d hP) rfl (fun _ h => List.mem_cons_of_mem _ (List.mem_append_left _ (List.mem_append_right _ (h)))) 2 (by decide) (List.mem_cons_of_mem _ (List.mem_append_left _ (List.mem_append_left _ (List.mem_of_getElem? (i := 1) rfl)))) rfl (v := .ref (d + 3)) rfl dX1_claimsWaitingOn_35 ?_
            refine lv_iload_n hx hb dX1_claimsWaitingOn_38 rfl (lv_at hl 3 rfl) ?_
            refine k_aald hx hb hK (t := 3) rfl (dz_ua hP) (by omega) (by decide) (v := d + 2*i + 19) rfl dX1_claimsWaitingOn_39 ?_
            have hq1 := iv_ubl hI c9
            refine k_get S hK (dz_u hP i c9) rfl (fun _ h => List.mem_cons_of_mem _ (List.mem_append_right _ (h))) 6 (by decide) (List.mem_cons_of_mem _ (List.mem_append_left _ (List.mem_append_left _ (List.mem_of_getElem? (i := 2) rfl)))) rfl (v := .int (nI (ub z i))) (congrArg (fun x => some (Value.int x)) ((iv_ub hI c9))) dX1_claimsWaitingOn_40 ?_
            refine lv_iload_n hx hb dX1_claimsWaitingOn_43 rfl (lv_at hl 1 rfl) ?_
            refine n_ine (tgt := 51) hx hb dX1_claimsWaitingOn_44 (by decide) (by omega) (by omega) (fun c44 => ?_) (fun c44 => ?_)
            · refine lv_iconst (v := nI 0) hx hb dX1_claimsWaitingOn_51 (by decide) ?_
              refine lv_iadd hx hb dX1_claimsWaitingOn_52 ?_
              refine lv_istore_n (lv' := [(2, .int ((clN z v i) + (nI 0))), (0, .ref d), (1, .int (nI v)), (3, .int (nI i))]) hx hb dX1_claimsWaitingOn_53 rfl hl (by decide) rfl (fun ls hl => ?_)
              refine lv_iinc (v := nI (i + 1)) (lv' := [(3, .int (nI (i + 1))), (2, .int ((clN z v i) + (nI 0))), (0, .ref d), (1, .int (nI v))]) hx hb dX1_claimsWaitingOn_54 hl (k := 3) rfl (inc_1 _) (by decide) rfl (fun ls hl => ?_)
              refine lv_goto (tgt := 4) hx hb dX1_claimsWaitingOn_57 (by decide) ?_
              have hl : lv_has ls 4 [(0, .ref d), (1, .int (nI v)), (2, .int (clN z v (i + 1))), (3, .int (nI (i + 1)))] := by
                have h9 := lv_sub (l' := [(0, .ref d), (1, .int (nI v)), (2, .int ((clN z v i) + (nI 0))), (3, .int (nI (i + 1)))]) hl [2, 3, 1, 0] rfl
                rw [show (.int (clN z v (i + 1)) : Value) = .int ((clN z v i) + (nI 0)) from congrArg Value.int (congrArg (fun y9 => clN z v i + y9) (bI_f (fun h => c44 h.2)))]
                exact h9
              exact ih (i + 1) (by omega) (by omega) _ hl
            · refine lv_iconst (v := nI 1) hx hb dX1_claimsWaitingOn_47 (by decide) ?_
              refine lv_goto (tgt := 52) hx hb dX1_claimsWaitingOn_48 (by decide) ?_
              refine lv_iadd hx hb dX1_claimsWaitingOn_52 ?_
              refine lv_istore_n (lv' := [(2, .int ((clN z v i) + (nI 1))), (0, .ref d), (1, .int (nI v)), (3, .int (nI i))]) hx hb dX1_claimsWaitingOn_53 rfl hl (by decide) rfl (fun ls hl => ?_)
              refine lv_iinc (v := nI (i + 1)) (lv' := [(3, .int (nI (i + 1))), (2, .int ((clN z v i) + (nI 1))), (0, .ref d), (1, .int (nI v))]) hx hb dX1_claimsWaitingOn_54 hl (k := 3) rfl (inc_1 _) (by decide) rfl (fun ls hl => ?_)
              refine lv_goto (tgt := 4) hx hb dX1_claimsWaitingOn_57 (by decide) ?_
              have hl : lv_has ls 4 [(0, .ref d), (1, .int (nI v)), (2, .int (clN z v (i + 1))), (3, .int (nI (i + 1)))] := by
                have h9 := lv_sub (l' := [(0, .ref d), (1, .int (nI v)), (2, .int ((clN z v i) + (nI 1))), (3, .int (nI (i + 1)))]) hl [2, 3, 1, 0] rfl
                rw [show (.int (clN z v (i + 1)) : Value) = .int ((clN z v i) + (nI 1)) from congrArg Value.int (congrArg (fun y9 => clN z v i + y9) (bI_t ⟨c31, c44⟩))]
                exact h9
              exact ih (i + 1) (by omega) (by omega) _ hl
  refine lv_iconst (v := nI 0) hx hb dX1_claimsWaitingOn_0 (by decide) ?_
  refine lv_istore_n (lv' := [(2, .int (nI 0)), (0, .ref d), (1, .int (nI v))]) hx hb dX1_claimsWaitingOn_1 rfl hl (by decide) rfl (fun ls hl => ?_)
  refine lv_iconst (v := nI 0) hx hb dX1_claimsWaitingOn_2 (by decide) ?_
  refine lv_istore_n (lv' := [(3, .int (nI 0)), (2, .int (nI 0)), (0, .ref d), (1, .int (nI v))]) hx hb dX1_claimsWaitingOn_3 rfl hl (by decide) rfl (fun ls hl => ?_)
  have hl : lv_has ls 4 [(0, .ref d), (1, .int (nI v)), (2, .int (clN z v 0)), (3, .int (nI 0))] := by
    have h9 := lv_sub (l' := [(0, .ref d), (1, .int (nI v)), (2, .int (nI 0)), (3, .int (nI 0))]) hl [2, 3, 1, 0] rfl
    rw [show (.int (clN z v 0) : Value) = .int (nI 0) from congrArg Value.int rfl]
    exact h9
  exact J4 (cn z + 1) 0 (by omega) (by omega) _ hl
def rm_X1_amountWaitingOn : Room := { frames := 2, cells := 0, slots := 0, locals := 40 }
theorem hd_X1_amountWaitingOn : k_hd1 yX1_amountWaitingOn RX1 1 := by decide +kernel
set_option maxHeartbeats 4000000 in
set_option maxRecDepth 100000 in
theorem c_X1_amountWaitingOn (l : Launch) (E : ke_E) (d : Nat) (z : Nat → Int32) (v : Nat) (hI : iv z) (hv4 : v < 4) : Met l yX1_amountWaitingOn wsX1_amountWaitingOn rm_X1_amountWaitingOn (kp E [.ref d, .int (nI v)] (dz E d z)) (qp (some (.int (clA z v (cn z))))) 0 0 nof := by
  refine k_hd (cc := cX1_amountWaitingOn) (maxL := 4) (ret := (some .int)) (by decide) rfl (Nat.le_of_ble_eq_true rfl) ?_
  intro p e s m below meth c ls S hr hlk hnm hK hP hl
  have hx := S.1
  have hb := S.2.1
  have hts := S.2.2.2.2
  have hP : dz E d z s.heap := hP
  have hl : lv_has ls 4 [(0, .ref d), (1, .int (nI v))] := hl
  have hc20 := iv_c hI
  have J4 : ∀ (n_ : Nat), ∀ (i : Nat), i ≤ cn z → cn z < i + n_ → ∀ (ls : Array Slot), lv_has ls 4 [(0, .ref d), (1, .int (nI v)), (2, .int (clA z v i)), (3, .int (nI i))] → W p l e (headSpec wsX1_amountWaitingOn rm_X1_amountWaitingOn).room s m ([.ref d, .int (nI v)] : List Value).toArray below meth c s.heap [] 0 0 (MQ below (qp (some (.int (clA z v (cn z))))) ([.ref d, .int (nI v)] : List Value).toArray s 0 0 nof) (F0 m 4 ls []) := by
    intro n_
    induction n_ with
    | zero =>
      intro i hi hn_ _ _
      exact absurd hn_ (by omega)
    | succ n_ ih =>
      intro i hi hn_ ls hl
      refine lv_iload_n hx hb dX1_amountWaitingOn_4 rfl (lv_at hl 3 rfl) ?_
      refine lv_aload_n hx hb dX1_amountWaitingOn_5 rfl (lv_at hl 0 rfl) ?_
      refine k_get S hK (dz_d hP) rfl (fun _ h => List.mem_cons_of_mem _ (List.mem_append_left _ (List.mem_append_right _ (h)))) 4 (by decide) (List.mem_cons_of_mem _ (List.mem_append_left _ (List.mem_append_left _ (List.mem_of_getElem? (i := 0) rfl)))) rfl (v := .int (nI (cn z))) (congrArg (fun x => some (Value.int x)) ((iv_n hI))) dX1_amountWaitingOn_6 ?_
      refine n_ige (tgt := 68) hx hb dX1_amountWaitingOn_9 (by decide) (by omega) (by omega) (fun c9 => ?_) (fun c9 => ?_)
      · refine lv_iload_n hx hb dX1_amountWaitingOn_68 rfl (lv_at hl 2 rfl) ?_
        exact k_iret hx hb hr hlk dX1_amountWaitingOn_69 (by rw [show i = cn z by omega])
      · refine lv_iload_n hx hb dX1_amountWaitingOn_12 rfl (lv_at hl 3 rfl) ?_
        refine lv_aload_n hx hb dX1_amountWaitingOn_13 rfl (lv_at hl 0 rfl) ?_
        refine k_get S hK (dz_d hP) rfl (fun _ h => List.mem_cons_of_mem _ (List.mem_append_left _ (List.mem_append_right _ (h)))) 2 (by decide) (List.mem_cons_of_mem _ (List.mem_append_left _ (List.mem_append_left _ (List.mem_of_getElem? (i := 1) rfl)))) rfl (v := .ref (d + 3)) rfl dX1_amountWaitingOn_14 ?_
        refine k_alen hx hb hK (t := 3) rfl (dz_ua hP) dX1_amountWaitingOn_17 ?_
        refine k_top (y := nI 20) rfl ?_
        refine n_ige (tgt := 68) hx hb dX1_amountWaitingOn_18 (by decide) (by omega) (by omega) (fun c18 => ?_) (fun c18 => ?_)
        · refine lv_iload_n hx hb dX1_amountWaitingOn_68 rfl (lv_at hl 2 rfl) ?_
          exact k_iret hx hb hr hlk dX1_amountWaitingOn_69 (by rw [show i = cn z by omega])
        · refine lv_iload_n hx hb dX1_amountWaitingOn_21 rfl (lv_at hl 2 rfl) ?_
          refine lv_aload_n hx hb dX1_amountWaitingOn_22 rfl (lv_at hl 0 rfl) ?_
          refine k_get S hK (dz_d hP) rfl (fun _ h => List.mem_cons_of_mem _ (List.mem_append_left _ (List.mem_append_right _ (h)))) 2 (by decide) (List.mem_cons_of_mem _ (List.mem_append_left _ (List.mem_append_left _ (List.mem_of_getElem? (i := 1) rfl)))) rfl (v := .ref (d + 3)) rfl dX1_amountWaitingOn_23 ?_
          refine lv_iload_n hx hb dX1_amountWaitingOn_26 rfl (lv_at hl 3 rfl) ?_
          refine k_aald hx hb hK (t := 3) rfl (dz_ua hP) (by omega) (by decide) (v := d + 2*i + 19) rfl dX1_amountWaitingOn_27 ?_
          refine k_V (As := []) (rest := [.int (clA z v i)]) S hK (c_X4_isClaimWaiting l E d z i c9) gX1_amountWaitingOn_X4_isClaimWaiting rfl hd_X4_isClaimWaiting ⟨rfl, rfl⟩ ⟨Nat.le_of_ble_eq_true rfl, Nat.le_of_ble_eq_true rfl⟩ (k_recv hK (dz_u hP i c9) rfl) hP rfl hl.1 rfl (Nat.le_of_ble_eq_true rfl) dX1_amountWaitingOn_28 ⟨Nat.le_of_ble_eq_true rfl, Nat.le_of_ble_eq_true rfl⟩ ?_
          refine b_eq (tgt := 59) hx hb dX1_amountWaitingOn_31 (by decide) (fun c31 => ?_) (fun c31 => ?_)
          · refine lv_iconst (v := nI 0) hx hb dX1_amountWaitingOn_59 (by decide) ?_
            refine lv_iadd hx hb dX1_amountWaitingOn_60 ?_
            refine lv_istore_n (lv' := [(2, .int ((clA z v i) + (nI 0))), (0, .ref d), (1, .int (nI v)), (3, .int (nI i))]) hx hb dX1_amountWaitingOn_61 rfl hl (by decide) rfl (fun ls hl => ?_)
            refine lv_iinc (v := nI (i + 1)) (lv' := [(3, .int (nI (i + 1))), (2, .int ((clA z v i) + (nI 0))), (0, .ref d), (1, .int (nI v))]) hx hb dX1_amountWaitingOn_62 hl (k := 3) rfl (inc_1 _) (by decide) rfl (fun ls hl => ?_)
            refine lv_goto (tgt := 4) hx hb dX1_amountWaitingOn_65 (by decide) ?_
            have hl : lv_has ls 4 [(0, .ref d), (1, .int (nI v)), (2, .int (clA z v (i + 1))), (3, .int (nI (i + 1)))] := by
              have h9 := lv_sub (l' := [(0, .ref d), (1, .int (nI v)), (2, .int ((clA z v i) + (nI 0))), (3, .int (nI (i + 1)))]) hl [2, 3, 1, 0] rfl
              rw [show (.int (clA z v (i + 1)) : Value) = .int ((clA z v i) + (nI 0)) from congrArg Value.int (congrArg (fun y9 => clA z v i + y9) (iF_f (fun h => c31 h.1)))]
              exact h9
            exact ih (i + 1) (by omega) (by omega) _ hl
          · refine lv_aload_n hx hb dX1_amountWaitingOn_34 rfl (lv_at hl 0 rfl) ?_
            refine k_get S hK (dz_d hP) rfl (fun _ h => List.mem_cons_of_mem _ (List.mem_append_left _ (List.mem_append_right _ (h)))) 2 (by decide) (List.mem_cons_of_mem _ (List.mem_append_left _ (List.mem_append_left _ (List.mem_of_getElem? (i := 1) rfl)))) rfl (v := .ref (d + 3)) rfl dX1_amountWaitingOn_35 ?_
            refine lv_iload_n hx hb dX1_amountWaitingOn_38 rfl (lv_at hl 3 rfl) ?_
            refine k_aald hx hb hK (t := 3) rfl (dz_ua hP) (by omega) (by decide) (v := d + 2*i + 19) rfl dX1_amountWaitingOn_39 ?_
            have hq1 := iv_ubl hI c9
            refine k_get S hK (dz_u hP i c9) rfl (fun _ h => List.mem_cons_of_mem _ (List.mem_append_right _ (h))) 6 (by decide) (List.mem_cons_of_mem _ (List.mem_append_left _ (List.mem_append_left _ (List.mem_of_getElem? (i := 2) rfl)))) rfl (v := .int (nI (ub z i))) (congrArg (fun x => some (Value.int x)) ((iv_ub hI c9))) dX1_amountWaitingOn_40 ?_
            refine lv_iload_n hx hb dX1_amountWaitingOn_43 rfl (lv_at hl 1 rfl) ?_
            refine n_ine (tgt := 59) hx hb dX1_amountWaitingOn_44 (by decide) (by omega) (by omega) (fun c44 => ?_) (fun c44 => ?_)
            · refine lv_iconst (v := nI 0) hx hb dX1_amountWaitingOn_59 (by decide) ?_
              refine lv_iadd hx hb dX1_amountWaitingOn_60 ?_
              refine lv_istore_n (lv' := [(2, .int ((clA z v i) + (nI 0))), (0, .ref d), (1, .int (nI v)), (3, .int (nI i))]) hx hb dX1_amountWaitingOn_61 rfl hl (by decide) rfl (fun ls hl => ?_)
              refine lv_iinc (v := nI (i + 1)) (lv' := [(3, .int (nI (i + 1))), (2, .int ((clA z v i) + (nI 0))), (0, .ref d), (1, .int (nI v))]) hx hb dX1_amountWaitingOn_62 hl (k := 3) rfl (inc_1 _) (by decide) rfl (fun ls hl => ?_)
              refine lv_goto (tgt := 4) hx hb dX1_amountWaitingOn_65 (by decide) ?_
              have hl : lv_has ls 4 [(0, .ref d), (1, .int (nI v)), (2, .int (clA z v (i + 1))), (3, .int (nI (i + 1)))] := by
                have h9 := lv_sub (l' := [(0, .ref d), (1, .int (nI v)), (2, .int ((clA z v i) + (nI 0))), (3, .int (nI (i + 1)))]) hl [2, 3, 1, 0] rfl
                rw [show (.int (clA z v (i + 1)) : Value) = .int ((clA z v i) + (nI 0)) from congrArg Value.int (congrArg (fun y9 => clA z v i + y9) (iF_f (fun h => c44 h.2)))]
                exact h9
              exact ih (i + 1) (by omega) (by omega) _ hl
            · refine lv_aload_n hx hb dX1_amountWaitingOn_47 rfl (lv_at hl 0 rfl) ?_
              refine k_get S hK (dz_d hP) rfl (fun _ h => List.mem_cons_of_mem _ (List.mem_append_left _ (List.mem_append_right _ (h)))) 2 (by decide) (List.mem_cons_of_mem _ (List.mem_append_left _ (List.mem_append_left _ (List.mem_of_getElem? (i := 1) rfl)))) rfl (v := .ref (d + 3)) rfl dX1_amountWaitingOn_48 ?_
              refine lv_iload_n hx hb dX1_amountWaitingOn_51 rfl (lv_at hl 3 rfl) ?_
              refine k_aald hx hb hK (t := 3) rfl (dz_ua hP) (by omega) (by decide) (v := d + 2*i + 19) rfl dX1_amountWaitingOn_52 ?_
              refine k_get S hK (dz_u hP i c9) rfl (fun _ h => List.mem_cons_of_mem _ (List.mem_append_right _ (h))) 5 (by decide) (List.mem_cons_of_mem _ (List.mem_append_left _ (List.mem_append_left _ (List.mem_of_getElem? (i := 3) rfl)))) rfl (v := .int (z (13*i + 70))) rfl dX1_amountWaitingOn_53 ?_
              refine lv_goto (tgt := 60) hx hb dX1_amountWaitingOn_56 (by decide) ?_
              refine lv_iadd hx hb dX1_amountWaitingOn_60 ?_
              refine lv_istore_n (lv' := [(2, .int ((clA z v i) + (z (13*i + 70)))), (0, .ref d), (1, .int (nI v)), (3, .int (nI i))]) hx hb dX1_amountWaitingOn_61 rfl hl (by decide) rfl (fun ls hl => ?_)
              refine lv_iinc (v := nI (i + 1)) (lv' := [(3, .int (nI (i + 1))), (2, .int ((clA z v i) + (z (13*i + 70)))), (0, .ref d), (1, .int (nI v))]) hx hb dX1_amountWaitingOn_62 hl (k := 3) rfl (inc_1 _) (by decide) rfl (fun ls hl => ?_)
              refine lv_goto (tgt := 4) hx hb dX1_amountWaitingOn_65 (by decide) ?_
              have hl : lv_has ls 4 [(0, .ref d), (1, .int (nI v)), (2, .int (clA z v (i + 1))), (3, .int (nI (i + 1)))] := by
                have h9 := lv_sub (l' := [(0, .ref d), (1, .int (nI v)), (2, .int ((clA z v i) + (z (13*i + 70)))), (3, .int (nI (i + 1)))]) hl [2, 3, 1, 0] rfl
                rw [show (.int (clA z v (i + 1)) : Value) = .int ((clA z v i) + (z (13*i + 70))) from congrArg Value.int (congrArg (fun y9 => clA z v i + y9) (iF_t ⟨c31, c44⟩))]
                exact h9
              exact ih (i + 1) (by omega) (by omega) _ hl
  refine lv_iconst (v := nI 0) hx hb dX1_amountWaitingOn_0 (by decide) ?_
  refine lv_istore_n (lv' := [(2, .int (nI 0)), (0, .ref d), (1, .int (nI v))]) hx hb dX1_amountWaitingOn_1 rfl hl (by decide) rfl (fun ls hl => ?_)
  refine lv_iconst (v := nI 0) hx hb dX1_amountWaitingOn_2 (by decide) ?_
  refine lv_istore_n (lv' := [(3, .int (nI 0)), (2, .int (nI 0)), (0, .ref d), (1, .int (nI v))]) hx hb dX1_amountWaitingOn_3 rfl hl (by decide) rfl (fun ls hl => ?_)
  have hl : lv_has ls 4 [(0, .ref d), (1, .int (nI v)), (2, .int (clA z v 0)), (3, .int (nI 0))] := by
    have h9 := lv_sub (l' := [(0, .ref d), (1, .int (nI v)), (2, .int (nI 0)), (3, .int (nI 0))]) hl [2, 3, 1, 0] rfl
    rw [show (.int (clA z v 0) : Value) = .int (nI 0) from congrArg Value.int rfl]
    exact h9
  exact J4 (cn z + 1) 0 (by omega) (by omega) _ hl
def rm_X1_moneyBySales : Room := { frames := 0, cells := 0, slots := 0, locals := 0 }
theorem hd_X1_moneyBySales : k_hd1 yX1_moneyBySales RX1 0 := by decide +kernel
set_option maxHeartbeats 4000000 in
set_option maxRecDepth 100000 in
theorem c_X1_moneyBySales (l : Launch) (E : ke_E) (d : Nat) (z : Nat → Int32) (hI : iv z) : Met l yX1_moneyBySales wsX1_moneyBySales rm_X1_moneyBySales (kp E [.ref d] (dz E d z)) (qp (some (.int (saN z (cn z))))) 0 0 nof := by
  refine k_hd (cc := cX1_moneyBySales) (maxL := 3) (ret := (some .int)) (by decide) rfl (Nat.le_of_ble_eq_true rfl) ?_
  intro p e s m below meth c ls S hr hlk hnm hK hP hl
  have hx := S.1
  have hb := S.2.1
  have hts := S.2.2.2.2
  have hP : dz E d z s.heap := hP
  have hl : lv_has ls 3 [(0, .ref d)] := hl
  have hc20 := iv_c hI
  have J4 : ∀ (n_ : Nat), ∀ (i : Nat), i ≤ cn z → cn z < i + n_ → ∀ (ls : Array Slot), lv_has ls 3 [(0, .ref d), (1, .int (saN z i)), (2, .int (nI i))] → W p l e (headSpec wsX1_moneyBySales rm_X1_moneyBySales).room s m ([.ref d] : List Value).toArray below meth c s.heap [] 0 0 (MQ below (qp (some (.int (saN z (cn z))))) ([.ref d] : List Value).toArray s 0 0 nof) (F0 m 4 ls []) := by
    intro n_
    induction n_ with
    | zero =>
      intro i hi hn_ _ _
      exact absurd hn_ (by omega)
    | succ n_ ih =>
      intro i hi hn_ ls hl
      refine lv_iload_n hx hb dX1_moneyBySales_4 rfl (lv_at hl 2 rfl) ?_
      refine lv_aload_n hx hb dX1_moneyBySales_5 rfl (lv_at hl 0 rfl) ?_
      refine k_get S hK (dz_d hP) rfl (fun _ h => List.mem_cons_of_mem _ (List.mem_append_left _ (List.mem_append_right _ (h)))) 4 (by decide) (List.mem_cons_of_mem _ (List.mem_append_left _ (List.mem_append_left _ (List.mem_of_getElem? (i := 0) rfl)))) rfl (v := .int (nI (cn z))) (congrArg (fun x => some (Value.int x)) ((iv_n hI))) dX1_moneyBySales_6 ?_
      refine n_ige (tgt := 56) hx hb dX1_moneyBySales_9 (by decide) (by omega) (by omega) (fun c9 => ?_) (fun c9 => ?_)
      · refine lv_iload_n hx hb dX1_moneyBySales_56 rfl (lv_at hl 1 rfl) ?_
        exact k_iret hx hb hr hlk dX1_moneyBySales_57 (by rw [show i = cn z by omega])
      · refine lv_iload_n hx hb dX1_moneyBySales_12 rfl (lv_at hl 2 rfl) ?_
        refine lv_aload_n hx hb dX1_moneyBySales_13 rfl (lv_at hl 0 rfl) ?_
        refine k_get S hK (dz_d hP) rfl (fun _ h => List.mem_cons_of_mem _ (List.mem_append_left _ (List.mem_append_right _ (h)))) 2 (by decide) (List.mem_cons_of_mem _ (List.mem_append_left _ (List.mem_append_left _ (List.mem_of_getElem? (i := 1) rfl)))) rfl (v := .ref (d + 3)) rfl dX1_moneyBySales_14 ?_
        refine k_alen hx hb hK (t := 3) rfl (dz_ua hP) dX1_moneyBySales_17 ?_
        refine k_top (y := nI 20) rfl ?_
        refine n_ige (tgt := 56) hx hb dX1_moneyBySales_18 (by decide) (by omega) (by omega) (fun c18 => ?_) (fun c18 => ?_)
        · refine lv_iload_n hx hb dX1_moneyBySales_56 rfl (lv_at hl 1 rfl) ?_
          exact k_iret hx hb hr hlk dX1_moneyBySales_57 (by rw [show i = cn z by omega])
        · refine lv_iload_n hx hb dX1_moneyBySales_21 rfl (lv_at hl 1 rfl) ?_
          refine lv_aload_n hx hb dX1_moneyBySales_22 rfl (lv_at hl 0 rfl) ?_
          refine k_get S hK (dz_d hP) rfl (fun _ h => List.mem_cons_of_mem _ (List.mem_append_left _ (List.mem_append_right _ (h)))) 2 (by decide) (List.mem_cons_of_mem _ (List.mem_append_left _ (List.mem_append_left _ (List.mem_of_getElem? (i := 1) rfl)))) rfl (v := .ref (d + 3)) rfl dX1_moneyBySales_23 ?_
          refine lv_iload_n hx hb dX1_moneyBySales_26 rfl (lv_at hl 2 rfl) ?_
          refine k_aald hx hb hK (t := 3) rfl (dz_ua hP) (by omega) (by decide) (v := d + 2*i + 19) rfl dX1_moneyBySales_27 ?_
          refine k_get S hK (dz_u hP i c9) rfl (fun _ h => List.mem_cons_of_mem _ (List.mem_append_right _ (h))) 3 (by decide) (List.mem_cons_of_mem _ (List.mem_append_left _ (List.mem_append_left _ (List.mem_of_getElem? (i := 2) rfl)))) rfl (v := .int (z (13*i + 68))) rfl dX1_moneyBySales_28 ?_
          refine lv_iconst (v := nI 2) hx hb dX1_moneyBySales_31 (by decide) ?_
          refine lv_icmp_ne (tgt := 47) hx hb dX1_moneyBySales_32 (by decide) (fun c32 => ?_) (fun c32 => ?_)
          · refine lv_iconst (v := nI 0) hx hb dX1_moneyBySales_47 (by decide) ?_
            refine lv_iadd hx hb dX1_moneyBySales_48 ?_
            refine lv_istore_n (lv' := [(1, .int ((saN z i) + (nI 0))), (0, .ref d), (2, .int (nI i))]) hx hb dX1_moneyBySales_49 rfl hl (by decide) rfl (fun ls hl => ?_)
            refine lv_iinc (v := nI (i + 1)) (lv' := [(2, .int (nI (i + 1))), (1, .int ((saN z i) + (nI 0))), (0, .ref d)]) hx hb dX1_moneyBySales_50 hl (k := 2) rfl (inc_1 _) (by decide) rfl (fun ls hl => ?_)
            refine lv_goto (tgt := 4) hx hb dX1_moneyBySales_53 (by decide) ?_
            have hl : lv_has ls 3 [(0, .ref d), (1, .int (saN z (i + 1))), (2, .int (nI (i + 1)))] := by
              have h9 := lv_sub (l' := [(0, .ref d), (1, .int ((saN z i) + (nI 0))), (2, .int (nI (i + 1)))]) hl [2, 1, 0] rfl
              rw [show (.int (saN z (i + 1)) : Value) = .int ((saN z i) + (nI 0)) from congrArg Value.int (congrArg (fun y9 => saN z i + y9) (iF_f c32))]
              exact h9
            exact ih (i + 1) (by omega) (by omega) _ hl
          · refine lv_aload_n hx hb dX1_moneyBySales_35 rfl (lv_at hl 0 rfl) ?_
            refine k_get S hK (dz_d hP) rfl (fun _ h => List.mem_cons_of_mem _ (List.mem_append_left _ (List.mem_append_right _ (h)))) 2 (by decide) (List.mem_cons_of_mem _ (List.mem_append_left _ (List.mem_append_left _ (List.mem_of_getElem? (i := 1) rfl)))) rfl (v := .ref (d + 3)) rfl dX1_moneyBySales_36 ?_
            refine lv_iload_n hx hb dX1_moneyBySales_39 rfl (lv_at hl 2 rfl) ?_
            refine k_aald hx hb hK (t := 3) rfl (dz_ua hP) (by omega) (by decide) (v := d + 2*i + 19) rfl dX1_moneyBySales_40 ?_
            refine k_get S hK (dz_u hP i c9) rfl (fun _ h => List.mem_cons_of_mem _ (List.mem_append_right _ (h))) 8 (by decide) (List.mem_cons_of_mem _ (List.mem_append_left _ (List.mem_append_left _ (List.mem_of_getElem? (i := 3) rfl)))) rfl (v := .int (z (13*i + 73))) rfl dX1_moneyBySales_41 ?_
            refine lv_goto (tgt := 48) hx hb dX1_moneyBySales_44 (by decide) ?_
            refine lv_iadd hx hb dX1_moneyBySales_48 ?_
            refine lv_istore_n (lv' := [(1, .int ((saN z i) + (z (13*i + 73)))), (0, .ref d), (2, .int (nI i))]) hx hb dX1_moneyBySales_49 rfl hl (by decide) rfl (fun ls hl => ?_)
            refine lv_iinc (v := nI (i + 1)) (lv' := [(2, .int (nI (i + 1))), (1, .int ((saN z i) + (z (13*i + 73)))), (0, .ref d)]) hx hb dX1_moneyBySales_50 hl (k := 2) rfl (inc_1 _) (by decide) rfl (fun ls hl => ?_)
            refine lv_goto (tgt := 4) hx hb dX1_moneyBySales_53 (by decide) ?_
            have hl : lv_has ls 3 [(0, .ref d), (1, .int (saN z (i + 1))), (2, .int (nI (i + 1)))] := by
              have h9 := lv_sub (l' := [(0, .ref d), (1, .int ((saN z i) + (z (13*i + 73)))), (2, .int (nI (i + 1)))]) hl [2, 1, 0] rfl
              rw [show (.int (saN z (i + 1)) : Value) = .int ((saN z i) + (z (13*i + 73))) from congrArg Value.int (congrArg (fun y9 => saN z i + y9) (iF_t c32))]
              exact h9
            exact ih (i + 1) (by omega) (by omega) _ hl
  refine lv_iconst (v := nI 0) hx hb dX1_moneyBySales_0 (by decide) ?_
  refine lv_istore_n (lv' := [(1, .int (nI 0)), (0, .ref d)]) hx hb dX1_moneyBySales_1 rfl hl (by decide) rfl (fun ls hl => ?_)
  refine lv_iconst (v := nI 0) hx hb dX1_moneyBySales_2 (by decide) ?_
  refine lv_istore_n (lv' := [(2, .int (nI 0)), (1, .int (nI 0)), (0, .ref d)]) hx hb dX1_moneyBySales_3 rfl hl (by decide) rfl (fun ls hl => ?_)
  have hl : lv_has ls 3 [(0, .ref d), (1, .int (saN z 0)), (2, .int (nI 0))] := by
    have h9 := lv_sub (l' := [(0, .ref d), (1, .int (nI 0)), (2, .int (nI 0))]) hl [2, 1, 0] rfl
    rw [show (.int (saN z 0) : Value) = .int (nI 0) from congrArg Value.int rfl]
    exact h9
  exact J4 (cn z + 1) 0 (by omega) (by omega) _ hl
def rm_X1_moneyByVendors : Room := { frames := 0, cells := 0, slots := 0, locals := 0 }
theorem hd_X1_moneyByVendors : k_hd1 yX1_moneyByVendors RX1 0 := by decide +kernel
set_option maxHeartbeats 4000000 in
set_option maxRecDepth 100000 in
theorem c_X1_moneyByVendors (l : Launch) (E : ke_E) (d : Nat) (z : Nat → Int32) : Met l yX1_moneyByVendors wsX1_moneyByVendors rm_X1_moneyByVendors (kp E [.ref d] (dz E d z)) (qp (some (.int (vmZ z)))) 0 0 nof := by
  refine k_hd (cc := cX1_moneyByVendors) (maxL := 3) (ret := (some .int)) (by decide) rfl (Nat.le_of_ble_eq_true rfl) ?_
  intro p e s m below meth c ls S hr hlk hnm hK hP hl
  have hx := S.1
  have hb := S.2.1
  have hts := S.2.2.2.2
  have hP : dz E d z s.heap := hP
  have hl : lv_has ls 3 [(0, .ref d)] := hl
  refine lv_iconst (v := nI 0) hx hb dX1_moneyByVendors_0 (by decide) ?_
  refine lv_istore_n (lv' := [(1, .int (nI 0)), (0, .ref d)]) hx hb dX1_moneyByVendors_1 rfl hl (by decide) rfl (fun ls hl => ?_)
  refine lv_iconst (v := nI 0) hx hb dX1_moneyByVendors_2 (by decide) ?_
  refine lv_istore_n (lv' := [(2, .int (nI 0)), (1, .int (nI 0)), (0, .ref d)]) hx hb dX1_moneyByVendors_3 rfl hl (by decide) rfl (fun ls hl => ?_)
  refine lv_iload_n hx hb dX1_moneyByVendors_4 rfl (lv_at hl 0 rfl) ?_
  refine lv_aload_n hx hb dX1_moneyByVendors_5 rfl (lv_at hl 2 rfl) ?_
  refine k_get S hK (dz_d hP) rfl (fun _ h => List.mem_cons_of_mem _ (List.mem_append_left _ (List.mem_append_right _ (h)))) 1 (by decide) (List.mem_cons_of_mem _ (List.mem_append_left _ (List.mem_append_left _ (List.mem_of_getElem? (i := 0) rfl)))) rfl (v := .ref (d + 2)) rfl dX1_moneyByVendors_6 ?_
  refine k_alen hx hb hK (t := 2) rfl (dz_va hP) dX1_moneyByVendors_9 ?_
  refine k_top (y := nI 4) rfl ?_
  refine n_ige (tgt := 41) hx hb dX1_moneyByVendors_10 (by decide) (by omega) (by omega) (fun h => absurd h (by decide)) (fun c10 => ?_)
  refine lv_iload_n hx hb dX1_moneyByVendors_13 rfl (lv_at hl 1 rfl) ?_
  refine lv_aload_n hx hb dX1_moneyByVendors_14 rfl (lv_at hl 2 rfl) ?_
  refine k_get S hK (dz_d hP) rfl (fun _ h => List.mem_cons_of_mem _ (List.mem_append_left _ (List.mem_append_right _ (h)))) 1 (by decide) (List.mem_cons_of_mem _ (List.mem_append_left _ (List.mem_append_left _ (List.mem_of_getElem? (i := 0) rfl)))) rfl (v := .ref (d + 2)) rfl dX1_moneyByVendors_15 ?_
  refine lv_iload_n hx hb dX1_moneyByVendors_18 rfl (lv_at hl 0 rfl) ?_
  refine k_aald hx hb hK (t := 2) rfl (dz_va hP) (by omega) (by decide) (v := d + 2*0 + 11) rfl dX1_moneyByVendors_19 ?_
  refine k_get S hK (dz_v hP 0 c10) rfl (fun _ h => List.mem_cons_of_mem _ (List.mem_append_right _ (h))) 3 (by decide) (List.mem_cons_of_mem _ (List.mem_append_left _ (List.mem_append_left _ (List.mem_of_getElem? (i := 1) rfl)))) rfl (v := .int (z 32)) rfl dX1_moneyByVendors_20 ?_
  refine lv_aload_n hx hb dX1_moneyByVendors_23 rfl (lv_at hl 2 rfl) ?_
  refine k_get S hK (dz_d hP) rfl (fun _ h => List.mem_cons_of_mem _ (List.mem_append_left _ (List.mem_append_right _ (h)))) 1 (by decide) (List.mem_cons_of_mem _ (List.mem_append_left _ (List.mem_append_left _ (List.mem_of_getElem? (i := 0) rfl)))) rfl (v := .ref (d + 2)) rfl dX1_moneyByVendors_24 ?_
  refine lv_iload_n hx hb dX1_moneyByVendors_27 rfl (lv_at hl 0 rfl) ?_
  refine k_aald hx hb hK (t := 2) rfl (dz_va hP) (by omega) (by decide) (v := d + 2*0 + 11) rfl dX1_moneyByVendors_28 ?_
  refine k_get S hK (dz_v hP 0 c10) rfl (fun _ h => List.mem_cons_of_mem _ (List.mem_append_right _ (h))) 4 (by decide) (List.mem_cons_of_mem _ (List.mem_append_left _ (List.mem_append_left _ (List.mem_of_getElem? (i := 2) rfl)))) rfl (v := .int (z 33)) rfl dX1_moneyByVendors_29 ?_
  refine lv_iadd hx hb dX1_moneyByVendors_32 ?_
  refine lv_iadd hx hb dX1_moneyByVendors_33 ?_
  refine lv_istore_n (lv' := [(1, .int ((nI 0) + ((z 32) + (z 33)))), (2, .int (nI 0)), (0, .ref d)]) hx hb dX1_moneyByVendors_34 rfl hl (by decide) rfl (fun ls hl => ?_)
  refine lv_iinc (v := nI 1) (lv' := [(2, .int (nI 1)), (1, .int ((nI 0) + ((z 32) + (z 33)))), (0, .ref d)]) hx hb dX1_moneyByVendors_35 hl (k := 1) rfl (by decide) (by decide) rfl (fun ls hl => ?_)
  refine lv_goto (tgt := 4) hx hb dX1_moneyByVendors_38 (by decide) ?_
  refine lv_iload_n hx hb dX1_moneyByVendors_4 rfl (lv_at hl 0 rfl) ?_
  refine lv_aload_n hx hb dX1_moneyByVendors_5 rfl (lv_at hl 2 rfl) ?_
  refine k_get S hK (dz_d hP) rfl (fun _ h => List.mem_cons_of_mem _ (List.mem_append_left _ (List.mem_append_right _ (h)))) 1 (by decide) (List.mem_cons_of_mem _ (List.mem_append_left _ (List.mem_append_left _ (List.mem_of_getElem? (i := 0) rfl)))) rfl (v := .ref (d + 2)) rfl dX1_moneyByVendors_6 ?_
  refine k_alen hx hb hK (t := 2) rfl (dz_va hP) dX1_moneyByVendors_9 ?_
  refine k_top (y := nI 4) rfl ?_
  refine n_ige (tgt := 41) hx hb dX1_moneyByVendors_10 (by decide) (by omega) (by omega) (fun h => absurd h (by decide)) (fun c10_1 => ?_)
  refine lv_iload_n hx hb dX1_moneyByVendors_13 rfl (lv_at hl 1 rfl) ?_
  refine lv_aload_n hx hb dX1_moneyByVendors_14 rfl (lv_at hl 2 rfl) ?_
  refine k_get S hK (dz_d hP) rfl (fun _ h => List.mem_cons_of_mem _ (List.mem_append_left _ (List.mem_append_right _ (h)))) 1 (by decide) (List.mem_cons_of_mem _ (List.mem_append_left _ (List.mem_append_left _ (List.mem_of_getElem? (i := 0) rfl)))) rfl (v := .ref (d + 2)) rfl dX1_moneyByVendors_15 ?_
  refine lv_iload_n hx hb dX1_moneyByVendors_18 rfl (lv_at hl 0 rfl) ?_
  refine k_aald hx hb hK (t := 2) rfl (dz_va hP) (by omega) (by decide) (v := d + 2*1 + 11) rfl dX1_moneyByVendors_19 ?_
  refine k_get S hK (dz_v hP 1 c10_1) rfl (fun _ h => List.mem_cons_of_mem _ (List.mem_append_right _ (h))) 3 (by decide) (List.mem_cons_of_mem _ (List.mem_append_left _ (List.mem_append_left _ (List.mem_of_getElem? (i := 1) rfl)))) rfl (v := .int (z 40)) rfl dX1_moneyByVendors_20 ?_
  refine lv_aload_n hx hb dX1_moneyByVendors_23 rfl (lv_at hl 2 rfl) ?_
  refine k_get S hK (dz_d hP) rfl (fun _ h => List.mem_cons_of_mem _ (List.mem_append_left _ (List.mem_append_right _ (h)))) 1 (by decide) (List.mem_cons_of_mem _ (List.mem_append_left _ (List.mem_append_left _ (List.mem_of_getElem? (i := 0) rfl)))) rfl (v := .ref (d + 2)) rfl dX1_moneyByVendors_24 ?_
  refine lv_iload_n hx hb dX1_moneyByVendors_27 rfl (lv_at hl 0 rfl) ?_
  refine k_aald hx hb hK (t := 2) rfl (dz_va hP) (by omega) (by decide) (v := d + 2*1 + 11) rfl dX1_moneyByVendors_28 ?_
  refine k_get S hK (dz_v hP 1 c10_1) rfl (fun _ h => List.mem_cons_of_mem _ (List.mem_append_right _ (h))) 4 (by decide) (List.mem_cons_of_mem _ (List.mem_append_left _ (List.mem_append_left _ (List.mem_of_getElem? (i := 2) rfl)))) rfl (v := .int (z 41)) rfl dX1_moneyByVendors_29 ?_
  refine lv_iadd hx hb dX1_moneyByVendors_32 ?_
  refine lv_iadd hx hb dX1_moneyByVendors_33 ?_
  refine lv_istore_n (lv' := [(1, .int (((nI 0) + ((z 32) + (z 33))) + ((z 40) + (z 41)))), (2, .int (nI 1)), (0, .ref d)]) hx hb dX1_moneyByVendors_34 rfl hl (by decide) rfl (fun ls hl => ?_)
  refine lv_iinc (v := nI 2) (lv' := [(2, .int (nI 2)), (1, .int (((nI 0) + ((z 32) + (z 33))) + ((z 40) + (z 41)))), (0, .ref d)]) hx hb dX1_moneyByVendors_35 hl (k := 1) rfl (by decide) (by decide) rfl (fun ls hl => ?_)
  refine lv_goto (tgt := 4) hx hb dX1_moneyByVendors_38 (by decide) ?_
  refine lv_iload_n hx hb dX1_moneyByVendors_4 rfl (lv_at hl 0 rfl) ?_
  refine lv_aload_n hx hb dX1_moneyByVendors_5 rfl (lv_at hl 2 rfl) ?_
  refine k_get S hK (dz_d hP) rfl (fun _ h => List.mem_cons_of_mem _ (List.mem_append_left _ (List.mem_append_right _ (h)))) 1 (by decide) (List.mem_cons_of_mem _ (List.mem_append_left _ (List.mem_append_left _ (List.mem_of_getElem? (i := 0) rfl)))) rfl (v := .ref (d + 2)) rfl dX1_moneyByVendors_6 ?_
  refine k_alen hx hb hK (t := 2) rfl (dz_va hP) dX1_moneyByVendors_9 ?_
  refine k_top (y := nI 4) rfl ?_
  refine n_ige (tgt := 41) hx hb dX1_moneyByVendors_10 (by decide) (by omega) (by omega) (fun h => absurd h (by decide)) (fun c10_2 => ?_)
  refine lv_iload_n hx hb dX1_moneyByVendors_13 rfl (lv_at hl 1 rfl) ?_
  refine lv_aload_n hx hb dX1_moneyByVendors_14 rfl (lv_at hl 2 rfl) ?_
  refine k_get S hK (dz_d hP) rfl (fun _ h => List.mem_cons_of_mem _ (List.mem_append_left _ (List.mem_append_right _ (h)))) 1 (by decide) (List.mem_cons_of_mem _ (List.mem_append_left _ (List.mem_append_left _ (List.mem_of_getElem? (i := 0) rfl)))) rfl (v := .ref (d + 2)) rfl dX1_moneyByVendors_15 ?_
  refine lv_iload_n hx hb dX1_moneyByVendors_18 rfl (lv_at hl 0 rfl) ?_
  refine k_aald hx hb hK (t := 2) rfl (dz_va hP) (by omega) (by decide) (v := d + 2*2 + 11) rfl dX1_moneyByVendors_19 ?_
  refine k_get S hK (dz_v hP 2 c10_2) rfl (fun _ h => List.mem_cons_of_mem _ (List.mem_append_right _ (h))) 3 (by decide) (List.mem_cons_of_mem _ (List.mem_append_left _ (List.mem_append_left _ (List.mem_of_getElem? (i := 1) rfl)))) rfl (v := .int (z 48)) rfl dX1_moneyByVendors_20 ?_
  refine lv_aload_n hx hb dX1_moneyByVendors_23 rfl (lv_at hl 2 rfl) ?_
  refine k_get S hK (dz_d hP) rfl (fun _ h => List.mem_cons_of_mem _ (List.mem_append_left _ (List.mem_append_right _ (h)))) 1 (by decide) (List.mem_cons_of_mem _ (List.mem_append_left _ (List.mem_append_left _ (List.mem_of_getElem? (i := 0) rfl)))) rfl (v := .ref (d + 2)) rfl dX1_moneyByVendors_24 ?_
  refine lv_iload_n hx hb dX1_moneyByVendors_27 rfl (lv_at hl 0 rfl) ?_
  refine k_aald hx hb hK (t := 2) rfl (dz_va hP) (by omega) (by decide) (v := d + 2*2 + 11) rfl dX1_moneyByVendors_28 ?_
  refine k_get S hK (dz_v hP 2 c10_2) rfl (fun _ h => List.mem_cons_of_mem _ (List.mem_append_right _ (h))) 4 (by decide) (List.mem_cons_of_mem _ (List.mem_append_left _ (List.mem_append_left _ (List.mem_of_getElem? (i := 2) rfl)))) rfl (v := .int (z 49)) rfl dX1_moneyByVendors_29 ?_
  refine lv_iadd hx hb dX1_moneyByVendors_32 ?_
  refine lv_iadd hx hb dX1_moneyByVendors_33 ?_
  refine lv_istore_n (lv' := [(1, .int ((((nI 0) + ((z 32) + (z 33))) + ((z 40) + (z 41))) + ((z 48) + (z 49)))), (2, .int (nI 2)), (0, .ref d)]) hx hb dX1_moneyByVendors_34 rfl hl (by decide) rfl (fun ls hl => ?_)
  refine lv_iinc (v := nI 3) (lv' := [(2, .int (nI 3)), (1, .int ((((nI 0) + ((z 32) + (z 33))) + ((z 40) + (z 41))) + ((z 48) + (z 49)))), (0, .ref d)]) hx hb dX1_moneyByVendors_35 hl (k := 1) rfl (by decide) (by decide) rfl (fun ls hl => ?_)
  refine lv_goto (tgt := 4) hx hb dX1_moneyByVendors_38 (by decide) ?_
  refine lv_iload_n hx hb dX1_moneyByVendors_4 rfl (lv_at hl 0 rfl) ?_
  refine lv_aload_n hx hb dX1_moneyByVendors_5 rfl (lv_at hl 2 rfl) ?_
  refine k_get S hK (dz_d hP) rfl (fun _ h => List.mem_cons_of_mem _ (List.mem_append_left _ (List.mem_append_right _ (h)))) 1 (by decide) (List.mem_cons_of_mem _ (List.mem_append_left _ (List.mem_append_left _ (List.mem_of_getElem? (i := 0) rfl)))) rfl (v := .ref (d + 2)) rfl dX1_moneyByVendors_6 ?_
  refine k_alen hx hb hK (t := 2) rfl (dz_va hP) dX1_moneyByVendors_9 ?_
  refine k_top (y := nI 4) rfl ?_
  refine n_ige (tgt := 41) hx hb dX1_moneyByVendors_10 (by decide) (by omega) (by omega) (fun h => absurd h (by decide)) (fun c10_3 => ?_)
  refine lv_iload_n hx hb dX1_moneyByVendors_13 rfl (lv_at hl 1 rfl) ?_
  refine lv_aload_n hx hb dX1_moneyByVendors_14 rfl (lv_at hl 2 rfl) ?_
  refine k_get S hK (dz_d hP) rfl (fun _ h => List.mem_cons_of_mem _ (List.mem_append_left _ (List.mem_append_right _ (h)))) 1 (by decide) (List.mem_cons_of_mem _ (List.mem_append_left _ (List.mem_append_left _ (List.mem_of_getElem? (i := 0) rfl)))) rfl (v := .ref (d + 2)) rfl dX1_moneyByVendors_15 ?_
  refine lv_iload_n hx hb dX1_moneyByVendors_18 rfl (lv_at hl 0 rfl) ?_
  refine k_aald hx hb hK (t := 2) rfl (dz_va hP) (by omega) (by decide) (v := d + 2*3 + 11) rfl dX1_moneyByVendors_19 ?_
  refine k_get S hK (dz_v hP 3 c10_3) rfl (fun _ h => List.mem_cons_of_mem _ (List.mem_append_right _ (h))) 3 (by decide) (List.mem_cons_of_mem _ (List.mem_append_left _ (List.mem_append_left _ (List.mem_of_getElem? (i := 1) rfl)))) rfl (v := .int (z 56)) rfl dX1_moneyByVendors_20 ?_
  refine lv_aload_n hx hb dX1_moneyByVendors_23 rfl (lv_at hl 2 rfl) ?_
  refine k_get S hK (dz_d hP) rfl (fun _ h => List.mem_cons_of_mem _ (List.mem_append_left _ (List.mem_append_right _ (h)))) 1 (by decide) (List.mem_cons_of_mem _ (List.mem_append_left _ (List.mem_append_left _ (List.mem_of_getElem? (i := 0) rfl)))) rfl (v := .ref (d + 2)) rfl dX1_moneyByVendors_24 ?_
  refine lv_iload_n hx hb dX1_moneyByVendors_27 rfl (lv_at hl 0 rfl) ?_
  refine k_aald hx hb hK (t := 2) rfl (dz_va hP) (by omega) (by decide) (v := d + 2*3 + 11) rfl dX1_moneyByVendors_28 ?_
  refine k_get S hK (dz_v hP 3 c10_3) rfl (fun _ h => List.mem_cons_of_mem _ (List.mem_append_right _ (h))) 4 (by decide) (List.mem_cons_of_mem _ (List.mem_append_left _ (List.mem_append_left _ (List.mem_of_getElem? (i := 2) rfl)))) rfl (v := .int (z 57)) rfl dX1_moneyByVendors_29 ?_
  refine lv_iadd hx hb dX1_moneyByVendors_32 ?_
  refine lv_iadd hx hb dX1_moneyByVendors_33 ?_
  refine lv_istore_n (lv' := [(1, .int (((((nI 0) + ((z 32) + (z 33))) + ((z 40) + (z 41))) + ((z 48) + (z 49))) + ((z 56) + (z 57)))), (2, .int (nI 3)), (0, .ref d)]) hx hb dX1_moneyByVendors_34 rfl hl (by decide) rfl (fun ls hl => ?_)
  refine lv_iinc (v := nI 4) (lv' := [(2, .int (nI 4)), (1, .int (((((nI 0) + ((z 32) + (z 33))) + ((z 40) + (z 41))) + ((z 48) + (z 49))) + ((z 56) + (z 57)))), (0, .ref d)]) hx hb dX1_moneyByVendors_35 hl (k := 1) rfl (by decide) (by decide) rfl (fun ls hl => ?_)
  refine lv_goto (tgt := 4) hx hb dX1_moneyByVendors_38 (by decide) ?_
  refine lv_iload_n hx hb dX1_moneyByVendors_4 rfl (lv_at hl 0 rfl) ?_
  refine lv_aload_n hx hb dX1_moneyByVendors_5 rfl (lv_at hl 2 rfl) ?_
  refine k_get S hK (dz_d hP) rfl (fun _ h => List.mem_cons_of_mem _ (List.mem_append_left _ (List.mem_append_right _ (h)))) 1 (by decide) (List.mem_cons_of_mem _ (List.mem_append_left _ (List.mem_append_left _ (List.mem_of_getElem? (i := 0) rfl)))) rfl (v := .ref (d + 2)) rfl dX1_moneyByVendors_6 ?_
  refine k_alen hx hb hK (t := 2) rfl (dz_va hP) dX1_moneyByVendors_9 ?_
  refine k_top (y := nI 4) rfl ?_
  refine n_ige (tgt := 41) hx hb dX1_moneyByVendors_10 (by decide) (by omega) (by omega) (fun c10_4 => ?_) (fun h => absurd h (by decide))
  refine lv_iload_n hx hb dX1_moneyByVendors_41 rfl (lv_at hl 1 rfl) ?_
  exact k_iret hx hb hr hlk dX1_moneyByVendors_42 (rfl)
def rm_X1_workshopCost : Room := { frames := 0, cells := 0, slots := 0, locals := 0 }
theorem hd_X1_workshopCost : k_hd1 yX1_workshopCost RX1 0 := by decide +kernel
set_option maxHeartbeats 4000000 in
set_option maxRecDepth 100000 in
theorem c_X1_workshopCost (l : Launch) (E : ke_E) (d : Nat) (z : Nat → Int32) (hI : iv z) : Met l yX1_workshopCost wsX1_workshopCost rm_X1_workshopCost (kp E [.ref d] (dz E d z)) (qp (some (.int (wcN z (cn z))))) 0 0 nof := by
  refine k_hd (cc := cX1_workshopCost) (maxL := 3) (ret := (some .int)) (by decide) rfl (Nat.le_of_ble_eq_true rfl) ?_
  intro p e s m below meth c ls S hr hlk hnm hK hP hl
  have hx := S.1
  have hb := S.2.1
  have hts := S.2.2.2.2
  have hP : dz E d z s.heap := hP
  have hl : lv_has ls 3 [(0, .ref d)] := hl
  have hc20 := iv_c hI
  have J4 : ∀ (n_ : Nat), ∀ (i : Nat), i ≤ cn z → cn z < i + n_ → ∀ (ls : Array Slot), lv_has ls 3 [(0, .ref d), (1, .int (wcN z i)), (2, .int (nI i))] → W p l e (headSpec wsX1_workshopCost rm_X1_workshopCost).room s m ([.ref d] : List Value).toArray below meth c s.heap [] 0 0 (MQ below (qp (some (.int (wcN z (cn z))))) ([.ref d] : List Value).toArray s 0 0 nof) (F0 m 4 ls []) := by
    intro n_
    induction n_ with
    | zero =>
      intro i hi hn_ _ _
      exact absurd hn_ (by omega)
    | succ n_ ih =>
      intro i hi hn_ ls hl
      refine lv_iload_n hx hb dX1_workshopCost_4 rfl (lv_at hl 2 rfl) ?_
      refine lv_aload_n hx hb dX1_workshopCost_5 rfl (lv_at hl 0 rfl) ?_
      refine k_get S hK (dz_d hP) rfl (fun _ h => List.mem_cons_of_mem _ (List.mem_append_left _ (List.mem_append_right _ (h)))) 4 (by decide) (List.mem_cons_of_mem _ (List.mem_append_left _ (List.mem_append_left _ (List.mem_of_getElem? (i := 0) rfl)))) rfl (v := .int (nI (cn z))) (congrArg (fun x => some (Value.int x)) ((iv_n hI))) dX1_workshopCost_6 ?_
      refine n_ige (tgt := 39) hx hb dX1_workshopCost_9 (by decide) (by omega) (by omega) (fun c9 => ?_) (fun c9 => ?_)
      · refine lv_iload_n hx hb dX1_workshopCost_39 rfl (lv_at hl 1 rfl) ?_
        exact k_iret hx hb hr hlk dX1_workshopCost_40 (by rw [show i = cn z by omega])
      · refine lv_iload_n hx hb dX1_workshopCost_12 rfl (lv_at hl 2 rfl) ?_
        refine lv_aload_n hx hb dX1_workshopCost_13 rfl (lv_at hl 0 rfl) ?_
        refine k_get S hK (dz_d hP) rfl (fun _ h => List.mem_cons_of_mem _ (List.mem_append_left _ (List.mem_append_right _ (h)))) 2 (by decide) (List.mem_cons_of_mem _ (List.mem_append_left _ (List.mem_append_left _ (List.mem_of_getElem? (i := 1) rfl)))) rfl (v := .ref (d + 3)) rfl dX1_workshopCost_14 ?_
        refine k_alen hx hb hK (t := 3) rfl (dz_ua hP) dX1_workshopCost_17 ?_
        refine k_top (y := nI 20) rfl ?_
        refine n_ige (tgt := 39) hx hb dX1_workshopCost_18 (by decide) (by omega) (by omega) (fun c18 => ?_) (fun c18 => ?_)
        · refine lv_iload_n hx hb dX1_workshopCost_39 rfl (lv_at hl 1 rfl) ?_
          exact k_iret hx hb hr hlk dX1_workshopCost_40 (by rw [show i = cn z by omega])
        · refine lv_iload_n hx hb dX1_workshopCost_21 rfl (lv_at hl 1 rfl) ?_
          refine lv_aload_n hx hb dX1_workshopCost_22 rfl (lv_at hl 0 rfl) ?_
          refine k_get S hK (dz_d hP) rfl (fun _ h => List.mem_cons_of_mem _ (List.mem_append_left _ (List.mem_append_right _ (h)))) 2 (by decide) (List.mem_cons_of_mem _ (List.mem_append_left _ (List.mem_append_left _ (List.mem_of_getElem? (i := 1) rfl)))) rfl (v := .ref (d + 3)) rfl dX1_workshopCost_23 ?_
          refine lv_iload_n hx hb dX1_workshopCost_26 rfl (lv_at hl 2 rfl) ?_
          refine k_aald hx hb hK (t := 3) rfl (dz_ua hP) (by omega) (by decide) (v := d + 2*i + 19) rfl dX1_workshopCost_27 ?_
          refine k_get S hK (dz_u hP i c9) rfl (fun _ h => List.mem_cons_of_mem _ (List.mem_append_right _ (h))) 9 (by decide) (List.mem_cons_of_mem _ (List.mem_append_left _ (List.mem_append_left _ (List.mem_of_getElem? (i := 2) rfl)))) rfl (v := .int (z (13*i + 74))) rfl dX1_workshopCost_28 ?_
          refine lv_iadd hx hb dX1_workshopCost_31 ?_
          refine lv_istore_n (lv' := [(1, .int ((wcN z i) + (z (13*i + 74)))), (0, .ref d), (2, .int (nI i))]) hx hb dX1_workshopCost_32 rfl hl (by decide) rfl (fun ls hl => ?_)
          refine lv_iinc (v := nI (i + 1)) (lv' := [(2, .int (nI (i + 1))), (1, .int ((wcN z i) + (z (13*i + 74)))), (0, .ref d)]) hx hb dX1_workshopCost_33 hl (k := 2) rfl (inc_1 _) (by decide) rfl (fun ls hl => ?_)
          refine lv_goto (tgt := 4) hx hb dX1_workshopCost_36 (by decide) ?_
          have hl : lv_has ls 3 [(0, .ref d), (1, .int (wcN z (i + 1))), (2, .int (nI (i + 1)))] := by
            have h9 := lv_sub (l' := [(0, .ref d), (1, .int ((wcN z i) + (z (13*i + 74)))), (2, .int (nI (i + 1)))]) hl [2, 1, 0] rfl
            rw [show (.int (wcN z (i + 1)) : Value) = .int ((wcN z i) + (z (13*i + 74))) from congrArg Value.int rfl]
            exact h9
          exact ih (i + 1) (by omega) (by omega) _ hl
  refine lv_iconst (v := nI 0) hx hb dX1_workshopCost_0 (by decide) ?_
  refine lv_istore_n (lv' := [(1, .int (nI 0)), (0, .ref d)]) hx hb dX1_workshopCost_1 rfl hl (by decide) rfl (fun ls hl => ?_)
  refine lv_iconst (v := nI 0) hx hb dX1_workshopCost_2 (by decide) ?_
  refine lv_istore_n (lv' := [(2, .int (nI 0)), (1, .int (nI 0)), (0, .ref d)]) hx hb dX1_workshopCost_3 rfl hl (by decide) rfl (fun ls hl => ?_)
  have hl : lv_has ls 3 [(0, .ref d), (1, .int (wcN z 0)), (2, .int (nI 0))] := by
    have h9 := lv_sub (l' := [(0, .ref d), (1, .int (nI 0)), (2, .int (nI 0))]) hl [2, 1, 0] rfl
    rw [show (.int (wcN z 0) : Value) = .int (nI 0) from congrArg Value.int rfl]
    exact h9
  exact J4 (cn z + 1) 0 (by omega) (by omega) _ hl
def rm_X1_costOfAllUnits : Room := { frames := 2, cells := 0, slots := 0, locals := 42 }
theorem hd_X1_costOfAllUnits : k_hd1 yX1_costOfAllUnits RX1 0 := by decide +kernel
set_option maxHeartbeats 4000000 in
set_option maxRecDepth 100000 in
theorem c_X1_costOfAllUnits (l : Launch) (E : ke_E) (d : Nat) (z : Nat → Int32) (hI : iv z) : Met l yX1_costOfAllUnits wsX1_costOfAllUnits rm_X1_costOfAllUnits (kp E [.ref d] (dz E d z)) (qp (some (.int (coN z (cn z))))) 0 0 nof := by
  refine k_hd (cc := cX1_costOfAllUnits) (maxL := 3) (ret := (some .int)) (by decide) rfl (Nat.le_of_ble_eq_true rfl) ?_
  intro p e s m below meth c ls S hr hlk hnm hK hP hl
  have hx := S.1
  have hb := S.2.1
  have hts := S.2.2.2.2
  have hP : dz E d z s.heap := hP
  have hl : lv_has ls 3 [(0, .ref d)] := hl
  have hc20 := iv_c hI
  have J4 : ∀ (n_ : Nat), ∀ (i : Nat), i ≤ cn z → cn z < i + n_ → ∀ (ls : Array Slot), lv_has ls 3 [(0, .ref d), (1, .int (coN z i)), (2, .int (nI i))] → W p l e (headSpec wsX1_costOfAllUnits rm_X1_costOfAllUnits).room s m ([.ref d] : List Value).toArray below meth c s.heap [] 0 0 (MQ below (qp (some (.int (coN z (cn z))))) ([.ref d] : List Value).toArray s 0 0 nof) (F0 m 4 ls []) := by
    intro n_
    induction n_ with
    | zero =>
      intro i hi hn_ _ _
      exact absurd hn_ (by omega)
    | succ n_ ih =>
      intro i hi hn_ ls hl
      refine lv_iload_n hx hb dX1_costOfAllUnits_4 rfl (lv_at hl 2 rfl) ?_
      refine lv_aload_n hx hb dX1_costOfAllUnits_5 rfl (lv_at hl 0 rfl) ?_
      refine k_get S hK (dz_d hP) rfl (fun _ h => List.mem_cons_of_mem _ (List.mem_append_left _ (List.mem_append_left _ (List.mem_append_right _ (h))))) 4 (by decide) (List.mem_cons_of_mem _ (List.mem_append_left _ (List.mem_append_left _ (List.mem_append_left _ (List.mem_of_getElem? (i := 0) rfl))))) rfl (v := .int (nI (cn z))) (congrArg (fun x => some (Value.int x)) ((iv_n hI))) dX1_costOfAllUnits_6 ?_
      refine n_ige (tgt := 43) hx hb dX1_costOfAllUnits_9 (by decide) (by omega) (by omega) (fun c9 => ?_) (fun c9 => ?_)
      · refine lv_iload_n hx hb dX1_costOfAllUnits_43 rfl (lv_at hl 1 rfl) ?_
        exact k_iret hx hb hr hlk dX1_costOfAllUnits_44 (by rw [show i = cn z by omega])
      · refine lv_iload_n hx hb dX1_costOfAllUnits_12 rfl (lv_at hl 2 rfl) ?_
        refine lv_aload_n hx hb dX1_costOfAllUnits_13 rfl (lv_at hl 0 rfl) ?_
        refine k_get S hK (dz_d hP) rfl (fun _ h => List.mem_cons_of_mem _ (List.mem_append_left _ (List.mem_append_left _ (List.mem_append_right _ (h))))) 2 (by decide) (List.mem_cons_of_mem _ (List.mem_append_left _ (List.mem_append_left _ (List.mem_append_left _ (List.mem_of_getElem? (i := 1) rfl))))) rfl (v := .ref (d + 3)) rfl dX1_costOfAllUnits_14 ?_
        refine k_alen hx hb hK (t := 3) rfl (dz_ua hP) dX1_costOfAllUnits_17 ?_
        refine k_top (y := nI 20) rfl ?_
        refine n_ige (tgt := 43) hx hb dX1_costOfAllUnits_18 (by decide) (by omega) (by omega) (fun c18 => ?_) (fun c18 => ?_)
        · refine lv_iload_n hx hb dX1_costOfAllUnits_43 rfl (lv_at hl 1 rfl) ?_
          exact k_iret hx hb hr hlk dX1_costOfAllUnits_44 (by rw [show i = cn z by omega])
        · refine lv_iload_n hx hb dX1_costOfAllUnits_21 rfl (lv_at hl 1 rfl) ?_
          refine lv_aload_n hx hb dX1_costOfAllUnits_22 rfl (lv_at hl 0 rfl) ?_
          refine lv_aload_n hx hb dX1_costOfAllUnits_23 rfl (lv_at hl 0 rfl) ?_
          refine k_get S hK (dz_d hP) rfl (fun _ h => List.mem_cons_of_mem _ (List.mem_append_left _ (List.mem_append_left _ (List.mem_append_right _ (h))))) 2 (by decide) (List.mem_cons_of_mem _ (List.mem_append_left _ (List.mem_append_left _ (List.mem_append_left _ (List.mem_of_getElem? (i := 1) rfl))))) rfl (v := .ref (d + 3)) rfl dX1_costOfAllUnits_24 ?_
          refine lv_iload_n hx hb dX1_costOfAllUnits_27 rfl (lv_at hl 2 rfl) ?_
          refine k_aald hx hb hK (t := 3) rfl (dz_ua hP) (by omega) (by decide) (v := d + 2*i + 19) rfl dX1_costOfAllUnits_28 ?_
          refine k_V (As := [.ref (d + 2*i + 19)]) (rest := [.int (coN z i)]) S hK (c_X1_productUnder l E d z i hI c9) gX1_costOfAllUnits_X1_productUnder rfl hd_X1_productUnder ⟨rfl, rfl⟩ ⟨Nat.le_of_ble_eq_true rfl, Nat.le_of_ble_eq_true rfl⟩ (k_recv hK (dz_d hP) rfl) hP rfl hl.1 rfl (Nat.le_of_ble_eq_true rfl) dX1_costOfAllUnits_29 ⟨Nat.le_of_ble_eq_true rfl, Nat.le_of_ble_eq_true rfl⟩ ?_
          refine k_get S hK (dz_p hP (up z i) (iv_upl hI (by omega))) rfl (fun _ h => List.mem_cons_of_mem _ (List.mem_append_left _ (List.mem_append_right _ (h)))) 0 (by decide) (List.mem_cons_of_mem _ (List.mem_append_left _ (List.mem_append_left _ (List.mem_append_left _ (List.mem_of_getElem? (i := 2) rfl))))) rfl (v := .int (z (3*up z i + 12))) rfl dX1_costOfAllUnits_32 ?_
          refine lv_iadd hx hb dX1_costOfAllUnits_35 ?_
          refine lv_istore_n (lv' := [(1, .int ((coN z i) + (z (3*up z i + 12)))), (0, .ref d), (2, .int (nI i))]) hx hb dX1_costOfAllUnits_36 rfl hl (by decide) rfl (fun ls hl => ?_)
          refine lv_iinc (v := nI (i + 1)) (lv' := [(2, .int (nI (i + 1))), (1, .int ((coN z i) + (z (3*up z i + 12)))), (0, .ref d)]) hx hb dX1_costOfAllUnits_37 hl (k := 2) rfl (inc_1 _) (by decide) rfl (fun ls hl => ?_)
          refine lv_goto (tgt := 4) hx hb dX1_costOfAllUnits_40 (by decide) ?_
          have hl : lv_has ls 3 [(0, .ref d), (1, .int (coN z (i + 1))), (2, .int (nI (i + 1)))] := by
            have h9 := lv_sub (l' := [(0, .ref d), (1, .int ((coN z i) + (z (3*up z i + 12)))), (2, .int (nI (i + 1)))]) hl [2, 1, 0] rfl
            rw [show (.int (coN z (i + 1)) : Value) = .int ((coN z i) + (z (3*up z i + 12))) from congrArg Value.int rfl]
            exact h9
          exact ih (i + 1) (by omega) (by omega) _ hl
  refine lv_iconst (v := nI 0) hx hb dX1_costOfAllUnits_0 (by decide) ?_
  refine lv_istore_n (lv' := [(1, .int (nI 0)), (0, .ref d)]) hx hb dX1_costOfAllUnits_1 rfl hl (by decide) rfl (fun ls hl => ?_)
  refine lv_iconst (v := nI 0) hx hb dX1_costOfAllUnits_2 (by decide) ?_
  refine lv_istore_n (lv' := [(2, .int (nI 0)), (1, .int (nI 0)), (0, .ref d)]) hx hb dX1_costOfAllUnits_3 rfl hl (by decide) rfl (fun ls hl => ?_)
  have hl : lv_has ls 3 [(0, .ref d), (1, .int (coN z 0)), (2, .int (nI 0))] := by
    have h9 := lv_sub (l' := [(0, .ref d), (1, .int (nI 0)), (2, .int (nI 0))]) hl [2, 1, 0] rfl
    rw [show (.int (coN z 0) : Value) = .int (nI 0) from congrArg Value.int rfl]
    exact h9
  exact J4 (cn z + 1) 0 (by omega) (by omega) _ hl
def rm_X1_rankOf_0 : Room := { frames := 3, cells := 0, slots := 0, locals := 60 }
theorem hd_X1_rankOf : k_hd1 yX1_rankOf RX1 3 := by decide +kernel
set_option maxHeartbeats 4000000 in
set_option maxRecDepth 100000 in
theorem c_X1_rankOf_0 (l : Launch) (E : ke_E) (d : Nat) (z : Nat → Int32) (i : Nat) (hI : iv z) (hu : i < cn z) : Met l yX1_rankOf wsX1_rankOf rm_X1_rankOf_0 (kp E [.ref d, .int (nI i), .ref (d + 2*i + 19), .int (nI 0)] (dz E d z)) (qp (some (.int (oI ((rkW z (nI 1)) i))))) 0 0 nof := by
  refine k_hd (cc := cX1_rankOf) (maxL := 5) (ret := (some .int)) (by decide) rfl (Nat.le_of_ble_eq_true rfl) ?_
  intro p e s m below meth c ls S hr hlk hnm hK hP hl
  have hx := S.1
  have hb := S.2.1
  have hts := S.2.2.2.2
  have hP : dz E d z s.heap := hP
  have hl : lv_has ls 5 [(0, .ref d), (1, .int (nI i)), (2, .ref (d + 2*i + 19)), (3, .int (nI 0))] := hl
  have hc20 := iv_c hI
  have hup6 := iv_upl hI hu
  refine lv_iload_n hx hb dX1_rankOf_0 rfl (lv_at hl 3 rfl) ?_
  refine lv_iconst (v := nI 2) hx hb dX1_rankOf_1 (by decide) ?_
  refine n_ine (tgt := 23) hx hb dX1_rankOf_2 (by decide) (by omega) (by omega) (fun c2 => ?_) (fun h => absurd h (by decide))
  refine lv_aload_n hx hb dX1_rankOf_23 rfl (lv_at hl 2 rfl) ?_
  refine k_get S hK (dz_u hP i hu) rfl (fun _ h => List.mem_cons_of_mem _ (List.mem_append_left _ (List.mem_append_left _ (List.mem_append_right _ (h))))) 3 (by decide) (List.mem_cons_of_mem _ (List.mem_append_left _ (List.mem_append_left _ (List.mem_append_left _ (List.mem_append_left _ (List.mem_of_getElem? (i := 1) rfl)))))) rfl (v := .int (z (13*i + 68))) rfl dX1_rankOf_24 ?_
  refine lv_iconst (v := nI 1) hx hb dX1_rankOf_27 (by decide) ?_
  refine lv_icmp_ne (tgt := 44) hx hb dX1_rankOf_28 (by decide) (fun c28 => ?_) (fun c28 => ?_)
  · refine lv_iconst (v := (-1)) hx hb dX1_rankOf_44 (by decide) ?_
    exact k_iret hx hb hr hlk dX1_rankOf_45 (congrArg oI (rkW_n (fun h => c28 h.1)))
  · refine lv_iload_n hx hb dX1_rankOf_31 rfl (lv_at hl 3 rfl) ?_
    refine lv_iconst (v := nI 1) hx hb dX1_rankOf_32 (by decide) ?_
    refine n_ine (tgt := 46) hx hb dX1_rankOf_33 (by decide) (by omega) (by omega) (fun c33 => ?_) (fun h => absurd h (by decide))
    refine lv_aload_n hx hb dX1_rankOf_46 rfl (lv_at hl 0 rfl) ?_
    refine lv_aload_n hx hb dX1_rankOf_47 rfl (lv_at hl 2 rfl) ?_
    refine k_V (As := [.ref (d + 2*i + 19)]) (rest := []) S hK (c_X1_gradeOf l E d z i hI hu) gX1_rankOf_X1_gradeOf rfl hd_X1_gradeOf ⟨rfl, rfl⟩ ⟨Nat.le_of_ble_eq_true rfl, Nat.le_of_ble_eq_true rfl⟩ (k_recv hK (dz_d hP) rfl) hP rfl hl.1 rfl (Nat.le_of_ble_eq_true rfl) dX1_rankOf_48 ⟨Nat.le_of_ble_eq_true rfl, Nat.le_of_ble_eq_true rfl⟩ ?_
    refine lv_sipush (v := nI 10000) hx hb dX1_rankOf_51 (by decide) ?_
    refine lv_imul hx hb dX1_rankOf_54 ?_
    refine lv_aload_n hx hb dX1_rankOf_55 rfl (lv_at hl 0 rfl) ?_
    refine lv_aload_n hx hb dX1_rankOf_56 rfl (lv_at hl 2 rfl) ?_
    refine k_V (As := [.ref (d + 2*i + 19)]) (rest := [.int ((grT z i) * (nI 10000))]) S hK (c_X1_productUnder l E d z i hI hu) gX1_rankOf_X1_productUnder rfl hd_X1_productUnder ⟨rfl, rfl⟩ ⟨Nat.le_of_ble_eq_true rfl, Nat.le_of_ble_eq_true rfl⟩ (k_recv hK (dz_d hP) rfl) hP rfl hl.1 rfl (Nat.le_of_ble_eq_true rfl) dX1_rankOf_57 ⟨Nat.le_of_ble_eq_true rfl, Nat.le_of_ble_eq_true rfl⟩ ?_
    refine k_get S hK (dz_p hP (up z i) (by omega)) rfl (fun _ h => List.mem_cons_of_mem _ (List.mem_append_left _ (List.mem_append_right _ (h)))) 0 (by decide) (List.mem_cons_of_mem _ (List.mem_append_left _ (List.mem_append_left _ (List.mem_append_left _ (List.mem_append_left _ (List.mem_of_getElem? (i := 2) rfl)))))) rfl (v := .int (z (3*up z i + 12))) rfl dX1_rankOf_60 ?_
    refine lv_iadd hx hb dX1_rankOf_63 ?_
    refine lv_istore (lv' := [(4, .int (((grT z i) * (nI 10000)) + (z (3*up z i + 12)))), (0, .ref d), (1, .int (nI i)), (2, .ref (d + 2*i + 19)), (3, .int (nI 0))]) hx hb dX1_rankOf_64 hl (by decide) rfl (fun ls hl => ?_)
    refine lv_iload hx hb dX1_rankOf_66 (lv_at hl 0 rfl) ?_
    refine lv_bipush (v := nI 20) hx hb dX1_rankOf_68 (by decide) ?_
    refine lv_imul hx hb dX1_rankOf_70 ?_
    refine lv_bipush (v := nI 19) hx hb dX1_rankOf_71 (by decide) ?_
    refine lv_iload_n hx hb dX1_rankOf_73 rfl (lv_at hl 2 rfl) ?_
    refine lv_isub hx hb dX1_rankOf_74 ?_
    refine lv_iadd hx hb dX1_rankOf_75 ?_
    exact k_iret hx hb hr hlk dX1_rankOf_76 ((congrArg oI (rkW_s ⟨c28, Or.inl nI_ne10⟩)).trans (rkW_e hI hu c28).symm)
def rm_X1_nextRank_0 : Room := { frames := 4, cells := 0, slots := 0, locals := 84 }
theorem hd_X1_nextRank : k_hd1 yX1_nextRank RX1 2 := by decide +kernel
set_option maxHeartbeats 4000000 in
set_option maxRecDepth 100000 in
theorem c_X1_nextRank_0 (l : Launch) (E : ke_E) (d : Nat) (z : Nat → Int32) (b : Nat) (hI : iv z) (hb9 : b ≤ 2147483647) : Met l yX1_nextRank wsX1_nextRank rm_X1_nextRank_0 (kp E [.ref d, .int (nI b), .int (nI 0)] (dz E d z)) (qp (some (.int (oI (nrk (rkW z (nI 1)) b (cn z)))))) 0 0 nof := by
  refine k_hd (cc := cX1_nextRank) (maxL := 6) (ret := (some .int)) (by decide) rfl (Nat.le_of_ble_eq_true rfl) ?_
  intro p e s m below meth c ls S hr hlk hnm hK hP hl
  have hx := S.1
  have hb := S.2.1
  have hts := S.2.2.2.2
  have hP : dz E d z s.heap := hP
  have hl : lv_has ls 6 [(0, .ref d), (1, .int (nI b)), (2, .int (nI 0))] := hl
  have hc20 := iv_c hI
  have J5 : ∀ (n_ : Nat), ∀ (i : Nat), ∀ (nx : Option Nat), i ≤ cn z → nrk (rkW z (nI 1)) b i = nx → cn z < i + n_ → ∀ (ls : Array Slot), lv_has ls 6 [(0, .ref d), (1, .int (nI b)), (2, .int (nI 0)), (3, .int (oI nx)), (4, .int (nI i))] → W p l e (headSpec wsX1_nextRank rm_X1_nextRank_0).room s m ([.ref d, .int (nI b), .int (nI 0)] : List Value).toArray below meth c s.heap [] 0 0 (MQ below (qp (some (.int (oI (nrk (rkW z (nI 1)) b (cn z)))))) ([.ref d, .int (nI b), .int (nI 0)] : List Value).toArray s 0 0 nof) (F0 m 5 ls []) := by
    intro n_
    induction n_ with
    | zero =>
      intro i nx hi hnx hn_ _ _
      exact absurd hn_ (by omega)
    | succ n_ ih =>
      intro i nx hi hnx hn_ ls hl
      refine lv_iload hx hb dX1_nextRank_5 (lv_at hl 4 rfl) ?_
      refine lv_aload_n hx hb dX1_nextRank_7 rfl (lv_at hl 0 rfl) ?_
      refine k_get S hK (dz_d hP) rfl (fun _ h => List.mem_cons_of_mem _ (List.mem_append_left _ (List.mem_append_left _ (List.mem_append_right _ (h))))) 4 (by decide) (List.mem_cons_of_mem _ (List.mem_append_left _ (List.mem_append_left _ (List.mem_append_left _ (List.mem_append_left _ (List.mem_of_getElem? (i := 0) rfl)))))) rfl (v := .int (nI (cn z))) (congrArg (fun x => some (Value.int x)) ((iv_n hI))) dX1_nextRank_8 ?_
      refine n_ige (tgt := 61) hx hb dX1_nextRank_11 (by decide) (by omega) (by omega) (fun c11 => ?_) (fun c11 => ?_)
      · refine lv_iload_n hx hb dX1_nextRank_61 rfl (lv_at hl 3 rfl) ?_
        exact k_iret hx hb hr hlk dX1_nextRank_62 (by rw [← hnx, show i = cn z by omega])
      · refine lv_iload hx hb dX1_nextRank_14 (lv_at hl 4 rfl) ?_
        refine lv_aload_n hx hb dX1_nextRank_16 rfl (lv_at hl 0 rfl) ?_
        refine k_get S hK (dz_d hP) rfl (fun _ h => List.mem_cons_of_mem _ (List.mem_append_left _ (List.mem_append_left _ (List.mem_append_right _ (h))))) 2 (by decide) (List.mem_cons_of_mem _ (List.mem_append_left _ (List.mem_append_left _ (List.mem_append_left _ (List.mem_append_left _ (List.mem_of_getElem? (i := 1) rfl)))))) rfl (v := .ref (d + 3)) rfl dX1_nextRank_17 ?_
        refine k_alen hx hb hK (t := 3) rfl (dz_ua hP) dX1_nextRank_20 ?_
        refine k_top (y := nI 20) rfl ?_
        refine n_ige (tgt := 61) hx hb dX1_nextRank_21 (by decide) (by omega) (by omega) (fun c21 => ?_) (fun c21 => ?_)
        · refine lv_iload_n hx hb dX1_nextRank_61 rfl (lv_at hl 3 rfl) ?_
          exact k_iret hx hb hr hlk dX1_nextRank_62 (by rw [← hnx, show i = cn z by omega])
        · refine lv_aload_n hx hb dX1_nextRank_24 rfl (lv_at hl 0 rfl) ?_
          refine lv_iload hx hb dX1_nextRank_25 (lv_at hl 4 rfl) ?_
          refine lv_aload_n hx hb dX1_nextRank_27 rfl (lv_at hl 0 rfl) ?_
          refine k_get S hK (dz_d hP) rfl (fun _ h => List.mem_cons_of_mem _ (List.mem_append_left _ (List.mem_append_left _ (List.mem_append_right _ (h))))) 2 (by decide) (List.mem_cons_of_mem _ (List.mem_append_left _ (List.mem_append_left _ (List.mem_append_left _ (List.mem_append_left _ (List.mem_of_getElem? (i := 1) rfl)))))) rfl (v := .ref (d + 3)) rfl dX1_nextRank_28 ?_
          refine lv_iload hx hb dX1_nextRank_31 (lv_at hl 4 rfl) ?_
          refine k_aald hx hb hK (t := 3) rfl (dz_ua hP) (by omega) (by decide) (v := d + 2*i + 19) rfl dX1_nextRank_33 ?_
          refine lv_iload_n hx hb dX1_nextRank_34 rfl (lv_at hl 2 rfl) ?_
          refine k_V (As := [.int (nI i), .ref (d + 2*i + 19), .int (nI 0)]) (rest := []) S hK (c_X1_rankOf_0 l E d z i hI c11) gX1_nextRank_X1_rankOf rfl hd_X1_rankOf ⟨rfl, rfl⟩ ⟨Nat.le_of_ble_eq_true rfl, Nat.le_of_ble_eq_true rfl⟩ (k_recv hK (dz_d hP) rfl) hP rfl hl.1 rfl (Nat.le_of_ble_eq_true rfl) dX1_nextRank_35 ⟨Nat.le_of_ble_eq_true rfl, Nat.le_of_ble_eq_true rfl⟩ ?_
          refine lv_istore (lv' := [(5, .int (oI ((rkW z (nI 1)) i))), (0, .ref d), (1, .int (nI b)), (2, .int (nI 0)), (3, .int (oI nx)), (4, .int (nI i))]) hx hb dX1_nextRank_38 hl (by decide) rfl (fun ls hl => ?_)
          rcases Option.eq_none_or_eq_some ((rkW z (nI 1)) i) with hR9 | ⟨r9, hR9⟩
          · have hz9 := hI
            have hl : lv_has ls 6 [(5, .int (-1)), (0, .ref d), (1, .int (nI b)), (2, .int (nI 0)), (3, .int (oI nx)), (4, .int (nI i))] := by have h9 := hl; rw [hR9] at h9; exact h9
            rcases nx with _ | m9
            · have hl : lv_has ls 6 [(5, .int (-1)), (0, .ref d), (1, .int (nI b)), (2, .int (nI 0)), (3, .int (-1)), (4, .int (nI i))] := hl
              refine lv_iload hx hb dX1_nextRank_40 (lv_at hl 0 rfl) ?_
              refine lv_iload_n hx hb dX1_nextRank_42 rfl (lv_at hl 4 rfl) ?_
              refine lv_icmp_le (tgt := 55) hx hb dX1_nextRank_43 (by decide) (fun c43 => ?_) (fun h => absurd (Int32.le_refl _) h)
              refine lv_iinc (v := nI (i + 1)) (lv' := [(4, .int (nI (i + 1))), (5, .int (-1)), (0, .ref d), (1, .int (nI b)), (2, .int (nI 0)), (3, .int (-1))]) hx hb dX1_nextRank_55 hl (k := 5) rfl (inc_1 _) (by decide) rfl (fun ls hl => ?_)
              refine lv_goto (tgt := 5) hx hb dX1_nextRank_58 (by decide) ?_
              have hl : lv_has ls 6 [(0, .ref d), (1, .int (nI b)), (2, .int (nI 0)), (3, .int (oI none)), (4, .int (nI (i + 1)))] := by
                have h9 := lv_sub (l' := [(0, .ref d), (1, .int (nI b)), (2, .int (nI 0)), (3, .int (-1)), (4, .int (nI (i + 1)))]) hl [2, 3, 4, 5, 0] rfl
                rw [show (.int (oI none) : Value) = .int (-1) from congrArg Value.int rfl]
                exact h9
              exact ih (i + 1) none (by omega) ((nrk_n hR9).trans hnx) (by omega) _ hl
            · have hl : lv_has ls 6 [(5, .int (-1)), (0, .ref d), (1, .int (nI b)), (2, .int (nI 0)), (3, .int (nI m9)), (4, .int (nI i))] := hl
              have hm9 := (nrk_lt (fun i r hi => (rkW_ok hI) i r (by omega)) hnx).2.2.2
              refine lv_iload hx hb dX1_nextRank_40 (lv_at hl 0 rfl) ?_
              refine lv_iload_n hx hb dX1_nextRank_42 rfl (lv_at hl 4 rfl) ?_
              refine lv_icmp_le (tgt := 55) hx hb dX1_nextRank_43 (by decide) (fun c43 => ?_) (fun h => absurd (m1_le (by omega)) h)
              refine lv_iinc (v := nI (i + 1)) (lv' := [(4, .int (nI (i + 1))), (5, .int (-1)), (0, .ref d), (1, .int (nI b)), (2, .int (nI 0)), (3, .int (nI m9))]) hx hb dX1_nextRank_55 hl (k := 5) rfl (inc_1 _) (by decide) rfl (fun ls hl => ?_)
              refine lv_goto (tgt := 5) hx hb dX1_nextRank_58 (by decide) ?_
              have hl : lv_has ls 6 [(0, .ref d), (1, .int (nI b)), (2, .int (nI 0)), (3, .int (oI (some m9))), (4, .int (nI (i + 1)))] := by
                have h9 := lv_sub (l' := [(0, .ref d), (1, .int (nI b)), (2, .int (nI 0)), (3, .int (nI m9)), (4, .int (nI (i + 1)))]) hl [2, 3, 4, 5, 0] rfl
                rw [show (.int (oI (some m9)) : Value) = .int (nI m9) from congrArg Value.int rfl]
                exact h9
              exact ih (i + 1) (some m9) (by omega) ((nrk_n hR9).trans hnx) (by omega) _ hl
          · have hr9 := ((rkW_ok hI) i r9 (by omega) hR9).2
            have hl : lv_has ls 6 [(5, .int (nI r9)), (0, .ref d), (1, .int (nI b)), (2, .int (nI 0)), (3, .int (oI nx)), (4, .int (nI i))] := by have h9 := hl; rw [hR9] at h9; exact h9
            rcases nx with _ | m9
            · have hl : lv_has ls 6 [(5, .int (nI r9)), (0, .ref d), (1, .int (nI b)), (2, .int (nI 0)), (3, .int (-1)), (4, .int (nI i))] := hl
              refine lv_iload hx hb dX1_nextRank_40 (lv_at hl 0 rfl) ?_
              refine lv_iload_n hx hb dX1_nextRank_42 rfl (lv_at hl 4 rfl) ?_
              refine lv_icmp_le (tgt := 55) hx hb dX1_nextRank_43 (by decide) (fun h => absurd h (nI_nlm1 (by omega))) (fun c43 => ?_)
              refine lv_iload hx hb dX1_nextRank_46 (lv_at hl 0 rfl) ?_
              refine lv_iload_n hx hb dX1_nextRank_48 rfl (lv_at hl 2 rfl) ?_
              refine n_ige (tgt := 55) hx hb dX1_nextRank_49 (by decide) (by omega) (by omega) (fun c49 => ?_) (fun c49 => ?_)
              · refine lv_iinc (v := nI (i + 1)) (lv' := [(4, .int (nI (i + 1))), (5, .int (nI r9)), (0, .ref d), (1, .int (nI b)), (2, .int (nI 0)), (3, .int (-1))]) hx hb dX1_nextRank_55 hl (k := 5) rfl (inc_1 _) (by decide) rfl (fun ls hl => ?_)
                refine lv_goto (tgt := 5) hx hb dX1_nextRank_58 (by decide) ?_
                have hl : lv_has ls 6 [(0, .ref d), (1, .int (nI b)), (2, .int (nI 0)), (3, .int (oI none)), (4, .int (nI (i + 1)))] := by
                  have h9 := lv_sub (l' := [(0, .ref d), (1, .int (nI b)), (2, .int (nI 0)), (3, .int (-1)), (4, .int (nI (i + 1)))]) hl [2, 3, 4, 5, 0] rfl
                  rw [show (.int (oI none) : Value) = .int (-1) from congrArg Value.int rfl]
                  exact h9
                exact ih (i + 1) none (by omega) ((nrk_s hR9).trans ((iF_f (fun h => absurd h.1 (by omega))).trans hnx)) (by omega) _ hl
              · refine lv_iload hx hb dX1_nextRank_52 (lv_at hl 0 rfl) ?_
                refine lv_istore_n (lv' := [(3, .int (nI r9)), (5, .int (nI r9)), (0, .ref d), (1, .int (nI b)), (2, .int (nI 0)), (4, .int (nI i))]) hx hb dX1_nextRank_54 rfl hl (by decide) rfl (fun ls hl => ?_)
                refine lv_iinc (v := nI (i + 1)) (lv' := [(4, .int (nI (i + 1))), (3, .int (nI r9)), (5, .int (nI r9)), (0, .ref d), (1, .int (nI b)), (2, .int (nI 0))]) hx hb dX1_nextRank_55 hl (k := 5) rfl (inc_1 _) (by decide) rfl (fun ls hl => ?_)
                refine lv_goto (tgt := 5) hx hb dX1_nextRank_58 (by decide) ?_
                have hl : lv_has ls 6 [(0, .ref d), (1, .int (nI b)), (2, .int (nI 0)), (3, .int (oI (some r9))), (4, .int (nI (i + 1)))] := by
                  have h9 := lv_sub (l' := [(0, .ref d), (1, .int (nI b)), (2, .int (nI 0)), (3, .int (nI r9)), (4, .int (nI (i + 1)))]) hl [3, 4, 5, 1, 0] rfl
                  rw [show (.int (oI (some r9)) : Value) = .int (nI r9) from congrArg Value.int rfl]
                  exact h9
                exact ih (i + 1) (some r9) (by omega) ((nrk_s hR9).trans (iF_t ⟨by omega, fun m h => by (rw [hnx] at h; cases h)⟩)) (by omega) _ hl
            · have hl : lv_has ls 6 [(5, .int (nI r9)), (0, .ref d), (1, .int (nI b)), (2, .int (nI 0)), (3, .int (nI m9)), (4, .int (nI i))] := hl
              have hm9 := (nrk_lt (fun i r hi => (rkW_ok hI) i r (by omega)) hnx).2.2.2
              refine lv_iload hx hb dX1_nextRank_40 (lv_at hl 0 rfl) ?_
              refine lv_iload_n hx hb dX1_nextRank_42 rfl (lv_at hl 4 rfl) ?_
              refine n_ile (tgt := 55) hx hb dX1_nextRank_43 (by decide) (by omega) (by omega) (fun c43 => ?_) (fun c43 => ?_)
              · refine lv_iinc (v := nI (i + 1)) (lv' := [(4, .int (nI (i + 1))), (5, .int (nI r9)), (0, .ref d), (1, .int (nI b)), (2, .int (nI 0)), (3, .int (nI m9))]) hx hb dX1_nextRank_55 hl (k := 5) rfl (inc_1 _) (by decide) rfl (fun ls hl => ?_)
                refine lv_goto (tgt := 5) hx hb dX1_nextRank_58 (by decide) ?_
                have hl : lv_has ls 6 [(0, .ref d), (1, .int (nI b)), (2, .int (nI 0)), (3, .int (oI (some m9))), (4, .int (nI (i + 1)))] := by
                  have h9 := lv_sub (l' := [(0, .ref d), (1, .int (nI b)), (2, .int (nI 0)), (3, .int (nI m9)), (4, .int (nI (i + 1)))]) hl [2, 3, 4, 5, 0] rfl
                  rw [show (.int (oI (some m9)) : Value) = .int (nI m9) from congrArg Value.int rfl]
                  exact h9
                exact ih (i + 1) (some m9) (by omega) ((nrk_s hR9).trans ((iF_f (fun h => absurd (h.2 m9 hnx) (by omega))).trans hnx)) (by omega) _ hl
              · refine lv_iload hx hb dX1_nextRank_46 (lv_at hl 0 rfl) ?_
                refine lv_iload_n hx hb dX1_nextRank_48 rfl (lv_at hl 2 rfl) ?_
                refine n_ige (tgt := 55) hx hb dX1_nextRank_49 (by decide) (by omega) (by omega) (fun c49 => ?_) (fun c49 => ?_)
                · refine lv_iinc (v := nI (i + 1)) (lv' := [(4, .int (nI (i + 1))), (5, .int (nI r9)), (0, .ref d), (1, .int (nI b)), (2, .int (nI 0)), (3, .int (nI m9))]) hx hb dX1_nextRank_55 hl (k := 5) rfl (inc_1 _) (by decide) rfl (fun ls hl => ?_)
                  refine lv_goto (tgt := 5) hx hb dX1_nextRank_58 (by decide) ?_
                  have hl : lv_has ls 6 [(0, .ref d), (1, .int (nI b)), (2, .int (nI 0)), (3, .int (oI (some m9))), (4, .int (nI (i + 1)))] := by
                    have h9 := lv_sub (l' := [(0, .ref d), (1, .int (nI b)), (2, .int (nI 0)), (3, .int (nI m9)), (4, .int (nI (i + 1)))]) hl [2, 3, 4, 5, 0] rfl
                    rw [show (.int (oI (some m9)) : Value) = .int (nI m9) from congrArg Value.int rfl]
                    exact h9
                  exact ih (i + 1) (some m9) (by omega) ((nrk_s hR9).trans ((iF_f (fun h => absurd h.1 (by omega))).trans hnx)) (by omega) _ hl
                · refine lv_iload hx hb dX1_nextRank_52 (lv_at hl 0 rfl) ?_
                  refine lv_istore_n (lv' := [(3, .int (nI r9)), (5, .int (nI r9)), (0, .ref d), (1, .int (nI b)), (2, .int (nI 0)), (4, .int (nI i))]) hx hb dX1_nextRank_54 rfl hl (by decide) rfl (fun ls hl => ?_)
                  refine lv_iinc (v := nI (i + 1)) (lv' := [(4, .int (nI (i + 1))), (3, .int (nI r9)), (5, .int (nI r9)), (0, .ref d), (1, .int (nI b)), (2, .int (nI 0))]) hx hb dX1_nextRank_55 hl (k := 5) rfl (inc_1 _) (by decide) rfl (fun ls hl => ?_)
                  refine lv_goto (tgt := 5) hx hb dX1_nextRank_58 (by decide) ?_
                  have hl : lv_has ls 6 [(0, .ref d), (1, .int (nI b)), (2, .int (nI 0)), (3, .int (oI (some r9))), (4, .int (nI (i + 1)))] := by
                    have h9 := lv_sub (l' := [(0, .ref d), (1, .int (nI b)), (2, .int (nI 0)), (3, .int (nI r9)), (4, .int (nI (i + 1)))]) hl [3, 4, 5, 1, 0] rfl
                    rw [show (.int (oI (some r9)) : Value) = .int (nI r9) from congrArg Value.int rfl]
                    exact h9
                  exact ih (i + 1) (some r9) (by omega) ((nrk_s hR9).trans (iF_t ⟨by omega, fun m h => by (rw [hnx] at h; cases h; omega)⟩)) (by omega) _ hl
  refine lv_iconst (v := (-1)) hx hb dX1_nextRank_0 (by decide) ?_
  refine lv_istore_n (lv' := [(3, .int (-1)), (0, .ref d), (1, .int (nI b)), (2, .int (nI 0))]) hx hb dX1_nextRank_1 rfl hl (by decide) rfl (fun ls hl => ?_)
  refine lv_iconst (v := nI 0) hx hb dX1_nextRank_2 (by decide) ?_
  refine lv_istore (lv' := [(4, .int (nI 0)), (3, .int (-1)), (0, .ref d), (1, .int (nI b)), (2, .int (nI 0))]) hx hb dX1_nextRank_3 hl (by decide) rfl (fun ls hl => ?_)
  have hl : lv_has ls 6 [(0, .ref d), (1, .int (nI b)), (2, .int (nI 0)), (3, .int (oI none)), (4, .int (nI 0))] := by
    have h9 := lv_sub (l' := [(0, .ref d), (1, .int (nI b)), (2, .int (nI 0)), (3, .int (-1)), (4, .int (nI 0))]) hl [2, 3, 4, 1, 0] rfl
    rw [show (.int (oI none) : Value) = .int (-1) from congrArg Value.int rfl]
    exact h9
  exact J5 (cn z + 1) 0 none (by omega) rfl (by omega) _ hl
def rm_X1_rankOf_1 : Room := { frames := 3, cells := 0, slots := 0, locals := 63 }
set_option maxHeartbeats 4000000 in
set_option maxRecDepth 100000 in
theorem c_X1_rankOf_1 (l : Launch) (E : ke_E) (d : Nat) (z : Nat → Int32) (i : Nat) (hI : iv z) (hu : i < cn z) : Met l yX1_rankOf wsX1_rankOf rm_X1_rankOf_1 (kp E [.ref d, .int (nI i), .ref (d + 2*i + 19), .int (nI 1)] (dz E d z)) (qp (some (.int (oI ((rkW z (nI 0)) i))))) 0 0 nof := by
  refine k_hd (cc := cX1_rankOf) (maxL := 5) (ret := (some .int)) (by decide) rfl (Nat.le_of_ble_eq_true rfl) ?_
  intro p e s m below meth c ls S hr hlk hnm hK hP hl
  have hx := S.1
  have hb := S.2.1
  have hts := S.2.2.2.2
  have hP : dz E d z s.heap := hP
  have hl : lv_has ls 5 [(0, .ref d), (1, .int (nI i)), (2, .ref (d + 2*i + 19)), (3, .int (nI 1))] := hl
  have hc20 := iv_c hI
  have hup6 := iv_upl hI hu
  refine lv_iload_n hx hb dX1_rankOf_0 rfl (lv_at hl 3 rfl) ?_
  refine lv_iconst (v := nI 2) hx hb dX1_rankOf_1 (by decide) ?_
  refine n_ine (tgt := 23) hx hb dX1_rankOf_2 (by decide) (by omega) (by omega) (fun c2 => ?_) (fun h => absurd h (by decide))
  refine lv_aload_n hx hb dX1_rankOf_23 rfl (lv_at hl 2 rfl) ?_
  refine k_get S hK (dz_u hP i hu) rfl (fun _ h => List.mem_cons_of_mem _ (List.mem_append_left _ (List.mem_append_left _ (List.mem_append_right _ (h))))) 3 (by decide) (List.mem_cons_of_mem _ (List.mem_append_left _ (List.mem_append_left _ (List.mem_append_left _ (List.mem_append_left _ (List.mem_of_getElem? (i := 1) rfl)))))) rfl (v := .int (z (13*i + 68))) rfl dX1_rankOf_24 ?_
  refine lv_iconst (v := nI 1) hx hb dX1_rankOf_27 (by decide) ?_
  refine lv_icmp_ne (tgt := 44) hx hb dX1_rankOf_28 (by decide) (fun c28 => ?_) (fun c28 => ?_)
  · refine lv_iconst (v := (-1)) hx hb dX1_rankOf_44 (by decide) ?_
    exact k_iret hx hb hr hlk dX1_rankOf_45 (congrArg oI (rkW_n (fun h => c28 h.1)))
  · refine lv_iload_n hx hb dX1_rankOf_31 rfl (lv_at hl 3 rfl) ?_
    refine lv_iconst (v := nI 1) hx hb dX1_rankOf_32 (by decide) ?_
    refine n_ine (tgt := 46) hx hb dX1_rankOf_33 (by decide) (by omega) (by omega) (fun h => absurd h (by decide)) (fun c33 => ?_)
    refine lv_aload_n hx hb dX1_rankOf_36 rfl (lv_at hl 0 rfl) ?_
    refine lv_aload_n hx hb dX1_rankOf_37 rfl (lv_at hl 2 rfl) ?_
    refine k_V (As := [.ref (d + 2*i + 19)]) (rest := []) S hK (c_X1_isHeld l E d z i hI hu) gX1_rankOf_X1_isHeld rfl hd_X1_isHeld ⟨rfl, rfl⟩ ⟨Nat.le_of_ble_eq_true rfl, Nat.le_of_ble_eq_true rfl⟩ (k_recv hK (dz_d hP) rfl) hP rfl hl.1 rfl (Nat.le_of_ble_eq_true rfl) dX1_rankOf_38 ⟨Nat.le_of_ble_eq_true rfl, Nat.le_of_ble_eq_true rfl⟩ ?_
    refine b_eq (tgt := 46) hx hb dX1_rankOf_41 (by decide) (fun c41 => ?_) (fun c41 => ?_)
    · refine lv_aload_n hx hb dX1_rankOf_46 rfl (lv_at hl 0 rfl) ?_
      refine lv_aload_n hx hb dX1_rankOf_47 rfl (lv_at hl 2 rfl) ?_
      refine k_V (As := [.ref (d + 2*i + 19)]) (rest := []) S hK (c_X1_gradeOf l E d z i hI hu) gX1_rankOf_X1_gradeOf rfl hd_X1_gradeOf ⟨rfl, rfl⟩ ⟨Nat.le_of_ble_eq_true rfl, Nat.le_of_ble_eq_true rfl⟩ (k_recv hK (dz_d hP) rfl) hP rfl hl.1 rfl (Nat.le_of_ble_eq_true rfl) dX1_rankOf_48 ⟨Nat.le_of_ble_eq_true rfl, Nat.le_of_ble_eq_true rfl⟩ ?_
      refine lv_sipush (v := nI 10000) hx hb dX1_rankOf_51 (by decide) ?_
      refine lv_imul hx hb dX1_rankOf_54 ?_
      refine lv_aload_n hx hb dX1_rankOf_55 rfl (lv_at hl 0 rfl) ?_
      refine lv_aload_n hx hb dX1_rankOf_56 rfl (lv_at hl 2 rfl) ?_
      refine k_V (As := [.ref (d + 2*i + 19)]) (rest := [.int ((grT z i) * (nI 10000))]) S hK (c_X1_productUnder l E d z i hI hu) gX1_rankOf_X1_productUnder rfl hd_X1_productUnder ⟨rfl, rfl⟩ ⟨Nat.le_of_ble_eq_true rfl, Nat.le_of_ble_eq_true rfl⟩ (k_recv hK (dz_d hP) rfl) hP rfl hl.1 rfl (Nat.le_of_ble_eq_true rfl) dX1_rankOf_57 ⟨Nat.le_of_ble_eq_true rfl, Nat.le_of_ble_eq_true rfl⟩ ?_
      refine k_get S hK (dz_p hP (up z i) (by omega)) rfl (fun _ h => List.mem_cons_of_mem _ (List.mem_append_left _ (List.mem_append_right _ (h)))) 0 (by decide) (List.mem_cons_of_mem _ (List.mem_append_left _ (List.mem_append_left _ (List.mem_append_left _ (List.mem_append_left _ (List.mem_of_getElem? (i := 2) rfl)))))) rfl (v := .int (z (3*up z i + 12))) rfl dX1_rankOf_60 ?_
      refine lv_iadd hx hb dX1_rankOf_63 ?_
      refine lv_istore (lv' := [(4, .int (((grT z i) * (nI 10000)) + (z (3*up z i + 12)))), (0, .ref d), (1, .int (nI i)), (2, .ref (d + 2*i + 19)), (3, .int (nI 1))]) hx hb dX1_rankOf_64 hl (by decide) rfl (fun ls hl => ?_)
      refine lv_iload hx hb dX1_rankOf_66 (lv_at hl 0 rfl) ?_
      refine lv_bipush (v := nI 20) hx hb dX1_rankOf_68 (by decide) ?_
      refine lv_imul hx hb dX1_rankOf_70 ?_
      refine lv_bipush (v := nI 19) hx hb dX1_rankOf_71 (by decide) ?_
      refine lv_iload_n hx hb dX1_rankOf_73 rfl (lv_at hl 2 rfl) ?_
      refine lv_isub hx hb dX1_rankOf_74 ?_
      refine lv_iadd hx hb dX1_rankOf_75 ?_
      exact k_iret hx hb hr hlk dX1_rankOf_76 ((congrArg oI (rkW_s ⟨c28, Or.inr c41⟩)).trans (rkW_e hI hu c28).symm)
    · refine lv_iconst (v := (-1)) hx hb dX1_rankOf_44 (by decide) ?_
      exact k_iret hx hb hr hlk dX1_rankOf_45 (congrArg oI (rkW_n (fun h => h.2.elim (fun k => k nI_0) (fun k => k c41))))
def rm_X1_nextRank_1 : Room := { frames := 4, cells := 0, slots := 0, locals := 87 }
set_option maxHeartbeats 4000000 in
set_option maxRecDepth 100000 in
theorem c_X1_nextRank_1 (l : Launch) (E : ke_E) (d : Nat) (z : Nat → Int32) (b : Nat) (hI : iv z) (hb9 : b ≤ 2147483647) : Met l yX1_nextRank wsX1_nextRank rm_X1_nextRank_1 (kp E [.ref d, .int (nI b), .int (nI 1)] (dz E d z)) (qp (some (.int (oI (nrk (rkW z (nI 0)) b (cn z)))))) 0 0 nof := by
  refine k_hd (cc := cX1_nextRank) (maxL := 6) (ret := (some .int)) (by decide) rfl (Nat.le_of_ble_eq_true rfl) ?_
  intro p e s m below meth c ls S hr hlk hnm hK hP hl
  have hx := S.1
  have hb := S.2.1
  have hts := S.2.2.2.2
  have hP : dz E d z s.heap := hP
  have hl : lv_has ls 6 [(0, .ref d), (1, .int (nI b)), (2, .int (nI 1))] := hl
  have hc20 := iv_c hI
  have J5 : ∀ (n_ : Nat), ∀ (i : Nat), ∀ (nx : Option Nat), i ≤ cn z → nrk (rkW z (nI 0)) b i = nx → cn z < i + n_ → ∀ (ls : Array Slot), lv_has ls 6 [(0, .ref d), (1, .int (nI b)), (2, .int (nI 1)), (3, .int (oI nx)), (4, .int (nI i))] → W p l e (headSpec wsX1_nextRank rm_X1_nextRank_1).room s m ([.ref d, .int (nI b), .int (nI 1)] : List Value).toArray below meth c s.heap [] 0 0 (MQ below (qp (some (.int (oI (nrk (rkW z (nI 0)) b (cn z)))))) ([.ref d, .int (nI b), .int (nI 1)] : List Value).toArray s 0 0 nof) (F0 m 5 ls []) := by
    intro n_
    induction n_ with
    | zero =>
      intro i nx hi hnx hn_ _ _
      exact absurd hn_ (by omega)
    | succ n_ ih =>
      intro i nx hi hnx hn_ ls hl
      refine lv_iload hx hb dX1_nextRank_5 (lv_at hl 4 rfl) ?_
      refine lv_aload_n hx hb dX1_nextRank_7 rfl (lv_at hl 0 rfl) ?_
      refine k_get S hK (dz_d hP) rfl (fun _ h => List.mem_cons_of_mem _ (List.mem_append_left _ (List.mem_append_left _ (List.mem_append_right _ (h))))) 4 (by decide) (List.mem_cons_of_mem _ (List.mem_append_left _ (List.mem_append_left _ (List.mem_append_left _ (List.mem_append_left _ (List.mem_of_getElem? (i := 0) rfl)))))) rfl (v := .int (nI (cn z))) (congrArg (fun x => some (Value.int x)) ((iv_n hI))) dX1_nextRank_8 ?_
      refine n_ige (tgt := 61) hx hb dX1_nextRank_11 (by decide) (by omega) (by omega) (fun c11 => ?_) (fun c11 => ?_)
      · refine lv_iload_n hx hb dX1_nextRank_61 rfl (lv_at hl 3 rfl) ?_
        exact k_iret hx hb hr hlk dX1_nextRank_62 (by rw [← hnx, show i = cn z by omega])
      · refine lv_iload hx hb dX1_nextRank_14 (lv_at hl 4 rfl) ?_
        refine lv_aload_n hx hb dX1_nextRank_16 rfl (lv_at hl 0 rfl) ?_
        refine k_get S hK (dz_d hP) rfl (fun _ h => List.mem_cons_of_mem _ (List.mem_append_left _ (List.mem_append_left _ (List.mem_append_right _ (h))))) 2 (by decide) (List.mem_cons_of_mem _ (List.mem_append_left _ (List.mem_append_left _ (List.mem_append_left _ (List.mem_append_left _ (List.mem_of_getElem? (i := 1) rfl)))))) rfl (v := .ref (d + 3)) rfl dX1_nextRank_17 ?_
        refine k_alen hx hb hK (t := 3) rfl (dz_ua hP) dX1_nextRank_20 ?_
        refine k_top (y := nI 20) rfl ?_
        refine n_ige (tgt := 61) hx hb dX1_nextRank_21 (by decide) (by omega) (by omega) (fun c21 => ?_) (fun c21 => ?_)
        · refine lv_iload_n hx hb dX1_nextRank_61 rfl (lv_at hl 3 rfl) ?_
          exact k_iret hx hb hr hlk dX1_nextRank_62 (by rw [← hnx, show i = cn z by omega])
        · refine lv_aload_n hx hb dX1_nextRank_24 rfl (lv_at hl 0 rfl) ?_
          refine lv_iload hx hb dX1_nextRank_25 (lv_at hl 4 rfl) ?_
          refine lv_aload_n hx hb dX1_nextRank_27 rfl (lv_at hl 0 rfl) ?_
          refine k_get S hK (dz_d hP) rfl (fun _ h => List.mem_cons_of_mem _ (List.mem_append_left _ (List.mem_append_left _ (List.mem_append_right _ (h))))) 2 (by decide) (List.mem_cons_of_mem _ (List.mem_append_left _ (List.mem_append_left _ (List.mem_append_left _ (List.mem_append_left _ (List.mem_of_getElem? (i := 1) rfl)))))) rfl (v := .ref (d + 3)) rfl dX1_nextRank_28 ?_
          refine lv_iload hx hb dX1_nextRank_31 (lv_at hl 4 rfl) ?_
          refine k_aald hx hb hK (t := 3) rfl (dz_ua hP) (by omega) (by decide) (v := d + 2*i + 19) rfl dX1_nextRank_33 ?_
          refine lv_iload_n hx hb dX1_nextRank_34 rfl (lv_at hl 2 rfl) ?_
          refine k_V (As := [.int (nI i), .ref (d + 2*i + 19), .int (nI 1)]) (rest := []) S hK (c_X1_rankOf_1 l E d z i hI c11) gX1_nextRank_X1_rankOf rfl hd_X1_rankOf ⟨rfl, rfl⟩ ⟨Nat.le_of_ble_eq_true rfl, Nat.le_of_ble_eq_true rfl⟩ (k_recv hK (dz_d hP) rfl) hP rfl hl.1 rfl (Nat.le_of_ble_eq_true rfl) dX1_nextRank_35 ⟨Nat.le_of_ble_eq_true rfl, Nat.le_of_ble_eq_true rfl⟩ ?_
          refine lv_istore (lv' := [(5, .int (oI ((rkW z (nI 0)) i))), (0, .ref d), (1, .int (nI b)), (2, .int (nI 1)), (3, .int (oI nx)), (4, .int (nI i))]) hx hb dX1_nextRank_38 hl (by decide) rfl (fun ls hl => ?_)
          rcases Option.eq_none_or_eq_some ((rkW z (nI 0)) i) with hR9 | ⟨r9, hR9⟩
          · have hz9 := hI
            have hl : lv_has ls 6 [(5, .int (-1)), (0, .ref d), (1, .int (nI b)), (2, .int (nI 1)), (3, .int (oI nx)), (4, .int (nI i))] := by have h9 := hl; rw [hR9] at h9; exact h9
            rcases nx with _ | m9
            · have hl : lv_has ls 6 [(5, .int (-1)), (0, .ref d), (1, .int (nI b)), (2, .int (nI 1)), (3, .int (-1)), (4, .int (nI i))] := hl
              refine lv_iload hx hb dX1_nextRank_40 (lv_at hl 0 rfl) ?_
              refine lv_iload_n hx hb dX1_nextRank_42 rfl (lv_at hl 4 rfl) ?_
              refine lv_icmp_le (tgt := 55) hx hb dX1_nextRank_43 (by decide) (fun c43 => ?_) (fun h => absurd (Int32.le_refl _) h)
              refine lv_iinc (v := nI (i + 1)) (lv' := [(4, .int (nI (i + 1))), (5, .int (-1)), (0, .ref d), (1, .int (nI b)), (2, .int (nI 1)), (3, .int (-1))]) hx hb dX1_nextRank_55 hl (k := 5) rfl (inc_1 _) (by decide) rfl (fun ls hl => ?_)
              refine lv_goto (tgt := 5) hx hb dX1_nextRank_58 (by decide) ?_
              have hl : lv_has ls 6 [(0, .ref d), (1, .int (nI b)), (2, .int (nI 1)), (3, .int (oI none)), (4, .int (nI (i + 1)))] := by
                have h9 := lv_sub (l' := [(0, .ref d), (1, .int (nI b)), (2, .int (nI 1)), (3, .int (-1)), (4, .int (nI (i + 1)))]) hl [2, 3, 4, 5, 0] rfl
                rw [show (.int (oI none) : Value) = .int (-1) from congrArg Value.int rfl]
                exact h9
              exact ih (i + 1) none (by omega) ((nrk_n hR9).trans hnx) (by omega) _ hl
            · have hl : lv_has ls 6 [(5, .int (-1)), (0, .ref d), (1, .int (nI b)), (2, .int (nI 1)), (3, .int (nI m9)), (4, .int (nI i))] := hl
              have hm9 := (nrk_lt (fun i r hi => (rkW_ok hI) i r (by omega)) hnx).2.2.2
              refine lv_iload hx hb dX1_nextRank_40 (lv_at hl 0 rfl) ?_
              refine lv_iload_n hx hb dX1_nextRank_42 rfl (lv_at hl 4 rfl) ?_
              refine lv_icmp_le (tgt := 55) hx hb dX1_nextRank_43 (by decide) (fun c43 => ?_) (fun h => absurd (m1_le (by omega)) h)
              refine lv_iinc (v := nI (i + 1)) (lv' := [(4, .int (nI (i + 1))), (5, .int (-1)), (0, .ref d), (1, .int (nI b)), (2, .int (nI 1)), (3, .int (nI m9))]) hx hb dX1_nextRank_55 hl (k := 5) rfl (inc_1 _) (by decide) rfl (fun ls hl => ?_)
              refine lv_goto (tgt := 5) hx hb dX1_nextRank_58 (by decide) ?_
              have hl : lv_has ls 6 [(0, .ref d), (1, .int (nI b)), (2, .int (nI 1)), (3, .int (oI (some m9))), (4, .int (nI (i + 1)))] := by
                have h9 := lv_sub (l' := [(0, .ref d), (1, .int (nI b)), (2, .int (nI 1)), (3, .int (nI m9)), (4, .int (nI (i + 1)))]) hl [2, 3, 4, 5, 0] rfl
                rw [show (.int (oI (some m9)) : Value) = .int (nI m9) from congrArg Value.int rfl]
                exact h9
              exact ih (i + 1) (some m9) (by omega) ((nrk_n hR9).trans hnx) (by omega) _ hl
          · have hr9 := ((rkW_ok hI) i r9 (by omega) hR9).2
            have hl : lv_has ls 6 [(5, .int (nI r9)), (0, .ref d), (1, .int (nI b)), (2, .int (nI 1)), (3, .int (oI nx)), (4, .int (nI i))] := by have h9 := hl; rw [hR9] at h9; exact h9
            rcases nx with _ | m9
            · have hl : lv_has ls 6 [(5, .int (nI r9)), (0, .ref d), (1, .int (nI b)), (2, .int (nI 1)), (3, .int (-1)), (4, .int (nI i))] := hl
              refine lv_iload hx hb dX1_nextRank_40 (lv_at hl 0 rfl) ?_
              refine lv_iload_n hx hb dX1_nextRank_42 rfl (lv_at hl 4 rfl) ?_
              refine lv_icmp_le (tgt := 55) hx hb dX1_nextRank_43 (by decide) (fun h => absurd h (nI_nlm1 (by omega))) (fun c43 => ?_)
              refine lv_iload hx hb dX1_nextRank_46 (lv_at hl 0 rfl) ?_
              refine lv_iload_n hx hb dX1_nextRank_48 rfl (lv_at hl 2 rfl) ?_
              refine n_ige (tgt := 55) hx hb dX1_nextRank_49 (by decide) (by omega) (by omega) (fun c49 => ?_) (fun c49 => ?_)
              · refine lv_iinc (v := nI (i + 1)) (lv' := [(4, .int (nI (i + 1))), (5, .int (nI r9)), (0, .ref d), (1, .int (nI b)), (2, .int (nI 1)), (3, .int (-1))]) hx hb dX1_nextRank_55 hl (k := 5) rfl (inc_1 _) (by decide) rfl (fun ls hl => ?_)
                refine lv_goto (tgt := 5) hx hb dX1_nextRank_58 (by decide) ?_
                have hl : lv_has ls 6 [(0, .ref d), (1, .int (nI b)), (2, .int (nI 1)), (3, .int (oI none)), (4, .int (nI (i + 1)))] := by
                  have h9 := lv_sub (l' := [(0, .ref d), (1, .int (nI b)), (2, .int (nI 1)), (3, .int (-1)), (4, .int (nI (i + 1)))]) hl [2, 3, 4, 5, 0] rfl
                  rw [show (.int (oI none) : Value) = .int (-1) from congrArg Value.int rfl]
                  exact h9
                exact ih (i + 1) none (by omega) ((nrk_s hR9).trans ((iF_f (fun h => absurd h.1 (by omega))).trans hnx)) (by omega) _ hl
              · refine lv_iload hx hb dX1_nextRank_52 (lv_at hl 0 rfl) ?_
                refine lv_istore_n (lv' := [(3, .int (nI r9)), (5, .int (nI r9)), (0, .ref d), (1, .int (nI b)), (2, .int (nI 1)), (4, .int (nI i))]) hx hb dX1_nextRank_54 rfl hl (by decide) rfl (fun ls hl => ?_)
                refine lv_iinc (v := nI (i + 1)) (lv' := [(4, .int (nI (i + 1))), (3, .int (nI r9)), (5, .int (nI r9)), (0, .ref d), (1, .int (nI b)), (2, .int (nI 1))]) hx hb dX1_nextRank_55 hl (k := 5) rfl (inc_1 _) (by decide) rfl (fun ls hl => ?_)
                refine lv_goto (tgt := 5) hx hb dX1_nextRank_58 (by decide) ?_
                have hl : lv_has ls 6 [(0, .ref d), (1, .int (nI b)), (2, .int (nI 1)), (3, .int (oI (some r9))), (4, .int (nI (i + 1)))] := by
                  have h9 := lv_sub (l' := [(0, .ref d), (1, .int (nI b)), (2, .int (nI 1)), (3, .int (nI r9)), (4, .int (nI (i + 1)))]) hl [3, 4, 5, 1, 0] rfl
                  rw [show (.int (oI (some r9)) : Value) = .int (nI r9) from congrArg Value.int rfl]
                  exact h9
                exact ih (i + 1) (some r9) (by omega) ((nrk_s hR9).trans (iF_t ⟨by omega, fun m h => by (rw [hnx] at h; cases h)⟩)) (by omega) _ hl
            · have hl : lv_has ls 6 [(5, .int (nI r9)), (0, .ref d), (1, .int (nI b)), (2, .int (nI 1)), (3, .int (nI m9)), (4, .int (nI i))] := hl
              have hm9 := (nrk_lt (fun i r hi => (rkW_ok hI) i r (by omega)) hnx).2.2.2
              refine lv_iload hx hb dX1_nextRank_40 (lv_at hl 0 rfl) ?_
              refine lv_iload_n hx hb dX1_nextRank_42 rfl (lv_at hl 4 rfl) ?_
              refine n_ile (tgt := 55) hx hb dX1_nextRank_43 (by decide) (by omega) (by omega) (fun c43 => ?_) (fun c43 => ?_)
              · refine lv_iinc (v := nI (i + 1)) (lv' := [(4, .int (nI (i + 1))), (5, .int (nI r9)), (0, .ref d), (1, .int (nI b)), (2, .int (nI 1)), (3, .int (nI m9))]) hx hb dX1_nextRank_55 hl (k := 5) rfl (inc_1 _) (by decide) rfl (fun ls hl => ?_)
                refine lv_goto (tgt := 5) hx hb dX1_nextRank_58 (by decide) ?_
                have hl : lv_has ls 6 [(0, .ref d), (1, .int (nI b)), (2, .int (nI 1)), (3, .int (oI (some m9))), (4, .int (nI (i + 1)))] := by
                  have h9 := lv_sub (l' := [(0, .ref d), (1, .int (nI b)), (2, .int (nI 1)), (3, .int (nI m9)), (4, .int (nI (i + 1)))]) hl [2, 3, 4, 5, 0] rfl
                  rw [show (.int (oI (some m9)) : Value) = .int (nI m9) from congrArg Value.int rfl]
                  exact h9
                exact ih (i + 1) (some m9) (by omega) ((nrk_s hR9).trans ((iF_f (fun h => absurd (h.2 m9 hnx) (by omega))).trans hnx)) (by omega) _ hl
              · refine lv_iload hx hb dX1_nextRank_46 (lv_at hl 0 rfl) ?_
                refine lv_iload_n hx hb dX1_nextRank_48 rfl (lv_at hl 2 rfl) ?_
                refine n_ige (tgt := 55) hx hb dX1_nextRank_49 (by decide) (by omega) (by omega) (fun c49 => ?_) (fun c49 => ?_)
                · refine lv_iinc (v := nI (i + 1)) (lv' := [(4, .int (nI (i + 1))), (5, .int (nI r9)), (0, .ref d), (1, .int (nI b)), (2, .int (nI 1)), (3, .int (nI m9))]) hx hb dX1_nextRank_55 hl (k := 5) rfl (inc_1 _) (by decide) rfl (fun ls hl => ?_)
                  refine lv_goto (tgt := 5) hx hb dX1_nextRank_58 (by decide) ?_
                  have hl : lv_has ls 6 [(0, .ref d), (1, .int (nI b)), (2, .int (nI 1)), (3, .int (oI (some m9))), (4, .int (nI (i + 1)))] := by
                    have h9 := lv_sub (l' := [(0, .ref d), (1, .int (nI b)), (2, .int (nI 1)), (3, .int (nI m9)), (4, .int (nI (i + 1)))]) hl [2, 3, 4, 5, 0] rfl
                    rw [show (.int (oI (some m9)) : Value) = .int (nI m9) from congrArg Value.int rfl]
                    exact h9
                  exact ih (i + 1) (some m9) (by omega) ((nrk_s hR9).trans ((iF_f (fun h => absurd h.1 (by omega))).trans hnx)) (by omega) _ hl
                · refine lv_iload hx hb dX1_nextRank_52 (lv_at hl 0 rfl) ?_
                  refine lv_istore_n (lv' := [(3, .int (nI r9)), (5, .int (nI r9)), (0, .ref d), (1, .int (nI b)), (2, .int (nI 1)), (4, .int (nI i))]) hx hb dX1_nextRank_54 rfl hl (by decide) rfl (fun ls hl => ?_)
                  refine lv_iinc (v := nI (i + 1)) (lv' := [(4, .int (nI (i + 1))), (3, .int (nI r9)), (5, .int (nI r9)), (0, .ref d), (1, .int (nI b)), (2, .int (nI 1))]) hx hb dX1_nextRank_55 hl (k := 5) rfl (inc_1 _) (by decide) rfl (fun ls hl => ?_)
                  refine lv_goto (tgt := 5) hx hb dX1_nextRank_58 (by decide) ?_
                  have hl : lv_has ls 6 [(0, .ref d), (1, .int (nI b)), (2, .int (nI 1)), (3, .int (oI (some r9))), (4, .int (nI (i + 1)))] := by
                    have h9 := lv_sub (l' := [(0, .ref d), (1, .int (nI b)), (2, .int (nI 1)), (3, .int (nI r9)), (4, .int (nI (i + 1)))]) hl [3, 4, 5, 1, 0] rfl
                    rw [show (.int (oI (some r9)) : Value) = .int (nI r9) from congrArg Value.int rfl]
                    exact h9
                  exact ih (i + 1) (some r9) (by omega) ((nrk_s hR9).trans (iF_t ⟨by omega, fun m h => by (rw [hnx] at h; cases h; omega)⟩)) (by omega) _ hl
  refine lv_iconst (v := (-1)) hx hb dX1_nextRank_0 (by decide) ?_
  refine lv_istore_n (lv' := [(3, .int (-1)), (0, .ref d), (1, .int (nI b)), (2, .int (nI 1))]) hx hb dX1_nextRank_1 rfl hl (by decide) rfl (fun ls hl => ?_)
  refine lv_iconst (v := nI 0) hx hb dX1_nextRank_2 (by decide) ?_
  refine lv_istore (lv' := [(4, .int (nI 0)), (3, .int (-1)), (0, .ref d), (1, .int (nI b)), (2, .int (nI 1))]) hx hb dX1_nextRank_3 hl (by decide) rfl (fun ls hl => ?_)
  have hl : lv_has ls 6 [(0, .ref d), (1, .int (nI b)), (2, .int (nI 1)), (3, .int (oI none)), (4, .int (nI 0))] := by
    have h9 := lv_sub (l' := [(0, .ref d), (1, .int (nI b)), (2, .int (nI 1)), (3, .int (-1)), (4, .int (nI 0))]) hl [2, 3, 4, 1, 0] rfl
    rw [show (.int (oI none) : Value) = .int (-1) from congrArg Value.int rfl]
    exact h9
  exact J5 (cn z + 1) 0 none (by omega) rfl (by omega) _ hl
def rm_X1_rankOf_2 : Room := { frames := 2, cells := 0, slots := 0, locals := 40 }
set_option maxHeartbeats 4000000 in
set_option maxRecDepth 100000 in
theorem c_X1_rankOf_2 (l : Launch) (E : ke_E) (d : Nat) (z : Nat → Int32) (i : Nat) (hI : iv z) (hu : i < cn z) : Met l yX1_rankOf wsX1_rankOf rm_X1_rankOf_2 (kp E [.ref d, .int (nI i), .ref (d + 2*i + 19), .int (nI 2)] (dz E d z)) (qp (some (.int (oI ((rkC z) i))))) 0 0 nof := by
  refine k_hd (cc := cX1_rankOf) (maxL := 5) (ret := (some .int)) (by decide) rfl (Nat.le_of_ble_eq_true rfl) ?_
  intro p e s m below meth c ls S hr hlk hnm hK hP hl
  have hx := S.1
  have hb := S.2.1
  have hts := S.2.2.2.2
  have hP : dz E d z s.heap := hP
  have hl : lv_has ls 5 [(0, .ref d), (1, .int (nI i)), (2, .ref (d + 2*i + 19)), (3, .int (nI 2))] := hl
  have hc20 := iv_c hI
  have hup6 := iv_upl hI hu
  refine lv_iload_n hx hb dX1_rankOf_0 rfl (lv_at hl 3 rfl) ?_
  refine lv_iconst (v := nI 2) hx hb dX1_rankOf_1 (by decide) ?_
  refine n_ine (tgt := 23) hx hb dX1_rankOf_2 (by decide) (by omega) (by omega) (fun h => absurd h (by decide)) (fun c2 => ?_)
  refine lv_aload_n hx hb dX1_rankOf_5 rfl (lv_at hl 2 rfl) ?_
  refine k_V (As := []) (rest := []) S hK (c_X4_isClaimWaiting l E d z i hu) gX1_rankOf_X4_isClaimWaiting rfl hd_X4_isClaimWaiting ⟨rfl, rfl⟩ ⟨Nat.le_of_ble_eq_true rfl, Nat.le_of_ble_eq_true rfl⟩ (k_recv hK (dz_u hP i hu) rfl) hP rfl hl.1 rfl (Nat.le_of_ble_eq_true rfl) dX1_rankOf_6 ⟨Nat.le_of_ble_eq_true rfl, Nat.le_of_ble_eq_true rfl⟩ ?_
  refine b_ne (tgt := 14) hx hb dX1_rankOf_9 (by decide) (fun c9 => ?_) (fun c9 => ?_)
  · refine lv_aload_n hx hb dX1_rankOf_14 rfl (lv_at hl 2 rfl) ?_
    refine k_get S hK (dz_u hP i hu) rfl (fun _ h => List.mem_cons_of_mem _ (List.mem_append_left _ (List.mem_append_left _ (List.mem_append_right _ (h))))) 5 (by decide) (List.mem_cons_of_mem _ (List.mem_append_left _ (List.mem_append_left _ (List.mem_append_left _ (List.mem_append_left _ (List.mem_of_getElem? (i := 0) rfl)))))) rfl (v := .int (z (13*i + 70))) rfl dX1_rankOf_15 ?_
    refine lv_istore (lv' := [(4, .int (z (13*i + 70))), (0, .ref d), (1, .int (nI i)), (2, .ref (d + 2*i + 19)), (3, .int (nI 2))]) hx hb dX1_rankOf_18 hl (by decide) rfl (fun ls hl => ?_)
    refine lv_goto (tgt := 66) hx hb dX1_rankOf_20 (by decide) ?_
    refine lv_iload hx hb dX1_rankOf_66 (lv_at hl 0 rfl) ?_
    refine lv_bipush (v := nI 20) hx hb dX1_rankOf_68 (by decide) ?_
    refine lv_imul hx hb dX1_rankOf_70 ?_
    refine lv_bipush (v := nI 19) hx hb dX1_rankOf_71 (by decide) ?_
    refine lv_iload_n hx hb dX1_rankOf_73 rfl (lv_at hl 2 rfl) ?_
    refine lv_isub hx hb dX1_rankOf_74 ?_
    refine lv_iadd hx hb dX1_rankOf_75 ?_
    exact k_iret hx hb hr hlk dX1_rankOf_76 ((congrArg oI (rkC_s c9)).trans (rkC_e hI hu c9).symm)
  · refine lv_iconst (v := (-1)) hx hb dX1_rankOf_12 (by decide) ?_
    exact k_iret hx hb hr hlk dX1_rankOf_13 (congrArg oI (rkC_n c9))
def rm_X1_nextRank_2 : Room := { frames := 3, cells := 0, slots := 0, locals := 64 }
set_option maxHeartbeats 4000000 in
set_option maxRecDepth 100000 in
theorem c_X1_nextRank_2 (l : Launch) (E : ke_E) (d : Nat) (z : Nat → Int32) (b : Nat) (hI : iv z) (hb9 : b ≤ 2147483647) : Met l yX1_nextRank wsX1_nextRank rm_X1_nextRank_2 (kp E [.ref d, .int (nI b), .int (nI 2)] (dz E d z)) (qp (some (.int (oI (nrk (rkC z) b (cn z)))))) 0 0 nof := by
  refine k_hd (cc := cX1_nextRank) (maxL := 6) (ret := (some .int)) (by decide) rfl (Nat.le_of_ble_eq_true rfl) ?_
  intro p e s m below meth c ls S hr hlk hnm hK hP hl
  have hx := S.1
  have hb := S.2.1
  have hts := S.2.2.2.2
  have hP : dz E d z s.heap := hP
  have hl : lv_has ls 6 [(0, .ref d), (1, .int (nI b)), (2, .int (nI 2))] := hl
  have hc20 := iv_c hI
  have J5 : ∀ (n_ : Nat), ∀ (i : Nat), ∀ (nx : Option Nat), i ≤ cn z → nrk (rkC z) b i = nx → cn z < i + n_ → ∀ (ls : Array Slot), lv_has ls 6 [(0, .ref d), (1, .int (nI b)), (2, .int (nI 2)), (3, .int (oI nx)), (4, .int (nI i))] → W p l e (headSpec wsX1_nextRank rm_X1_nextRank_2).room s m ([.ref d, .int (nI b), .int (nI 2)] : List Value).toArray below meth c s.heap [] 0 0 (MQ below (qp (some (.int (oI (nrk (rkC z) b (cn z)))))) ([.ref d, .int (nI b), .int (nI 2)] : List Value).toArray s 0 0 nof) (F0 m 5 ls []) := by
    intro n_
    induction n_ with
    | zero =>
      intro i nx hi hnx hn_ _ _
      exact absurd hn_ (by omega)
    | succ n_ ih =>
      intro i nx hi hnx hn_ ls hl
      refine lv_iload hx hb dX1_nextRank_5 (lv_at hl 4 rfl) ?_
      refine lv_aload_n hx hb dX1_nextRank_7 rfl (lv_at hl 0 rfl) ?_
      refine k_get S hK (dz_d hP) rfl (fun _ h => List.mem_cons_of_mem _ (List.mem_append_left _ (List.mem_append_left _ (List.mem_append_right _ (h))))) 4 (by decide) (List.mem_cons_of_mem _ (List.mem_append_left _ (List.mem_append_left _ (List.mem_append_left _ (List.mem_append_left _ (List.mem_of_getElem? (i := 0) rfl)))))) rfl (v := .int (nI (cn z))) (congrArg (fun x => some (Value.int x)) ((iv_n hI))) dX1_nextRank_8 ?_
      refine n_ige (tgt := 61) hx hb dX1_nextRank_11 (by decide) (by omega) (by omega) (fun c11 => ?_) (fun c11 => ?_)
      · refine lv_iload_n hx hb dX1_nextRank_61 rfl (lv_at hl 3 rfl) ?_
        exact k_iret hx hb hr hlk dX1_nextRank_62 (by rw [← hnx, show i = cn z by omega])
      · refine lv_iload hx hb dX1_nextRank_14 (lv_at hl 4 rfl) ?_
        refine lv_aload_n hx hb dX1_nextRank_16 rfl (lv_at hl 0 rfl) ?_
        refine k_get S hK (dz_d hP) rfl (fun _ h => List.mem_cons_of_mem _ (List.mem_append_left _ (List.mem_append_left _ (List.mem_append_right _ (h))))) 2 (by decide) (List.mem_cons_of_mem _ (List.mem_append_left _ (List.mem_append_left _ (List.mem_append_left _ (List.mem_append_left _ (List.mem_of_getElem? (i := 1) rfl)))))) rfl (v := .ref (d + 3)) rfl dX1_nextRank_17 ?_
        refine k_alen hx hb hK (t := 3) rfl (dz_ua hP) dX1_nextRank_20 ?_
        refine k_top (y := nI 20) rfl ?_
        refine n_ige (tgt := 61) hx hb dX1_nextRank_21 (by decide) (by omega) (by omega) (fun c21 => ?_) (fun c21 => ?_)
        · refine lv_iload_n hx hb dX1_nextRank_61 rfl (lv_at hl 3 rfl) ?_
          exact k_iret hx hb hr hlk dX1_nextRank_62 (by rw [← hnx, show i = cn z by omega])
        · refine lv_aload_n hx hb dX1_nextRank_24 rfl (lv_at hl 0 rfl) ?_
          refine lv_iload hx hb dX1_nextRank_25 (lv_at hl 4 rfl) ?_
          refine lv_aload_n hx hb dX1_nextRank_27 rfl (lv_at hl 0 rfl) ?_
          refine k_get S hK (dz_d hP) rfl (fun _ h => List.mem_cons_of_mem _ (List.mem_append_left _ (List.mem_append_left _ (List.mem_append_right _ (h))))) 2 (by decide) (List.mem_cons_of_mem _ (List.mem_append_left _ (List.mem_append_left _ (List.mem_append_left _ (List.mem_append_left _ (List.mem_of_getElem? (i := 1) rfl)))))) rfl (v := .ref (d + 3)) rfl dX1_nextRank_28 ?_
          refine lv_iload hx hb dX1_nextRank_31 (lv_at hl 4 rfl) ?_
          refine k_aald hx hb hK (t := 3) rfl (dz_ua hP) (by omega) (by decide) (v := d + 2*i + 19) rfl dX1_nextRank_33 ?_
          refine lv_iload_n hx hb dX1_nextRank_34 rfl (lv_at hl 2 rfl) ?_
          refine k_V (As := [.int (nI i), .ref (d + 2*i + 19), .int (nI 2)]) (rest := []) S hK (c_X1_rankOf_2 l E d z i hI c11) gX1_nextRank_X1_rankOf rfl hd_X1_rankOf ⟨rfl, rfl⟩ ⟨Nat.le_of_ble_eq_true rfl, Nat.le_of_ble_eq_true rfl⟩ (k_recv hK (dz_d hP) rfl) hP rfl hl.1 rfl (Nat.le_of_ble_eq_true rfl) dX1_nextRank_35 ⟨Nat.le_of_ble_eq_true rfl, Nat.le_of_ble_eq_true rfl⟩ ?_
          refine lv_istore (lv' := [(5, .int (oI ((rkC z) i))), (0, .ref d), (1, .int (nI b)), (2, .int (nI 2)), (3, .int (oI nx)), (4, .int (nI i))]) hx hb dX1_nextRank_38 hl (by decide) rfl (fun ls hl => ?_)
          rcases Option.eq_none_or_eq_some ((rkC z) i) with hR9 | ⟨r9, hR9⟩
          · have hz9 := hI
            have hl : lv_has ls 6 [(5, .int (-1)), (0, .ref d), (1, .int (nI b)), (2, .int (nI 2)), (3, .int (oI nx)), (4, .int (nI i))] := by have h9 := hl; rw [hR9] at h9; exact h9
            rcases nx with _ | m9
            · have hl : lv_has ls 6 [(5, .int (-1)), (0, .ref d), (1, .int (nI b)), (2, .int (nI 2)), (3, .int (-1)), (4, .int (nI i))] := hl
              refine lv_iload hx hb dX1_nextRank_40 (lv_at hl 0 rfl) ?_
              refine lv_iload_n hx hb dX1_nextRank_42 rfl (lv_at hl 4 rfl) ?_
              refine lv_icmp_le (tgt := 55) hx hb dX1_nextRank_43 (by decide) (fun c43 => ?_) (fun h => absurd (Int32.le_refl _) h)
              refine lv_iinc (v := nI (i + 1)) (lv' := [(4, .int (nI (i + 1))), (5, .int (-1)), (0, .ref d), (1, .int (nI b)), (2, .int (nI 2)), (3, .int (-1))]) hx hb dX1_nextRank_55 hl (k := 5) rfl (inc_1 _) (by decide) rfl (fun ls hl => ?_)
              refine lv_goto (tgt := 5) hx hb dX1_nextRank_58 (by decide) ?_
              have hl : lv_has ls 6 [(0, .ref d), (1, .int (nI b)), (2, .int (nI 2)), (3, .int (oI none)), (4, .int (nI (i + 1)))] := by
                have h9 := lv_sub (l' := [(0, .ref d), (1, .int (nI b)), (2, .int (nI 2)), (3, .int (-1)), (4, .int (nI (i + 1)))]) hl [2, 3, 4, 5, 0] rfl
                rw [show (.int (oI none) : Value) = .int (-1) from congrArg Value.int rfl]
                exact h9
              exact ih (i + 1) none (by omega) ((nrk_n hR9).trans hnx) (by omega) _ hl
            · have hl : lv_has ls 6 [(5, .int (-1)), (0, .ref d), (1, .int (nI b)), (2, .int (nI 2)), (3, .int (nI m9)), (4, .int (nI i))] := hl
              have hm9 := (nrk_lt (fun i r hi => (rkC_ok hI) i r (by omega)) hnx).2.2.2
              refine lv_iload hx hb dX1_nextRank_40 (lv_at hl 0 rfl) ?_
              refine lv_iload_n hx hb dX1_nextRank_42 rfl (lv_at hl 4 rfl) ?_
              refine lv_icmp_le (tgt := 55) hx hb dX1_nextRank_43 (by decide) (fun c43 => ?_) (fun h => absurd (m1_le (by omega)) h)
              refine lv_iinc (v := nI (i + 1)) (lv' := [(4, .int (nI (i + 1))), (5, .int (-1)), (0, .ref d), (1, .int (nI b)), (2, .int (nI 2)), (3, .int (nI m9))]) hx hb dX1_nextRank_55 hl (k := 5) rfl (inc_1 _) (by decide) rfl (fun ls hl => ?_)
              refine lv_goto (tgt := 5) hx hb dX1_nextRank_58 (by decide) ?_
              have hl : lv_has ls 6 [(0, .ref d), (1, .int (nI b)), (2, .int (nI 2)), (3, .int (oI (some m9))), (4, .int (nI (i + 1)))] := by
                have h9 := lv_sub (l' := [(0, .ref d), (1, .int (nI b)), (2, .int (nI 2)), (3, .int (nI m9)), (4, .int (nI (i + 1)))]) hl [2, 3, 4, 5, 0] rfl
                rw [show (.int (oI (some m9)) : Value) = .int (nI m9) from congrArg Value.int rfl]
                exact h9
              exact ih (i + 1) (some m9) (by omega) ((nrk_n hR9).trans hnx) (by omega) _ hl
          · have hr9 := ((rkC_ok hI) i r9 (by omega) hR9).2
            have hl : lv_has ls 6 [(5, .int (nI r9)), (0, .ref d), (1, .int (nI b)), (2, .int (nI 2)), (3, .int (oI nx)), (4, .int (nI i))] := by have h9 := hl; rw [hR9] at h9; exact h9
            rcases nx with _ | m9
            · have hl : lv_has ls 6 [(5, .int (nI r9)), (0, .ref d), (1, .int (nI b)), (2, .int (nI 2)), (3, .int (-1)), (4, .int (nI i))] := hl
              refine lv_iload hx hb dX1_nextRank_40 (lv_at hl 0 rfl) ?_
              refine lv_iload_n hx hb dX1_nextRank_42 rfl (lv_at hl 4 rfl) ?_
              refine lv_icmp_le (tgt := 55) hx hb dX1_nextRank_43 (by decide) (fun h => absurd h (nI_nlm1 (by omega))) (fun c43 => ?_)
              refine lv_iload hx hb dX1_nextRank_46 (lv_at hl 0 rfl) ?_
              refine lv_iload_n hx hb dX1_nextRank_48 rfl (lv_at hl 2 rfl) ?_
              refine n_ige (tgt := 55) hx hb dX1_nextRank_49 (by decide) (by omega) (by omega) (fun c49 => ?_) (fun c49 => ?_)
              · refine lv_iinc (v := nI (i + 1)) (lv' := [(4, .int (nI (i + 1))), (5, .int (nI r9)), (0, .ref d), (1, .int (nI b)), (2, .int (nI 2)), (3, .int (-1))]) hx hb dX1_nextRank_55 hl (k := 5) rfl (inc_1 _) (by decide) rfl (fun ls hl => ?_)
                refine lv_goto (tgt := 5) hx hb dX1_nextRank_58 (by decide) ?_
                have hl : lv_has ls 6 [(0, .ref d), (1, .int (nI b)), (2, .int (nI 2)), (3, .int (oI none)), (4, .int (nI (i + 1)))] := by
                  have h9 := lv_sub (l' := [(0, .ref d), (1, .int (nI b)), (2, .int (nI 2)), (3, .int (-1)), (4, .int (nI (i + 1)))]) hl [2, 3, 4, 5, 0] rfl
                  rw [show (.int (oI none) : Value) = .int (-1) from congrArg Value.int rfl]
                  exact h9
                exact ih (i + 1) none (by omega) ((nrk_s hR9).trans ((iF_f (fun h => absurd h.1 (by omega))).trans hnx)) (by omega) _ hl
              · refine lv_iload hx hb dX1_nextRank_52 (lv_at hl 0 rfl) ?_
                refine lv_istore_n (lv' := [(3, .int (nI r9)), (5, .int (nI r9)), (0, .ref d), (1, .int (nI b)), (2, .int (nI 2)), (4, .int (nI i))]) hx hb dX1_nextRank_54 rfl hl (by decide) rfl (fun ls hl => ?_)
                refine lv_iinc (v := nI (i + 1)) (lv' := [(4, .int (nI (i + 1))), (3, .int (nI r9)), (5, .int (nI r9)), (0, .ref d), (1, .int (nI b)), (2, .int (nI 2))]) hx hb dX1_nextRank_55 hl (k := 5) rfl (inc_1 _) (by decide) rfl (fun ls hl => ?_)
                refine lv_goto (tgt := 5) hx hb dX1_nextRank_58 (by decide) ?_
                have hl : lv_has ls 6 [(0, .ref d), (1, .int (nI b)), (2, .int (nI 2)), (3, .int (oI (some r9))), (4, .int (nI (i + 1)))] := by
                  have h9 := lv_sub (l' := [(0, .ref d), (1, .int (nI b)), (2, .int (nI 2)), (3, .int (nI r9)), (4, .int (nI (i + 1)))]) hl [3, 4, 5, 1, 0] rfl
                  rw [show (.int (oI (some r9)) : Value) = .int (nI r9) from congrArg Value.int rfl]
                  exact h9
                exact ih (i + 1) (some r9) (by omega) ((nrk_s hR9).trans (iF_t ⟨by omega, fun m h => by (rw [hnx] at h; cases h)⟩)) (by omega) _ hl
            · have hl : lv_has ls 6 [(5, .int (nI r9)), (0, .ref d), (1, .int (nI b)), (2, .int (nI 2)), (3, .int (nI m9)), (4, .int (nI i))] := hl
              have hm9 := (nrk_lt (fun i r hi => (rkC_ok hI) i r (by omega)) hnx).2.2.2
              refine lv_iload hx hb dX1_nextRank_40 (lv_at hl 0 rfl) ?_
              refine lv_iload_n hx hb dX1_nextRank_42 rfl (lv_at hl 4 rfl) ?_
              refine n_ile (tgt := 55) hx hb dX1_nextRank_43 (by decide) (by omega) (by omega) (fun c43 => ?_) (fun c43 => ?_)
              · refine lv_iinc (v := nI (i + 1)) (lv' := [(4, .int (nI (i + 1))), (5, .int (nI r9)), (0, .ref d), (1, .int (nI b)), (2, .int (nI 2)), (3, .int (nI m9))]) hx hb dX1_nextRank_55 hl (k := 5) rfl (inc_1 _) (by decide) rfl (fun ls hl => ?_)
                refine lv_goto (tgt := 5) hx hb dX1_nextRank_58 (by decide) ?_
                have hl : lv_has ls 6 [(0, .ref d), (1, .int (nI b)), (2, .int (nI 2)), (3, .int (oI (some m9))), (4, .int (nI (i + 1)))] := by
                  have h9 := lv_sub (l' := [(0, .ref d), (1, .int (nI b)), (2, .int (nI 2)), (3, .int (nI m9)), (4, .int (nI (i + 1)))]) hl [2, 3, 4, 5, 0] rfl
                  rw [show (.int (oI (some m9)) : Value) = .int (nI m9) from congrArg Value.int rfl]
                  exact h9
                exact ih (i + 1) (some m9) (by omega) ((nrk_s hR9).trans ((iF_f (fun h => absurd (h.2 m9 hnx) (by omega))).trans hnx)) (by omega) _ hl
              · refine lv_iload hx hb dX1_nextRank_46 (lv_at hl 0 rfl) ?_
                refine lv_iload_n hx hb dX1_nextRank_48 rfl (lv_at hl 2 rfl) ?_
                refine n_ige (tgt := 55) hx hb dX1_nextRank_49 (by decide) (by omega) (by omega) (fun c49 => ?_) (fun c49 => ?_)
                · refine lv_iinc (v := nI (i + 1)) (lv' := [(4, .int (nI (i + 1))), (5, .int (nI r9)), (0, .ref d), (1, .int (nI b)), (2, .int (nI 2)), (3, .int (nI m9))]) hx hb dX1_nextRank_55 hl (k := 5) rfl (inc_1 _) (by decide) rfl (fun ls hl => ?_)
                  refine lv_goto (tgt := 5) hx hb dX1_nextRank_58 (by decide) ?_
                  have hl : lv_has ls 6 [(0, .ref d), (1, .int (nI b)), (2, .int (nI 2)), (3, .int (oI (some m9))), (4, .int (nI (i + 1)))] := by
                    have h9 := lv_sub (l' := [(0, .ref d), (1, .int (nI b)), (2, .int (nI 2)), (3, .int (nI m9)), (4, .int (nI (i + 1)))]) hl [2, 3, 4, 5, 0] rfl
                    rw [show (.int (oI (some m9)) : Value) = .int (nI m9) from congrArg Value.int rfl]
                    exact h9
                  exact ih (i + 1) (some m9) (by omega) ((nrk_s hR9).trans ((iF_f (fun h => absurd h.1 (by omega))).trans hnx)) (by omega) _ hl
                · refine lv_iload hx hb dX1_nextRank_52 (lv_at hl 0 rfl) ?_
                  refine lv_istore_n (lv' := [(3, .int (nI r9)), (5, .int (nI r9)), (0, .ref d), (1, .int (nI b)), (2, .int (nI 2)), (4, .int (nI i))]) hx hb dX1_nextRank_54 rfl hl (by decide) rfl (fun ls hl => ?_)
                  refine lv_iinc (v := nI (i + 1)) (lv' := [(4, .int (nI (i + 1))), (3, .int (nI r9)), (5, .int (nI r9)), (0, .ref d), (1, .int (nI b)), (2, .int (nI 2))]) hx hb dX1_nextRank_55 hl (k := 5) rfl (inc_1 _) (by decide) rfl (fun ls hl => ?_)
                  refine lv_goto (tgt := 5) hx hb dX1_nextRank_58 (by decide) ?_
                  have hl : lv_has ls 6 [(0, .ref d), (1, .int (nI b)), (2, .int (nI 2)), (3, .int (oI (some r9))), (4, .int (nI (i + 1)))] := by
                    have h9 := lv_sub (l' := [(0, .ref d), (1, .int (nI b)), (2, .int (nI 2)), (3, .int (nI r9)), (4, .int (nI (i + 1)))]) hl [3, 4, 5, 1, 0] rfl
                    rw [show (.int (oI (some r9)) : Value) = .int (nI r9) from congrArg Value.int rfl]
                    exact h9
                  exact ih (i + 1) (some r9) (by omega) ((nrk_s hR9).trans (iF_t ⟨by omega, fun m h => by (rw [hnx] at h; cases h; omega)⟩)) (by omega) _ hl
  refine lv_iconst (v := (-1)) hx hb dX1_nextRank_0 (by decide) ?_
  refine lv_istore_n (lv' := [(3, .int (-1)), (0, .ref d), (1, .int (nI b)), (2, .int (nI 2))]) hx hb dX1_nextRank_1 rfl hl (by decide) rfl (fun ls hl => ?_)
  refine lv_iconst (v := nI 0) hx hb dX1_nextRank_2 (by decide) ?_
  refine lv_istore (lv' := [(4, .int (nI 0)), (3, .int (-1)), (0, .ref d), (1, .int (nI b)), (2, .int (nI 2))]) hx hb dX1_nextRank_3 hl (by decide) rfl (fun ls hl => ?_)
  have hl : lv_has ls 6 [(0, .ref d), (1, .int (nI b)), (2, .int (nI 2)), (3, .int (oI none)), (4, .int (nI 0))] := by
    have h9 := lv_sub (l' := [(0, .ref d), (1, .int (nI b)), (2, .int (nI 2)), (3, .int (-1)), (4, .int (nI 0))]) hl [2, 3, 4, 1, 0] rfl
    rw [show (.int (oI none) : Value) = .int (-1) from congrArg Value.int rfl]
    exact h9
  exact J5 (cn z + 1) 0 none (by omega) rfl (by omega) _ hl
def rm_X1_numberOfRank_n : Room := { frames := 0, cells := 0, slots := 0, locals := 0 }
theorem hd_X1_numberOfRank : k_hd1 yX1_numberOfRank RX1 1 := by decide +kernel
set_option maxHeartbeats 4000000 in
set_option maxRecDepth 100000 in
theorem c_X1_numberOfRank_n (l : Launch) (E : ke_E) (d : Nat) (z : Nat → Int32) : Met l yX1_numberOfRank wsX1_numberOfRank rm_X1_numberOfRank_n (kp E [.ref d, .int (-1)] (dz E d z)) (qp (some (.int (-1)))) 0 0 nof := by
  refine k_hd (cc := cX1_numberOfRank) (maxL := 2) (ret := (some .int)) (by decide) rfl (Nat.le_of_ble_eq_true rfl) ?_
  intro p e s m below meth c ls S hr hlk hnm hK hP hl
  have hx := S.1
  have hb := S.2.1
  have hts := S.2.2.2.2
  have hP : dz E d z s.heap := hP
  have hl : lv_has ls 2 [(0, .ref d), (1, .int (-1))] := hl
  refine lv_iload_n hx hb dX1_numberOfRank_0 rfl (lv_at hl 1 rfl) ?_
  refine lv_if_ge (tgt := 8) hx hb dX1_numberOfRank_1 (by decide) (fun h => absurd h (by decide)) (fun c1 => ?_)
  refine lv_iconst (v := (-1)) hx hb dX1_numberOfRank_4 (by decide) ?_
  refine lv_goto (tgt := 15) hx hb dX1_numberOfRank_5 (by decide) ?_
  exact k_iret hx hb hr hlk dX1_numberOfRank_15 (rfl)
def rm_X1_numberOfRank : Room := { frames := 0, cells := 0, slots := 0, locals := 0 }
set_option maxHeartbeats 4000000 in
set_option maxRecDepth 100000 in
theorem c_X1_numberOfRank (l : Launch) (E : ke_E) (d : Nat) (z : Nat → Int32) (r : Nat) (hr : r < 1000000) : Met l yX1_numberOfRank wsX1_numberOfRank rm_X1_numberOfRank (kp E [.ref d, .int (nI r)] (dz E d z)) (qp (some (.int (nI (nbr r))))) 0 0 nof := by
  refine k_hd (cc := cX1_numberOfRank) (maxL := 2) (ret := (some .int)) (by decide) rfl (Nat.le_of_ble_eq_true rfl) ?_
  intro p e s m below meth c ls S hr hlk hnm hK hP hl
  have hx := S.1
  have hb := S.2.1
  have hts := S.2.2.2.2
  have hP : dz E d z s.heap := hP
  have hl : lv_has ls 2 [(0, .ref d), (1, .int (nI r))] := hl
  refine lv_iload_n hx hb dX1_numberOfRank_0 rfl (lv_at hl 1 rfl) ?_
  refine lv_if_ge (tgt := 8) hx hb dX1_numberOfRank_1 (by decide) (fun c1 => ?_) (fun h => absurd (nI_pos' (by omega)) h)
  refine lv_bipush (v := nI 19) hx hb dX1_numberOfRank_8 (by decide) ?_
  refine lv_iload_n hx hb dX1_numberOfRank_10 rfl (lv_at hl 1 rfl) ?_
  refine lv_bipush (v := nI 20) hx hb dX1_numberOfRank_11 (by decide) ?_
  refine lv_irem hx hb dX1_numberOfRank_13 (by decide) ?_
  refine lv_isub hx hb dX1_numberOfRank_14 ?_
  exact k_iret hx hb hr hlk dX1_numberOfRank_15 (by unfold nbr; rw [pk_rem (by omega) (by decide) (by decide), pk_sub (by omega)])
def rm_X1_numberAt_0 : Room := { frames := 5, cells := 0, slots := 0, locals := 109 }
theorem hd_X1_numberAt : k_hd1 yX1_numberAt RX1 2 := by decide +kernel
set_option maxHeartbeats 4000000 in
set_option maxRecDepth 100000 in
theorem c_X1_numberAt_0 (l : Launch) (E : ke_E) (d : Nat) (z : Nat → Int32) (n : Nat) (hI : iv z) (hn : n < 20) : Met l yX1_numberAt wsX1_numberAt rm_X1_numberAt_0 (kp E [.ref d, .int (nI n), .int (nI 0)] (dz E d z)) (qp (some (.int (oI (oN (rkS (rkW z (nI 1)) (cn z) n)))))) 0 0 nof := by
  refine k_hd (cc := cX1_numberAt) (maxL := 5) (ret := (some .int)) (by decide) rfl (Nat.le_of_ble_eq_true rfl) ?_
  intro p e s m below meth c ls S hr hlk hnm hK hP hl
  have hx := S.1
  have hb := S.2.1
  have hts := S.2.2.2.2
  have hP : dz E d z s.heap := hP
  have hl : lv_has ls 5 [(0, .ref d), (1, .int (nI n)), (2, .int (nI 0))] := hl
  have hc20 := iv_c hI
  have J11 : ∀ (n_ : Nat), ∀ (i : Nat), ∀ (b : Option Nat), i ≤ n → rkS (rkW z (nI 1)) (cn z) i = b → n < i + n_ → ∀ (ls : Array Slot), lv_has ls 5 [(0, .ref d), (1, .int (nI n)), (2, .int (nI 0)), (3, .int (oI b)), (4, .int (nI i))] → W p l e (headSpec wsX1_numberAt rm_X1_numberAt_0).room s m ([.ref d, .int (nI n), .int (nI 0)] : List Value).toArray below meth c s.heap [] 0 0 (MQ below (qp (some (.int (oI (oN (rkS (rkW z (nI 1)) (cn z) n)))))) ([.ref d, .int (nI n), .int (nI 0)] : List Value).toArray s 0 0 nof) (F0 m 11 ls []) := by
    intro n_
    induction n_ with
    | zero =>
      intro i b hi hbb hn_ _ _
      exact absurd hn_ (by omega)
    | succ n_ ih =>
      intro i b hi hbb hn_ ls hl
      rcases b with _ | r9
      · have hl : lv_has ls 5 [(0, .ref d), (1, .int (nI n)), (2, .int (nI 0)), (3, .int (-1)), (4, .int (nI i))] := hl
        refine lv_iload hx hb dX1_numberAt_11 (lv_at hl 4 rfl) ?_
        refine lv_iload_n hx hb dX1_numberAt_13 rfl (lv_at hl 1 rfl) ?_
        refine n_ige (tgt := 35) hx hb dX1_numberAt_14 (by decide) (by omega) (by omega) (fun c14 => ?_) (fun c14 => ?_)
        · refine lv_aload_n hx hb dX1_numberAt_35 rfl (lv_at hl 0 rfl) ?_
          refine lv_iload_n hx hb dX1_numberAt_36 rfl (lv_at hl 3 rfl) ?_
          refine k_V (As := [.int (-1)]) (rest := []) S hK (c_X1_numberOfRank_n l E d z) gX1_numberAt_X1_numberOfRank rfl hd_X1_numberOfRank ⟨rfl, rfl⟩ ⟨Nat.le_of_ble_eq_true rfl, Nat.le_of_ble_eq_true rfl⟩ (k_recv hK (dz_d hP) rfl) hP rfl hl.1 rfl (Nat.le_of_ble_eq_true rfl) dX1_numberAt_37 ⟨Nat.le_of_ble_eq_true rfl, Nat.le_of_ble_eq_true rfl⟩ ?_
          exact k_iret hx hb hr hlk dX1_numberAt_40 (by rw [show n = i + (n - i) by omega, rkS_stop hbb]; rfl)
        · refine lv_iload_n hx hb dX1_numberAt_17 rfl (lv_at hl 3 rfl) ?_
          refine lv_iconst (v := (-1)) hx hb dX1_numberAt_18 (by decide) ?_
          refine lv_icmp_eq (tgt := 35) hx hb dX1_numberAt_19 (by decide) (fun c19 => ?_) (fun h => absurd rfl h)
          refine lv_aload_n hx hb dX1_numberAt_35 rfl (lv_at hl 0 rfl) ?_
          refine lv_iload_n hx hb dX1_numberAt_36 rfl (lv_at hl 3 rfl) ?_
          refine k_V (As := [.int (-1)]) (rest := []) S hK (c_X1_numberOfRank_n l E d z) gX1_numberAt_X1_numberOfRank rfl hd_X1_numberOfRank ⟨rfl, rfl⟩ ⟨Nat.le_of_ble_eq_true rfl, Nat.le_of_ble_eq_true rfl⟩ (k_recv hK (dz_d hP) rfl) hP rfl hl.1 rfl (Nat.le_of_ble_eq_true rfl) dX1_numberAt_37 ⟨Nat.le_of_ble_eq_true rfl, Nat.le_of_ble_eq_true rfl⟩ ?_
          exact k_iret hx hb hr hlk dX1_numberAt_40 (by rw [show n = i + (n - i) by omega, rkS_stop hbb]; rfl)
      · have hl : lv_has ls 5 [(0, .ref d), (1, .int (nI n)), (2, .int (nI 0)), (3, .int (nI r9)), (4, .int (nI i))] := hl
        have hr9 := (rkS_lt (rkW_ok hI) i r9 hbb).2
        refine lv_iload hx hb dX1_numberAt_11 (lv_at hl 4 rfl) ?_
        refine lv_iload_n hx hb dX1_numberAt_13 rfl (lv_at hl 1 rfl) ?_
        refine n_ige (tgt := 35) hx hb dX1_numberAt_14 (by decide) (by omega) (by omega) (fun c14 => ?_) (fun c14 => ?_)
        · refine lv_aload_n hx hb dX1_numberAt_35 rfl (lv_at hl 0 rfl) ?_
          refine lv_iload_n hx hb dX1_numberAt_36 rfl (lv_at hl 3 rfl) ?_
          refine k_V (As := [.int (nI r9)]) (rest := []) S hK (c_X1_numberOfRank l E d z r9 (by omega)) gX1_numberAt_X1_numberOfRank rfl hd_X1_numberOfRank ⟨rfl, rfl⟩ ⟨Nat.le_of_ble_eq_true rfl, Nat.le_of_ble_eq_true rfl⟩ (k_recv hK (dz_d hP) rfl) hP rfl hl.1 rfl (Nat.le_of_ble_eq_true rfl) dX1_numberAt_37 ⟨Nat.le_of_ble_eq_true rfl, Nat.le_of_ble_eq_true rfl⟩ ?_
          exact k_iret hx hb hr hlk dX1_numberAt_40 (by rw [show n = i by omega, hbb]; rfl)
        · refine lv_iload_n hx hb dX1_numberAt_17 rfl (lv_at hl 3 rfl) ?_
          refine lv_iconst (v := (-1)) hx hb dX1_numberAt_18 (by decide) ?_
          refine lv_icmp_eq (tgt := 35) hx hb dX1_numberAt_19 (by decide) (fun h => absurd h (nI_nm1 (by omega))) (fun c19 => ?_)
          refine lv_aload_n hx hb dX1_numberAt_22 rfl (lv_at hl 0 rfl) ?_
          refine lv_iload_n hx hb dX1_numberAt_23 rfl (lv_at hl 3 rfl) ?_
          refine lv_iload_n hx hb dX1_numberAt_24 rfl (lv_at hl 2 rfl) ?_
          refine k_V (As := [.int (nI r9), .int (nI 0)]) (rest := []) S hK (c_X1_nextRank_0 l E d z r9 hI (by omega)) gX1_numberAt_X1_nextRank rfl hd_X1_nextRank ⟨rfl, rfl⟩ ⟨Nat.le_of_ble_eq_true rfl, Nat.le_of_ble_eq_true rfl⟩ (k_recv hK (dz_d hP) rfl) hP rfl hl.1 rfl (Nat.le_of_ble_eq_true rfl) dX1_numberAt_25 ⟨Nat.le_of_ble_eq_true rfl, Nat.le_of_ble_eq_true rfl⟩ ?_
          refine lv_istore_n (lv' := [(3, .int (oI (nrk (rkW z (nI 1)) r9 (cn z)))), (0, .ref d), (1, .int (nI n)), (2, .int (nI 0)), (4, .int (nI i))]) hx hb dX1_numberAt_28 rfl hl (by decide) rfl (fun ls hl => ?_)
          refine lv_iinc (v := nI (i + 1)) (lv' := [(4, .int (nI (i + 1))), (3, .int (oI (nrk (rkW z (nI 1)) r9 (cn z)))), (0, .ref d), (1, .int (nI n)), (2, .int (nI 0))]) hx hb dX1_numberAt_29 hl (k := 4) rfl (inc_1 _) (by decide) rfl (fun ls hl => ?_)
          refine lv_goto (tgt := 11) hx hb dX1_numberAt_32 (by decide) ?_
          exact ih (i + 1) (nrk (rkW z (nI 1)) r9 (cn z)) (by omega) (rkS_s hbb) (by omega) _ (lv_sub hl [2, 3, 4, 1, 0] rfl)
  refine lv_aload_n hx hb dX1_numberAt_0 rfl (lv_at hl 0 rfl) ?_
  refine lv_ldc (v := nI 1000000000) hx hb S.2.2.2.1 (hts _ (List.mem_cons_of_mem _ (List.mem_append_left _ (List.mem_append_left _ (List.mem_append_left _ (List.mem_append_left _ (List.mem_of_getElem? (i := 0) rfl))))))) dX1_numberAt_1 ?_
  refine lv_iload_n hx hb dX1_numberAt_3 rfl (lv_at hl 2 rfl) ?_
  refine k_V (As := [.int (nI 1000000000), .int (nI 0)]) (rest := []) S hK (c_X1_nextRank_0 l E d z 1000000000 hI (by omega)) gX1_numberAt_X1_nextRank rfl hd_X1_nextRank ⟨rfl, rfl⟩ ⟨Nat.le_of_ble_eq_true rfl, Nat.le_of_ble_eq_true rfl⟩ (k_recv hK (dz_d hP) rfl) hP rfl hl.1 rfl (Nat.le_of_ble_eq_true rfl) dX1_numberAt_4 ⟨Nat.le_of_ble_eq_true rfl, Nat.le_of_ble_eq_true rfl⟩ ?_
  refine lv_istore_n (lv' := [(3, .int (oI (nrk (rkW z (nI 1)) 1000000000 (cn z)))), (0, .ref d), (1, .int (nI n)), (2, .int (nI 0))]) hx hb dX1_numberAt_7 rfl hl (by decide) rfl (fun ls hl => ?_)
  refine lv_iconst (v := nI 0) hx hb dX1_numberAt_8 (by decide) ?_
  refine lv_istore (lv' := [(4, .int (nI 0)), (3, .int (oI (nrk (rkW z (nI 1)) 1000000000 (cn z)))), (0, .ref d), (1, .int (nI n)), (2, .int (nI 0))]) hx hb dX1_numberAt_9 hl (by decide) rfl (fun ls hl => ?_)
  exact J11 (n + 1) 0 (nrk (rkW z (nI 1)) 1000000000 (cn z)) (by omega) rfl (by omega) _ (lv_sub hl [2, 3, 4, 1, 0] rfl)
def rm_X1_numberAt_2 : Room := { frames := 4, cells := 0, slots := 0, locals := 89 }
set_option maxHeartbeats 4000000 in
set_option maxRecDepth 100000 in
theorem c_X1_numberAt_2 (l : Launch) (E : ke_E) (d : Nat) (z : Nat → Int32) (n : Nat) (hI : iv z) (hn : n < 20) : Met l yX1_numberAt wsX1_numberAt rm_X1_numberAt_2 (kp E [.ref d, .int (nI n), .int (nI 2)] (dz E d z)) (qp (some (.int (oI (oN (rkS (rkC z) (cn z) n)))))) 0 0 nof := by
  refine k_hd (cc := cX1_numberAt) (maxL := 5) (ret := (some .int)) (by decide) rfl (Nat.le_of_ble_eq_true rfl) ?_
  intro p e s m below meth c ls S hr hlk hnm hK hP hl
  have hx := S.1
  have hb := S.2.1
  have hts := S.2.2.2.2
  have hP : dz E d z s.heap := hP
  have hl : lv_has ls 5 [(0, .ref d), (1, .int (nI n)), (2, .int (nI 2))] := hl
  have hc20 := iv_c hI
  have J11 : ∀ (n_ : Nat), ∀ (i : Nat), ∀ (b : Option Nat), i ≤ n → rkS (rkC z) (cn z) i = b → n < i + n_ → ∀ (ls : Array Slot), lv_has ls 5 [(0, .ref d), (1, .int (nI n)), (2, .int (nI 2)), (3, .int (oI b)), (4, .int (nI i))] → W p l e (headSpec wsX1_numberAt rm_X1_numberAt_2).room s m ([.ref d, .int (nI n), .int (nI 2)] : List Value).toArray below meth c s.heap [] 0 0 (MQ below (qp (some (.int (oI (oN (rkS (rkC z) (cn z) n)))))) ([.ref d, .int (nI n), .int (nI 2)] : List Value).toArray s 0 0 nof) (F0 m 11 ls []) := by
    intro n_
    induction n_ with
    | zero =>
      intro i b hi hbb hn_ _ _
      exact absurd hn_ (by omega)
    | succ n_ ih =>
      intro i b hi hbb hn_ ls hl
      rcases b with _ | r9
      · have hl : lv_has ls 5 [(0, .ref d), (1, .int (nI n)), (2, .int (nI 2)), (3, .int (-1)), (4, .int (nI i))] := hl
        refine lv_iload hx hb dX1_numberAt_11 (lv_at hl 4 rfl) ?_
        refine lv_iload_n hx hb dX1_numberAt_13 rfl (lv_at hl 1 rfl) ?_
        refine n_ige (tgt := 35) hx hb dX1_numberAt_14 (by decide) (by omega) (by omega) (fun c14 => ?_) (fun c14 => ?_)
        · refine lv_aload_n hx hb dX1_numberAt_35 rfl (lv_at hl 0 rfl) ?_
          refine lv_iload_n hx hb dX1_numberAt_36 rfl (lv_at hl 3 rfl) ?_
          refine k_V (As := [.int (-1)]) (rest := []) S hK (c_X1_numberOfRank_n l E d z) gX1_numberAt_X1_numberOfRank rfl hd_X1_numberOfRank ⟨rfl, rfl⟩ ⟨Nat.le_of_ble_eq_true rfl, Nat.le_of_ble_eq_true rfl⟩ (k_recv hK (dz_d hP) rfl) hP rfl hl.1 rfl (Nat.le_of_ble_eq_true rfl) dX1_numberAt_37 ⟨Nat.le_of_ble_eq_true rfl, Nat.le_of_ble_eq_true rfl⟩ ?_
          exact k_iret hx hb hr hlk dX1_numberAt_40 (by rw [show n = i + (n - i) by omega, rkS_stop hbb]; rfl)
        · refine lv_iload_n hx hb dX1_numberAt_17 rfl (lv_at hl 3 rfl) ?_
          refine lv_iconst (v := (-1)) hx hb dX1_numberAt_18 (by decide) ?_
          refine lv_icmp_eq (tgt := 35) hx hb dX1_numberAt_19 (by decide) (fun c19 => ?_) (fun h => absurd rfl h)
          refine lv_aload_n hx hb dX1_numberAt_35 rfl (lv_at hl 0 rfl) ?_
          refine lv_iload_n hx hb dX1_numberAt_36 rfl (lv_at hl 3 rfl) ?_
          refine k_V (As := [.int (-1)]) (rest := []) S hK (c_X1_numberOfRank_n l E d z) gX1_numberAt_X1_numberOfRank rfl hd_X1_numberOfRank ⟨rfl, rfl⟩ ⟨Nat.le_of_ble_eq_true rfl, Nat.le_of_ble_eq_true rfl⟩ (k_recv hK (dz_d hP) rfl) hP rfl hl.1 rfl (Nat.le_of_ble_eq_true rfl) dX1_numberAt_37 ⟨Nat.le_of_ble_eq_true rfl, Nat.le_of_ble_eq_true rfl⟩ ?_
          exact k_iret hx hb hr hlk dX1_numberAt_40 (by rw [show n = i + (n - i) by omega, rkS_stop hbb]; rfl)
      · have hl : lv_has ls 5 [(0, .ref d), (1, .int (nI n)), (2, .int (nI 2)), (3, .int (nI r9)), (4, .int (nI i))] := hl
        have hr9 := (rkS_lt (rkC_ok hI) i r9 hbb).2
        refine lv_iload hx hb dX1_numberAt_11 (lv_at hl 4 rfl) ?_
        refine lv_iload_n hx hb dX1_numberAt_13 rfl (lv_at hl 1 rfl) ?_
        refine n_ige (tgt := 35) hx hb dX1_numberAt_14 (by decide) (by omega) (by omega) (fun c14 => ?_) (fun c14 => ?_)
        · refine lv_aload_n hx hb dX1_numberAt_35 rfl (lv_at hl 0 rfl) ?_
          refine lv_iload_n hx hb dX1_numberAt_36 rfl (lv_at hl 3 rfl) ?_
          refine k_V (As := [.int (nI r9)]) (rest := []) S hK (c_X1_numberOfRank l E d z r9 (by omega)) gX1_numberAt_X1_numberOfRank rfl hd_X1_numberOfRank ⟨rfl, rfl⟩ ⟨Nat.le_of_ble_eq_true rfl, Nat.le_of_ble_eq_true rfl⟩ (k_recv hK (dz_d hP) rfl) hP rfl hl.1 rfl (Nat.le_of_ble_eq_true rfl) dX1_numberAt_37 ⟨Nat.le_of_ble_eq_true rfl, Nat.le_of_ble_eq_true rfl⟩ ?_
          exact k_iret hx hb hr hlk dX1_numberAt_40 (by rw [show n = i by omega, hbb]; rfl)
        · refine lv_iload_n hx hb dX1_numberAt_17 rfl (lv_at hl 3 rfl) ?_
          refine lv_iconst (v := (-1)) hx hb dX1_numberAt_18 (by decide) ?_
          refine lv_icmp_eq (tgt := 35) hx hb dX1_numberAt_19 (by decide) (fun h => absurd h (nI_nm1 (by omega))) (fun c19 => ?_)
          refine lv_aload_n hx hb dX1_numberAt_22 rfl (lv_at hl 0 rfl) ?_
          refine lv_iload_n hx hb dX1_numberAt_23 rfl (lv_at hl 3 rfl) ?_
          refine lv_iload_n hx hb dX1_numberAt_24 rfl (lv_at hl 2 rfl) ?_
          refine k_V (As := [.int (nI r9), .int (nI 2)]) (rest := []) S hK (c_X1_nextRank_2 l E d z r9 hI (by omega)) gX1_numberAt_X1_nextRank rfl hd_X1_nextRank ⟨rfl, rfl⟩ ⟨Nat.le_of_ble_eq_true rfl, Nat.le_of_ble_eq_true rfl⟩ (k_recv hK (dz_d hP) rfl) hP rfl hl.1 rfl (Nat.le_of_ble_eq_true rfl) dX1_numberAt_25 ⟨Nat.le_of_ble_eq_true rfl, Nat.le_of_ble_eq_true rfl⟩ ?_
          refine lv_istore_n (lv' := [(3, .int (oI (nrk (rkC z) r9 (cn z)))), (0, .ref d), (1, .int (nI n)), (2, .int (nI 2)), (4, .int (nI i))]) hx hb dX1_numberAt_28 rfl hl (by decide) rfl (fun ls hl => ?_)
          refine lv_iinc (v := nI (i + 1)) (lv' := [(4, .int (nI (i + 1))), (3, .int (oI (nrk (rkC z) r9 (cn z)))), (0, .ref d), (1, .int (nI n)), (2, .int (nI 2))]) hx hb dX1_numberAt_29 hl (k := 4) rfl (inc_1 _) (by decide) rfl (fun ls hl => ?_)
          refine lv_goto (tgt := 11) hx hb dX1_numberAt_32 (by decide) ?_
          exact ih (i + 1) (nrk (rkC z) r9 (cn z)) (by omega) (rkS_s hbb) (by omega) _ (lv_sub hl [2, 3, 4, 1, 0] rfl)
  refine lv_aload_n hx hb dX1_numberAt_0 rfl (lv_at hl 0 rfl) ?_
  refine lv_ldc (v := nI 1000000000) hx hb S.2.2.2.1 (hts _ (List.mem_cons_of_mem _ (List.mem_append_left _ (List.mem_append_left _ (List.mem_append_left _ (List.mem_append_left _ (List.mem_of_getElem? (i := 0) rfl))))))) dX1_numberAt_1 ?_
  refine lv_iload_n hx hb dX1_numberAt_3 rfl (lv_at hl 2 rfl) ?_
  refine k_V (As := [.int (nI 1000000000), .int (nI 2)]) (rest := []) S hK (c_X1_nextRank_2 l E d z 1000000000 hI (by omega)) gX1_numberAt_X1_nextRank rfl hd_X1_nextRank ⟨rfl, rfl⟩ ⟨Nat.le_of_ble_eq_true rfl, Nat.le_of_ble_eq_true rfl⟩ (k_recv hK (dz_d hP) rfl) hP rfl hl.1 rfl (Nat.le_of_ble_eq_true rfl) dX1_numberAt_4 ⟨Nat.le_of_ble_eq_true rfl, Nat.le_of_ble_eq_true rfl⟩ ?_
  refine lv_istore_n (lv' := [(3, .int (oI (nrk (rkC z) 1000000000 (cn z)))), (0, .ref d), (1, .int (nI n)), (2, .int (nI 2))]) hx hb dX1_numberAt_7 rfl hl (by decide) rfl (fun ls hl => ?_)
  refine lv_iconst (v := nI 0) hx hb dX1_numberAt_8 (by decide) ?_
  refine lv_istore (lv' := [(4, .int (nI 0)), (3, .int (oI (nrk (rkC z) 1000000000 (cn z)))), (0, .ref d), (1, .int (nI n)), (2, .int (nI 2))]) hx hb dX1_numberAt_9 hl (by decide) rfl (fun ls hl => ?_)
  exact J11 (n + 1) 0 (nrk (rkC z) 1000000000 (cn z)) (by omega) rfl (by omega) _ (lv_sub hl [2, 3, 4, 1, 0] rfl)
