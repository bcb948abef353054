def rm_X7_why : Room := { frames := 3, cells := 0, slots := 0, locals := 69 }
theorem hd_X7_why : k_hd1 yX7_why RX7 2 := by decide +kernel
set_option maxHeartbeats 4000000 in
set_option maxRecDepth 100000 in
theorem c_X7_why_1 (l : Launch) (E : ke_E) (o : Nat) (z : Nat → Int32) (w : md_w) (u : Nat) (hI : iv z) (hu : u < cn z) : Met l yX7_why wsX7_why rm_X7_why (kp E [.ref o, .int (nI u), .int (nI 1)] (md E o z w)) (qp (some (.int (wy1 z u)))) 0 0 nof := by
  refine k_hd (cc := cX7_why) (maxL := 4) (ret := (some .int)) (by decide) rfl (Nat.le_of_ble_eq_true rfl) ?_
  intro p e s m below meth c ls S hr hlk hnm hK hP hl
  have hx := S.1
  have hb := S.2.1
  have hts := S.2.2.2.2
  have hP : md E o z w s.heap := hP
  have hl : lv_has ls 4 [(0, .ref o), (1, .int (nI u)), (2, .int (nI 1))] := hl
  have hcn := iv_c hI
  refine lv_aload_n hx hb dX7_why_0 rfl (lv_at hl 0 rfl) ?_
  refine k_get S hK hP.1 rfl (fun _ h => List.mem_cons_of_mem _ (List.mem_append_right _ (h))) 0 (by decide) (List.mem_cons_of_mem _ (List.mem_append_left _ (List.mem_of_getElem? (i := 0) rfl))) rfl (v := .ref (o + 1)) rfl dX7_why_1 ?_
  refine lv_iload_n hx hb dX7_why_4 rfl (lv_at hl 1 rfl) ?_
  refine k_S (As := [.int (nI u)]) (rest := [.ref (o + 1)]) S hK (c_X7_at l E u) gX7_why_X7_at rfl hd_X7_at ⟨rfl, rfl⟩ ⟨Nat.le_of_ble_eq_true rfl, Nat.le_of_ble_eq_true rfl⟩ trivial rfl hl.1 rfl (Nat.le_of_ble_eq_true rfl) dX7_why_5 ⟨Nat.le_of_ble_eq_true rfl, Nat.le_of_ble_eq_true rfl⟩ ?_
  refine lv_bipush (v := nI 6) hx hb dX7_why_8 (by decide) ?_
  refine n_iadd (n := 13*u + 68) hx hb dX7_why_10 (by omega) ?_
  refine k_iald hx hb hK hP.2.1 (by omega) (by decide) (v := z (13*u + 68)) rfl dX7_why_11 ?_
  refine lv_if_eq (tgt := 17) hx hb dX7_why_12 (by decide) (fun c12 => ?_) (fun c12 => ?_)
  · refine lv_aload_n hx hb dX7_why_17 rfl (lv_at hl 0 rfl) ?_
    refine lv_iload_n hx hb dX7_why_18 rfl (lv_at hl 1 rfl) ?_
    refine k_V (As := [.int (nI u)]) (rest := []) S hK (c_X7_isHeld l E o z w u hI hu) gX7_why_X7_isHeld rfl hd_X7_isHeld ⟨rfl, rfl⟩ ⟨Nat.le_of_ble_eq_true rfl, Nat.le_of_ble_eq_true rfl⟩ (k_recv hK hP.1 rfl) hP rfl hl.1 rfl (Nat.le_of_ble_eq_true rfl) dX7_why_19 ⟨Nat.le_of_ble_eq_true rfl, Nat.le_of_ble_eq_true rfl⟩ ?_
    refine lv_iload_n hx hb dX7_why_22 rfl (lv_at hl 2 rfl) ?_
    refine lv_iconst (v := nI 4) hx hb dX7_why_23 (by decide) ?_
    refine n_ine (tgt := 31) hx hb dX7_why_24 (by decide) (by omega) (by omega) (fun c24 => ?_) (fun h => absurd h (by decide))
    refine lv_iconst (v := nI 0) hx hb dX7_why_31 (by decide) ?_
    refine b_ieq0 (tgt := 37) hx hb dX7_why_32 (by decide) (fun c32 => ?_) (fun c32 => ?_)
    · refine lv_iload_n hx hb dX7_why_37 rfl (lv_at hl 2 rfl) ?_
      refine lv_iconst (v := nI 4) hx hb dX7_why_38 (by decide) ?_
      refine n_ine (tgt := 44) hx hb dX7_why_39 (by decide) (by omega) (by omega) (fun c39 => ?_) (fun h => absurd h (by decide))
      refine lv_aload_n hx hb dX7_why_44 rfl (lv_at hl 0 rfl) ?_
      refine lv_iload_n hx hb dX7_why_45 rfl (lv_at hl 1 rfl) ?_
      refine k_V (As := [.int (nI u)]) (rest := []) S hK (c_X7_isTested l E o z w u hI hu) gX7_why_X7_isTested rfl hd_X7_isTested ⟨rfl, rfl⟩ ⟨Nat.le_of_ble_eq_true rfl, Nat.le_of_ble_eq_true rfl⟩ (k_recv hK hP.1 rfl) hP rfl hl.1 rfl (Nat.le_of_ble_eq_true rfl) dX7_why_46 ⟨Nat.le_of_ble_eq_true rfl, Nat.le_of_ble_eq_true rfl⟩ ?_
      refine b_ne (tgt := 54) hx hb dX7_why_49 (by decide) (fun c49 => ?_) (fun c49 => ?_)
      · refine lv_aload_n hx hb dX7_why_54 rfl (lv_at hl 0 rfl) ?_
        refine lv_iload_n hx hb dX7_why_55 rfl (lv_at hl 1 rfl) ?_
        refine lv_iconst (v := nI 0) hx hb dX7_why_56 (by decide) ?_
        refine k_V (As := [.int (nI u), .int (nI 0)]) (rest := []) S hK (c_X7_gradeOf l E o z w u (nI 0) hI hu) gX7_why_X7_gradeOf rfl hd_X7_gradeOf ⟨rfl, rfl⟩ ⟨Nat.le_of_ble_eq_true rfl, Nat.le_of_ble_eq_true rfl⟩ (k_recv hK hP.1 rfl) hP rfl hl.1 rfl (Nat.le_of_ble_eq_true rfl) dX7_why_57 ⟨Nat.le_of_ble_eq_true rfl, Nat.le_of_ble_eq_true rfl⟩ ?_
        refine lv_istore_n (lv' := [(3, .int (gr z u (nI 0))), (0, .ref o), (1, .int (nI u)), (2, .int (nI 1))]) hx hb dX7_why_60 rfl hl (by decide) rfl (fun ls hl => ?_)
        refine lv_iload_n hx hb dX7_why_61 rfl (lv_at hl 3 rfl) ?_
        refine lv_iconst (v := nI 1) hx hb dX7_why_62 (by decide) ?_
        refine n_ine (tgt := 70) hx hb dX7_why_63 (by decide) (by omega) (by omega) (fun h => absurd h (by decide)) (fun c63 => ?_)
        refine lv_iload_n hx hb dX7_why_66 rfl (lv_at hl 0 rfl) ?_
        refine lv_if_eq (tgt := 80) hx hb dX7_why_67 (by decide) (fun c67 => ?_) (fun c67 => ?_)
        · refine lv_iconst (v := nI 4) hx hb dX7_why_80 (by decide) ?_
          exact k_iret hx hb hr hlk dX7_why_81 ((iF_f (fun h => h c12)).trans ((iF_f c32).trans ((iF_f (fun h => h c49)).trans (iF_t c67))))
        · refine lv_iload_n hx hb dX7_why_70 rfl (lv_at hl 3 rfl) ?_
          refine lv_iconst (v := nI 2) hx hb dX7_why_71 (by decide) ?_
          refine n_ine (tgt := 82) hx hb dX7_why_72 (by decide) (by omega) (by omega) (fun c72 => ?_) (fun h => absurd h (by decide))
          refine lv_iload_n hx hb dX7_why_82 rfl (lv_at hl 3 rfl) ?_
          refine lv_iconst (v := nI 1) hx hb dX7_why_83 (by decide) ?_
          refine n_ine (tgt := 107) hx hb dX7_why_84 (by decide) (by omega) (by omega) (fun h => absurd h (by decide)) (fun c84 => ?_)
          refine lv_aload_n hx hb dX7_why_87 rfl (lv_at hl 1 rfl) ?_
          refine k_get S hK hP.1 rfl (fun _ h => List.mem_cons_of_mem _ (List.mem_append_right _ (h))) 0 (by decide) (List.mem_cons_of_mem _ (List.mem_append_left _ (List.mem_of_getElem? (i := 0) rfl))) rfl (v := .ref (o + 1)) rfl dX7_why_88 ?_
          refine lv_iload_n hx hb dX7_why_91 rfl (lv_at hl 2 rfl) ?_
          refine k_S (As := [.int (nI u)]) (rest := [.ref (o + 1)]) S hK (c_X7_at l E u) gX7_why_X7_at rfl hd_X7_at ⟨rfl, rfl⟩ ⟨Nat.le_of_ble_eq_true rfl, Nat.le_of_ble_eq_true rfl⟩ trivial rfl hl.1 rfl (Nat.le_of_ble_eq_true rfl) dX7_why_92 ⟨Nat.le_of_ble_eq_true rfl, Nat.le_of_ble_eq_true rfl⟩ ?_
          refine lv_bipush (v := nI 7) hx hb dX7_why_95 (by decide) ?_
          refine n_iadd (n := 13*u + 69) hx hb dX7_why_97 (by omega) ?_
          refine k_iald hx hb hK hP.2.1 (by omega) (by decide) (v := z (13*u + 69)) rfl dX7_why_98 ?_
          refine lv_iconst (v := nI 1) hx hb dX7_why_99 (by decide) ?_
          refine lv_icmp_le (tgt := 107) hx hb dX7_why_100 (by decide) (fun c100 => ?_) (fun c100 => ?_)
          · refine lv_iconst (v := nI 0) hx hb dX7_why_107 (by decide) ?_
            exact k_iret hx hb hr hlk dX7_why_108 ((iF_f (fun h => h c12)).trans ((iF_f c32).trans ((iF_f (fun h => h c49)).trans ((iF_f c67).trans (iF_t c100)))))
          · refine lv_iconst (v := nI 5) hx hb dX7_why_103 (by decide) ?_
            refine lv_goto (tgt := 108) hx hb dX7_why_104 (by decide) ?_
            exact k_iret hx hb hr hlk dX7_why_108 ((iF_f (fun h => h c12)).trans ((iF_f c32).trans ((iF_f (fun h => h c49)).trans ((iF_f c67).trans (iF_f c100)))))
      · refine lv_iconst (v := nI 3) hx hb dX7_why_52 (by decide) ?_
        exact k_iret hx hb hr hlk dX7_why_53 ((iF_f (fun h => h c12)).trans ((iF_f c32).trans (iF_t c49)))
    · refine lv_iconst (v := nI 2) hx hb dX7_why_35 (by decide) ?_
      exact k_iret hx hb hr hlk dX7_why_36 ((iF_f (fun h => h c12)).trans (iF_t c32))
  · refine lv_iconst (v := nI 1) hx hb dX7_why_15 (by decide) ?_
    exact k_iret hx hb hr hlk dX7_why_16 (iF_t c12)
set_option maxHeartbeats 4000000 in
set_option maxRecDepth 100000 in
theorem c_X7_why_2 (l : Launch) (E : ke_E) (o : Nat) (z : Nat → Int32) (w : md_w) (u : Nat) (hI : iv z) (hu : u < cn z) : Met l yX7_why wsX7_why rm_X7_why (kp E [.ref o, .int (nI u), .int (nI 2)] (md E o z w)) (qp (some (.int (wy2 z u)))) 0 0 nof := by
  refine k_hd (cc := cX7_why) (maxL := 4) (ret := (some .int)) (by decide) rfl (Nat.le_of_ble_eq_true rfl) ?_
  intro p e s m below meth c ls S hr hlk hnm hK hP hl
  have hx := S.1
  have hb := S.2.1
  have hts := S.2.2.2.2
  have hP : md E o z w s.heap := hP
  have hl : lv_has ls 4 [(0, .ref o), (1, .int (nI u)), (2, .int (nI 2))] := hl
  have hcn := iv_c hI
  refine lv_aload_n hx hb dX7_why_0 rfl (lv_at hl 0 rfl) ?_
  refine k_get S hK hP.1 rfl (fun _ h => List.mem_cons_of_mem _ (List.mem_append_right _ (h))) 0 (by decide) (List.mem_cons_of_mem _ (List.mem_append_left _ (List.mem_of_getElem? (i := 0) rfl))) rfl (v := .ref (o + 1)) rfl dX7_why_1 ?_
  refine lv_iload_n hx hb dX7_why_4 rfl (lv_at hl 1 rfl) ?_
  refine k_S (As := [.int (nI u)]) (rest := [.ref (o + 1)]) S hK (c_X7_at l E u) gX7_why_X7_at rfl hd_X7_at ⟨rfl, rfl⟩ ⟨Nat.le_of_ble_eq_true rfl, Nat.le_of_ble_eq_true rfl⟩ trivial rfl hl.1 rfl (Nat.le_of_ble_eq_true rfl) dX7_why_5 ⟨Nat.le_of_ble_eq_true rfl, Nat.le_of_ble_eq_true rfl⟩ ?_
  refine lv_bipush (v := nI 6) hx hb dX7_why_8 (by decide) ?_
  refine n_iadd (n := 13*u + 68) hx hb dX7_why_10 (by omega) ?_
  refine k_iald hx hb hK hP.2.1 (by omega) (by decide) (v := z (13*u + 68)) rfl dX7_why_11 ?_
  refine lv_if_eq (tgt := 17) hx hb dX7_why_12 (by decide) (fun c12 => ?_) (fun c12 => ?_)
  · refine lv_aload_n hx hb dX7_why_17 rfl (lv_at hl 0 rfl) ?_
    refine lv_iload_n hx hb dX7_why_18 rfl (lv_at hl 1 rfl) ?_
    refine k_V (As := [.int (nI u)]) (rest := []) S hK (c_X7_isHeld l E o z w u hI hu) gX7_why_X7_isHeld rfl hd_X7_isHeld ⟨rfl, rfl⟩ ⟨Nat.le_of_ble_eq_true rfl, Nat.le_of_ble_eq_true rfl⟩ (k_recv hK hP.1 rfl) hP rfl hl.1 rfl (Nat.le_of_ble_eq_true rfl) dX7_why_19 ⟨Nat.le_of_ble_eq_true rfl, Nat.le_of_ble_eq_true rfl⟩ ?_
    refine lv_iload_n hx hb dX7_why_22 rfl (lv_at hl 2 rfl) ?_
    refine lv_iconst (v := nI 4) hx hb dX7_why_23 (by decide) ?_
    refine n_ine (tgt := 31) hx hb dX7_why_24 (by decide) (by omega) (by omega) (fun c24 => ?_) (fun h => absurd h (by decide))
    refine lv_iconst (v := nI 0) hx hb dX7_why_31 (by decide) ?_
    refine b_ieq0 (tgt := 37) hx hb dX7_why_32 (by decide) (fun c32 => ?_) (fun c32 => ?_)
    · refine lv_iload_n hx hb dX7_why_37 rfl (lv_at hl 2 rfl) ?_
      refine lv_iconst (v := nI 4) hx hb dX7_why_38 (by decide) ?_
      refine n_ine (tgt := 44) hx hb dX7_why_39 (by decide) (by omega) (by omega) (fun c39 => ?_) (fun h => absurd h (by decide))
      refine lv_aload_n hx hb dX7_why_44 rfl (lv_at hl 0 rfl) ?_
      refine lv_iload_n hx hb dX7_why_45 rfl (lv_at hl 1 rfl) ?_
      refine k_V (As := [.int (nI u)]) (rest := []) S hK (c_X7_isTested l E o z w u hI hu) gX7_why_X7_isTested rfl hd_X7_isTested ⟨rfl, rfl⟩ ⟨Nat.le_of_ble_eq_true rfl, Nat.le_of_ble_eq_true rfl⟩ (k_recv hK hP.1 rfl) hP rfl hl.1 rfl (Nat.le_of_ble_eq_true rfl) dX7_why_46 ⟨Nat.le_of_ble_eq_true rfl, Nat.le_of_ble_eq_true rfl⟩ ?_
      refine b_ne (tgt := 54) hx hb dX7_why_49 (by decide) (fun c49 => ?_) (fun c49 => ?_)
      · refine lv_aload_n hx hb dX7_why_54 rfl (lv_at hl 0 rfl) ?_
        refine lv_iload_n hx hb dX7_why_55 rfl (lv_at hl 1 rfl) ?_
        refine lv_iconst (v := nI 0) hx hb dX7_why_56 (by decide) ?_
        refine k_V (As := [.int (nI u), .int (nI 0)]) (rest := []) S hK (c_X7_gradeOf l E o z w u (nI 0) hI hu) gX7_why_X7_gradeOf rfl hd_X7_gradeOf ⟨rfl, rfl⟩ ⟨Nat.le_of_ble_eq_true rfl, Nat.le_of_ble_eq_true rfl⟩ (k_recv hK hP.1 rfl) hP rfl hl.1 rfl (Nat.le_of_ble_eq_true rfl) dX7_why_57 ⟨Nat.le_of_ble_eq_true rfl, Nat.le_of_ble_eq_true rfl⟩ ?_
        refine lv_istore_n (lv' := [(3, .int (gr z u (nI 0))), (0, .ref o), (1, .int (nI u)), (2, .int (nI 2))]) hx hb dX7_why_60 rfl hl (by decide) rfl (fun ls hl => ?_)
        refine lv_iload_n hx hb dX7_why_61 rfl (lv_at hl 3 rfl) ?_
        refine lv_iconst (v := nI 1) hx hb dX7_why_62 (by decide) ?_
        refine n_ine (tgt := 70) hx hb dX7_why_63 (by decide) (by omega) (by omega) (fun c63 => ?_) (fun h => absurd h (by decide))
        refine lv_iload_n hx hb dX7_why_70 rfl (lv_at hl 3 rfl) ?_
        refine lv_iconst (v := nI 2) hx hb dX7_why_71 (by decide) ?_
        refine n_ine (tgt := 82) hx hb dX7_why_72 (by decide) (by omega) (by omega) (fun h => absurd h (by decide)) (fun c72 => ?_)
        refine lv_iload_n hx hb dX7_why_75 rfl (lv_at hl 0 rfl) ?_
        refine lv_iconst (v := nI 3) hx hb dX7_why_76 (by decide) ?_
        refine lv_icmp_ne (tgt := 82) hx hb dX7_why_77 (by decide) (fun c77 => ?_) (fun c77 => ?_)
        · refine lv_iload_n hx hb dX7_why_82 rfl (lv_at hl 3 rfl) ?_
          refine lv_iconst (v := nI 1) hx hb dX7_why_83 (by decide) ?_
          refine n_ine (tgt := 107) hx hb dX7_why_84 (by decide) (by omega) (by omega) (fun c84 => ?_) (fun h => absurd h (by decide))
          refine lv_iconst (v := nI 0) hx hb dX7_why_107 (by decide) ?_
          exact k_iret hx hb hr hlk dX7_why_108 ((iF_f (fun h => h c12)).trans ((iF_f c32).trans ((iF_f (fun h => h c49)).trans (iF_f c77))))
        · refine lv_iconst (v := nI 4) hx hb dX7_why_80 (by decide) ?_
          exact k_iret hx hb hr hlk dX7_why_81 ((iF_f (fun h => h c12)).trans ((iF_f c32).trans ((iF_f (fun h => h c49)).trans (iF_t c77))))
      · refine lv_iconst (v := nI 3) hx hb dX7_why_52 (by decide) ?_
        exact k_iret hx hb hr hlk dX7_why_53 ((iF_f (fun h => h c12)).trans ((iF_f c32).trans (iF_t c49)))
    · refine lv_iconst (v := nI 2) hx hb dX7_why_35 (by decide) ?_
      exact k_iret hx hb hr hlk dX7_why_36 ((iF_f (fun h => h c12)).trans (iF_t c32))
  · refine lv_iconst (v := nI 1) hx hb dX7_why_15 (by decide) ?_
    exact k_iret hx hb hr hlk dX7_why_16 (iF_t c12)
set_option maxHeartbeats 4000000 in
set_option maxRecDepth 100000 in
theorem c_X7_why_3 (l : Launch) (E : ke_E) (o : Nat) (z : Nat → Int32) (w : md_w) (u : Nat) (hI : iv z) (hu : u < cn z) : Met l yX7_why wsX7_why rm_X7_why (kp E [.ref o, .int (nI u), .int (nI 3)] (md E o z w)) (qp (some (.int (wy3 z u)))) 0 0 nof := by
  refine k_hd (cc := cX7_why) (maxL := 4) (ret := (some .int)) (by decide) rfl (Nat.le_of_ble_eq_true rfl) ?_
  intro p e s m below meth c ls S hr hlk hnm hK hP hl
  have hx := S.1
  have hb := S.2.1
  have hts := S.2.2.2.2
  have hP : md E o z w s.heap := hP
  have hl : lv_has ls 4 [(0, .ref o), (1, .int (nI u)), (2, .int (nI 3))] := hl
  have hcn := iv_c hI
  refine lv_aload_n hx hb dX7_why_0 rfl (lv_at hl 0 rfl) ?_
  refine k_get S hK hP.1 rfl (fun _ h => List.mem_cons_of_mem _ (List.mem_append_right _ (h))) 0 (by decide) (List.mem_cons_of_mem _ (List.mem_append_left _ (List.mem_of_getElem? (i := 0) rfl))) rfl (v := .ref (o + 1)) rfl dX7_why_1 ?_
  refine lv_iload_n hx hb dX7_why_4 rfl (lv_at hl 1 rfl) ?_
  refine k_S (As := [.int (nI u)]) (rest := [.ref (o + 1)]) S hK (c_X7_at l E u) gX7_why_X7_at rfl hd_X7_at ⟨rfl, rfl⟩ ⟨Nat.le_of_ble_eq_true rfl, Nat.le_of_ble_eq_true rfl⟩ trivial rfl hl.1 rfl (Nat.le_of_ble_eq_true rfl) dX7_why_5 ⟨Nat.le_of_ble_eq_true rfl, Nat.le_of_ble_eq_true rfl⟩ ?_
  refine lv_bipush (v := nI 6) hx hb dX7_why_8 (by decide) ?_
  refine n_iadd (n := 13*u + 68) hx hb dX7_why_10 (by omega) ?_
  refine k_iald hx hb hK hP.2.1 (by omega) (by decide) (v := z (13*u + 68)) rfl dX7_why_11 ?_
  refine lv_if_eq (tgt := 17) hx hb dX7_why_12 (by decide) (fun c12 => ?_) (fun c12 => ?_)
  · refine lv_aload_n hx hb dX7_why_17 rfl (lv_at hl 0 rfl) ?_
    refine lv_iload_n hx hb dX7_why_18 rfl (lv_at hl 1 rfl) ?_
    refine k_V (As := [.int (nI u)]) (rest := []) S hK (c_X7_isHeld l E o z w u hI hu) gX7_why_X7_isHeld rfl hd_X7_isHeld ⟨rfl, rfl⟩ ⟨Nat.le_of_ble_eq_true rfl, Nat.le_of_ble_eq_true rfl⟩ (k_recv hK hP.1 rfl) hP rfl hl.1 rfl (Nat.le_of_ble_eq_true rfl) dX7_why_19 ⟨Nat.le_of_ble_eq_true rfl, Nat.le_of_ble_eq_true rfl⟩ ?_
    refine lv_iload_n hx hb dX7_why_22 rfl (lv_at hl 2 rfl) ?_
    refine lv_iconst (v := nI 4) hx hb dX7_why_23 (by decide) ?_
    refine n_ine (tgt := 31) hx hb dX7_why_24 (by decide) (by omega) (by omega) (fun c24 => ?_) (fun h => absurd h (by decide))
    refine lv_iconst (v := nI 0) hx hb dX7_why_31 (by decide) ?_
    refine b_ieq0 (tgt := 37) hx hb dX7_why_32 (by decide) (fun c32 => ?_) (fun c32 => ?_)
    · refine lv_iload_n hx hb dX7_why_37 rfl (lv_at hl 2 rfl) ?_
      refine lv_iconst (v := nI 4) hx hb dX7_why_38 (by decide) ?_
      refine n_ine (tgt := 44) hx hb dX7_why_39 (by decide) (by omega) (by omega) (fun c39 => ?_) (fun h => absurd h (by decide))
      refine lv_aload_n hx hb dX7_why_44 rfl (lv_at hl 0 rfl) ?_
      refine lv_iload_n hx hb dX7_why_45 rfl (lv_at hl 1 rfl) ?_
      refine k_V (As := [.int (nI u)]) (rest := []) S hK (c_X7_isTested l E o z w u hI hu) gX7_why_X7_isTested rfl hd_X7_isTested ⟨rfl, rfl⟩ ⟨Nat.le_of_ble_eq_true rfl, Nat.le_of_ble_eq_true rfl⟩ (k_recv hK hP.1 rfl) hP rfl hl.1 rfl (Nat.le_of_ble_eq_true rfl) dX7_why_46 ⟨Nat.le_of_ble_eq_true rfl, Nat.le_of_ble_eq_true rfl⟩ ?_
      refine b_ne (tgt := 54) hx hb dX7_why_49 (by decide) (fun c49 => ?_) (fun c49 => ?_)
      · refine lv_aload_n hx hb dX7_why_54 rfl (lv_at hl 0 rfl) ?_
        refine lv_iload_n hx hb dX7_why_55 rfl (lv_at hl 1 rfl) ?_
        refine lv_iconst (v := nI 0) hx hb dX7_why_56 (by decide) ?_
        refine k_V (As := [.int (nI u), .int (nI 0)]) (rest := []) S hK (c_X7_gradeOf l E o z w u (nI 0) hI hu) gX7_why_X7_gradeOf rfl hd_X7_gradeOf ⟨rfl, rfl⟩ ⟨Nat.le_of_ble_eq_true rfl, Nat.le_of_ble_eq_true rfl⟩ (k_recv hK hP.1 rfl) hP rfl hl.1 rfl (Nat.le_of_ble_eq_true rfl) dX7_why_57 ⟨Nat.le_of_ble_eq_true rfl, Nat.le_of_ble_eq_true rfl⟩ ?_
        refine lv_istore_n (lv' := [(3, .int (gr z u (nI 0))), (0, .ref o), (1, .int (nI u)), (2, .int (nI 3))]) hx hb dX7_why_60 rfl hl (by decide) rfl (fun ls hl => ?_)
        refine lv_iload_n hx hb dX7_why_61 rfl (lv_at hl 3 rfl) ?_
        refine lv_iconst (v := nI 1) hx hb dX7_why_62 (by decide) ?_
        refine n_ine (tgt := 70) hx hb dX7_why_63 (by decide) (by omega) (by omega) (fun c63 => ?_) (fun h => absurd h (by decide))
        refine lv_iload_n hx hb dX7_why_70 rfl (lv_at hl 3 rfl) ?_
        refine lv_iconst (v := nI 2) hx hb dX7_why_71 (by decide) ?_
        refine n_ine (tgt := 82) hx hb dX7_why_72 (by decide) (by omega) (by omega) (fun c72 => ?_) (fun h => absurd h (by decide))
        refine lv_iload_n hx hb dX7_why_82 rfl (lv_at hl 3 rfl) ?_
        refine lv_iconst (v := nI 1) hx hb dX7_why_83 (by decide) ?_
        refine n_ine (tgt := 107) hx hb dX7_why_84 (by decide) (by omega) (by omega) (fun c84 => ?_) (fun h => absurd h (by decide))
        refine lv_iconst (v := nI 0) hx hb dX7_why_107 (by decide) ?_
        exact k_iret hx hb hr hlk dX7_why_108 ((iF_f (fun h => h c12)).trans ((iF_f c32).trans ((iF_f (fun h => h c49)))))
      · refine lv_iconst (v := nI 3) hx hb dX7_why_52 (by decide) ?_
        exact k_iret hx hb hr hlk dX7_why_53 ((iF_f (fun h => h c12)).trans ((iF_f c32).trans (iF_t c49)))
    · refine lv_iconst (v := nI 2) hx hb dX7_why_35 (by decide) ?_
      exact k_iret hx hb hr hlk dX7_why_36 ((iF_f (fun h => h c12)).trans (iF_t c32))
  · refine lv_iconst (v := nI 1) hx hb dX7_why_15 (by decide) ?_
    exact k_iret hx hb hr hlk dX7_why_16 (iF_t c12)
set_option maxHeartbeats 4000000 in
set_option maxRecDepth 100000 in
theorem c_X7_why_4 (l : Launch) (E : ke_E) (o : Nat) (z : Nat → Int32) (w : md_w) (u : Nat) (hI : iv z) (hu : u < cn z) : Met l yX7_why wsX7_why rm_X7_why (kp E [.ref o, .int (nI u), .int (nI 4)] (md E o z w)) (qp (some (.int (wy4 z u)))) 0 0 nof := by
  refine k_hd (cc := cX7_why) (maxL := 4) (ret := (some .int)) (by decide) rfl (Nat.le_of_ble_eq_true rfl) ?_
  intro p e s m below meth c ls S hr hlk hnm hK hP hl
  have hx := S.1
  have hb := S.2.1
  have hts := S.2.2.2.2
  have hP : md E o z w s.heap := hP
  have hl : lv_has ls 4 [(0, .ref o), (1, .int (nI u)), (2, .int (nI 4))] := hl
  have hcn := iv_c hI
  refine lv_aload_n hx hb dX7_why_0 rfl (lv_at hl 0 rfl) ?_
  refine k_get S hK hP.1 rfl (fun _ h => List.mem_cons_of_mem _ (List.mem_append_right _ (h))) 0 (by decide) (List.mem_cons_of_mem _ (List.mem_append_left _ (List.mem_of_getElem? (i := 0) rfl))) rfl (v := .ref (o + 1)) rfl dX7_why_1 ?_
  refine lv_iload_n hx hb dX7_why_4 rfl (lv_at hl 1 rfl) ?_
  refine k_S (As := [.int (nI u)]) (rest := [.ref (o + 1)]) S hK (c_X7_at l E u) gX7_why_X7_at rfl hd_X7_at ⟨rfl, rfl⟩ ⟨Nat.le_of_ble_eq_true rfl, Nat.le_of_ble_eq_true rfl⟩ trivial rfl hl.1 rfl (Nat.le_of_ble_eq_true rfl) dX7_why_5 ⟨Nat.le_of_ble_eq_true rfl, Nat.le_of_ble_eq_true rfl⟩ ?_
  refine lv_bipush (v := nI 6) hx hb dX7_why_8 (by decide) ?_
  refine n_iadd (n := 13*u + 68) hx hb dX7_why_10 (by omega) ?_
  refine k_iald hx hb hK hP.2.1 (by omega) (by decide) (v := z (13*u + 68)) rfl dX7_why_11 ?_
  refine lv_if_eq (tgt := 17) hx hb dX7_why_12 (by decide) (fun c12 => ?_) (fun c12 => ?_)
  · refine lv_aload_n hx hb dX7_why_17 rfl (lv_at hl 0 rfl) ?_
    refine lv_iload_n hx hb dX7_why_18 rfl (lv_at hl 1 rfl) ?_
    refine k_V (As := [.int (nI u)]) (rest := []) S hK (c_X7_isHeld l E o z w u hI hu) gX7_why_X7_isHeld rfl hd_X7_isHeld ⟨rfl, rfl⟩ ⟨Nat.le_of_ble_eq_true rfl, Nat.le_of_ble_eq_true rfl⟩ (k_recv hK hP.1 rfl) hP rfl hl.1 rfl (Nat.le_of_ble_eq_true rfl) dX7_why_19 ⟨Nat.le_of_ble_eq_true rfl, Nat.le_of_ble_eq_true rfl⟩ ?_
    refine lv_iload_n hx hb dX7_why_22 rfl (lv_at hl 2 rfl) ?_
    refine lv_iconst (v := nI 4) hx hb dX7_why_23 (by decide) ?_
    refine n_ine (tgt := 31) hx hb dX7_why_24 (by decide) (by omega) (by omega) (fun h => absurd h (by decide)) (fun c24 => ?_)
    refine lv_iconst (v := nI 1) hx hb dX7_why_27 (by decide) ?_
    refine lv_goto (tgt := 32) hx hb dX7_why_28 (by decide) ?_
    refine b_ieq1 (tgt := 37) hx hb dX7_why_32 (by decide) (fun c32 => ?_) (fun c32 => ?_)
    · refine lv_iload_n hx hb dX7_why_37 rfl (lv_at hl 2 rfl) ?_
      refine lv_iconst (v := nI 4) hx hb dX7_why_38 (by decide) ?_
      refine n_ine (tgt := 44) hx hb dX7_why_39 (by decide) (by omega) (by omega) (fun h => absurd h (by decide)) (fun c39 => ?_)
      refine lv_iconst (v := nI 0) hx hb dX7_why_42 (by decide) ?_
      exact k_iret hx hb hr hlk dX7_why_43 ((iF_f (fun h => h c12)).trans (iF_f (fun h => h c32)))
    · refine lv_iconst (v := nI 2) hx hb dX7_why_35 (by decide) ?_
      exact k_iret hx hb hr hlk dX7_why_36 ((iF_f (fun h => h c12)).trans (iF_t c32))
  · refine lv_iconst (v := nI 1) hx hb dX7_why_15 (by decide) ?_
    exact k_iret hx hb hr hlk dX7_why_16 (iF_t c12)
def rm_X7_worksFirst : Room := { frames := 3, cells := 0, slots := 0, locals := 69 }
theorem hd_X7_worksFirst : k_hd1 yX7_worksFirst RX7 2 := by decide +kernel
set_option maxHeartbeats 4000000 in
set_option maxRecDepth 100000 in
theorem c_X7_worksFirst (l : Launch) (E : ke_E) (o : Nat) (z : Nat → Int32) (w : md_w) (u : Nat) (v : Nat) (hI : iv z) (hu : u < cn z) (hv : v < cn z) : Met l yX7_worksFirst wsX7_worksFirst rm_X7_worksFirst (kp E [.ref o, .int (nI u), .int (nI v)] (md E o z w)) (qp (some (.int (bI (wf z u v))))) 0 0 nof := by
  refine k_hd (cc := cX7_worksFirst) (maxL := 4) (ret := (some .boolean)) (by decide) rfl (Nat.le_of_ble_eq_true rfl) ?_
  intro p e s m below meth c ls S hr hlk hnm hK hP hl
  have hx := S.1
  have hb := S.2.1
  have hts := S.2.2.2.2
  have hP : md E o z w s.heap := hP
  have hl : lv_has ls 4 [(0, .ref o), (1, .int (nI u)), (2, .int (nI v))] := hl
  have hcn := iv_c hI
  have J33 : ∀ (ls : Array Slot), lv_has ls 4 [(0, .ref o), (1, .int (nI u)), (2, .int (nI v))] → W p l e (headSpec wsX7_worksFirst rm_X7_worksFirst).room s m ([.ref o, .int (nI u), .int (nI v)] : List Value).toArray below meth c s.heap [] 0 0 (MQ below (qp (some (.int (bI (wf z u v))))) ([.ref o, .int (nI u), .int (nI v)] : List Value).toArray s 0 0 nof) (F0 m 33 ls [.int (wfb z u v)]) := by
    intro ls hl
    refine lv_istore_n (lv' := [(3, .int (wfb z u v)), (0, .ref o), (1, .int (nI u)), (2, .int (nI v))]) hx hb dX7_worksFirst_33 rfl hl (by decide) rfl (fun ls hl => ?_)
    refine lv_iload_n hx hb dX7_worksFirst_34 rfl (lv_at hl 0 rfl) ?_
    refine lv_if_gt (tgt := 47) hx hb dX7_worksFirst_35 (by decide) (fun c35 => ?_) (fun c35 => ?_)
    · refine lv_iconst (v := nI 1) hx hb dX7_worksFirst_47 (by decide) ?_
      refine lv_goto (tgt := 52) hx hb dX7_worksFirst_48 (by decide) ?_
      exact k_bret hx hb hr hlk dX7_worksFirst_52 rfl (bI_t (Or.inl c35))
    · refine lv_iload_n hx hb dX7_worksFirst_38 rfl (lv_at hl 0 rfl) ?_
      refine lv_if_ne (tgt := 51) hx hb dX7_worksFirst_39 (by decide) (fun c39 => ?_) (fun c39 => ?_)
      · refine lv_iconst (v := nI 0) hx hb dX7_worksFirst_51 (by decide) ?_
        exact k_bret hx hb hr hlk dX7_worksFirst_52 rfl (bI_f (fun h => h.elim c35 (fun h => c39 h.1)))
      · refine lv_iload_n hx hb dX7_worksFirst_42 rfl (lv_at hl 2 rfl) ?_
        refine lv_iload_n hx hb dX7_worksFirst_43 rfl (lv_at hl 3 rfl) ?_
        refine n_ige (tgt := 51) hx hb dX7_worksFirst_44 (by decide) (by omega) (by omega) (fun c44 => ?_) (fun c44 => ?_)
        · refine lv_iconst (v := nI 0) hx hb dX7_worksFirst_51 (by decide) ?_
          exact k_bret hx hb hr hlk dX7_worksFirst_52 rfl (bI_f (fun h => h.elim c35 (fun h => absurd h.2 (by omega))))
        · refine lv_iconst (v := nI 1) hx hb dX7_worksFirst_47 (by decide) ?_
          refine lv_goto (tgt := 52) hx hb dX7_worksFirst_48 (by decide) ?_
          exact k_bret hx hb hr hlk dX7_worksFirst_52 rfl (bI_t (Or.inr ⟨c39, c44⟩))
  refine lv_aload_n hx hb dX7_worksFirst_0 rfl (lv_at hl 0 rfl) ?_
  refine lv_iload_n hx hb dX7_worksFirst_1 rfl (lv_at hl 1 rfl) ?_
  refine lv_iconst (v := nI 0) hx hb dX7_worksFirst_2 (by decide) ?_
  refine k_V (As := [.int (nI u), .int (nI 0)]) (rest := []) S hK (c_X7_gradeOf l E o z w u (nI 0) hI hu) gX7_worksFirst_X7_gradeOf rfl hd_X7_gradeOf ⟨rfl, rfl⟩ ⟨Nat.le_of_ble_eq_true rfl, Nat.le_of_ble_eq_true rfl⟩ (k_recv hK hP.1 rfl) hP rfl hl.1 rfl (Nat.le_of_ble_eq_true rfl) dX7_worksFirst_3 ⟨Nat.le_of_ble_eq_true rfl, Nat.le_of_ble_eq_true rfl⟩ ?_
  refine lv_aload_n hx hb dX7_worksFirst_6 rfl (lv_at hl 0 rfl) ?_
  refine lv_iload_n hx hb dX7_worksFirst_7 rfl (lv_at hl 2 rfl) ?_
  refine lv_iconst (v := nI 0) hx hb dX7_worksFirst_8 (by decide) ?_
  refine k_V (As := [.int (nI v), .int (nI 0)]) (rest := [.int (gr z u (nI 0))]) S hK (c_X7_gradeOf l E o z w v (nI 0) hI hv) gX7_worksFirst_X7_gradeOf rfl hd_X7_gradeOf ⟨rfl, rfl⟩ ⟨Nat.le_of_ble_eq_true rfl, Nat.le_of_ble_eq_true rfl⟩ (k_recv hK hP.1 rfl) hP rfl hl.1 rfl (Nat.le_of_ble_eq_true rfl) dX7_worksFirst_9 ⟨Nat.le_of_ble_eq_true rfl, Nat.le_of_ble_eq_true rfl⟩ ?_
  refine lv_isub hx hb dX7_worksFirst_12 ?_
  refine lv_istore_n (lv' := [(3, .int ((gr z u (nI 0)) - (gr z v (nI 0)))), (0, .ref o), (1, .int (nI u)), (2, .int (nI v))]) hx hb dX7_worksFirst_13 rfl hl (by decide) rfl (fun ls hl => ?_)
  refine lv_iload_n hx hb dX7_worksFirst_14 rfl (lv_at hl 0 rfl) ?_
  refine lv_if_ne (tgt := 32) hx hb dX7_worksFirst_15 (by decide) (fun c15 => ?_) (fun c15 => ?_)
  · refine lv_iload_n hx hb dX7_worksFirst_32 rfl (lv_at hl 0 rfl) ?_
    refine k_top (y := wfb z u v) (Eq.symm (iF_f c15)) ?_
    exact J33 _ (lv_sub hl [1, 2, 3] rfl)
  · refine lv_aload_n hx hb dX7_worksFirst_18 rfl (lv_at hl 1 rfl) ?_
    refine lv_iload_n hx hb dX7_worksFirst_19 rfl (lv_at hl 2 rfl) ?_
    refine k_V (As := [.int (nI u)]) (rest := []) S hK (c_X7_costOf l E o z w u hI hu) gX7_worksFirst_X7_costOf rfl hd_X7_costOf ⟨rfl, rfl⟩ ⟨Nat.le_of_ble_eq_true rfl, Nat.le_of_ble_eq_true rfl⟩ (k_recv hK hP.1 rfl) hP rfl hl.1 rfl (Nat.le_of_ble_eq_true rfl) dX7_worksFirst_20 ⟨Nat.le_of_ble_eq_true rfl, Nat.le_of_ble_eq_true rfl⟩ ?_
    refine lv_aload_n hx hb dX7_worksFirst_23 rfl (lv_at hl 1 rfl) ?_
    refine lv_iload_n hx hb dX7_worksFirst_24 rfl (lv_at hl 3 rfl) ?_
    refine k_V (As := [.int (nI v)]) (rest := [.int (cst z u)]) S hK (c_X7_costOf l E o z w v hI hv) gX7_worksFirst_X7_costOf rfl hd_X7_costOf ⟨rfl, rfl⟩ ⟨Nat.le_of_ble_eq_true rfl, Nat.le_of_ble_eq_true rfl⟩ (k_recv hK hP.1 rfl) hP rfl hl.1 rfl (Nat.le_of_ble_eq_true rfl) dX7_worksFirst_25 ⟨Nat.le_of_ble_eq_true rfl, Nat.le_of_ble_eq_true rfl⟩ ?_
    refine lv_isub hx hb dX7_worksFirst_28 ?_
    refine lv_goto (tgt := 33) hx hb dX7_worksFirst_29 (by decide) ?_
    refine k_top (y := wfb z u v) (Eq.symm (iF_t c15)) ?_
    exact J33 _ (lv_sub hl [1, 2, 3] rfl)
def rm_X7_nextWork : Room := { frames := 4, cells := 0, slots := 0, locals := 92 }
theorem hd_X7_nextWork : k_hd1 yX7_nextWork RX7 2 := by decide +kernel
set_option maxHeartbeats 4000000 in
set_option maxRecDepth 100000 in
theorem c_X7_nextWork (l : Launch) (E : ke_E) (o : Nat) (z : Nat → Int32) (w : md_w) (d : Int32) (k : Int32) (hI : iv z) : Met l yX7_nextWork wsX7_nextWork rm_X7_nextWork (kp E [.ref o, .int d, .int k] (md E o z w)) (qp (some (.int (oI (nw z d k (cn z)))))) 0 0 nof := by
  refine k_hd (cc := cX7_nextWork) (maxL := 6) (ret := (some .int)) (by decide) rfl (Nat.le_of_ble_eq_true rfl) ?_
  intro p e s m below meth c ls S hr hlk hnm hK hP hl
  have hx := S.1
  have hb := S.2.1
  have hts := S.2.2.2.2
  have hP : md E o z w s.heap := hP
  have hl : lv_has ls 6 [(0, .ref o), (1, .int d), (2, .int k)] := hl
  have hcn := iv_c hI
  have J5 : ∀ (n_ : Nat), ∀ (i : Nat), ∀ (b : Option Nat), i ≤ cn z → nw z d k i = b → cn z < i + n_ → ∀ (ls : Array Slot), lv_has ls 6 [(0, .ref o), (1, .int d), (2, .int k), (3, .int (oI b)), (4, .int (nI i))] → W p l e (headSpec wsX7_nextWork rm_X7_nextWork).room s m ([.ref o, .int d, .int k] : List Value).toArray below meth c s.heap [] 0 0 (MQ below (qp (some (.int (oI (nw z d k (cn z)))))) ([.ref o, .int d, .int k] : List Value).toArray s 0 0 nof) (F0 m 5 ls []) := by
    intro n_
    induction n_ with
    | zero =>
      intro i b hi hbb hn_ _ _
      exact absurd hn_ (by omega)
    | succ n_ ih =>
      intro i b hi hbb hn_ ls hl
      refine lv_iload hx hb dX7_nextWork_5 (lv_at hl 4 rfl) ?_
      refine lv_aload_n hx hb dX7_nextWork_7 rfl (lv_at hl 0 rfl) ?_
      refine k_get S hK hP.1 rfl (fun _ h => List.mem_cons_of_mem _ (List.mem_append_right _ (h))) 0 (by decide) (List.mem_cons_of_mem _ (List.mem_append_left _ (List.mem_append_left _ (List.mem_of_getElem? (i := 0) rfl)))) rfl (v := .ref (o + 1)) rfl dX7_nextWork_8 ?_
      refine lv_iconst (v := nI 0) hx hb dX7_nextWork_11 (by decide) ?_
      refine k_iald hx hb hK hP.2.1 (by omega) (by decide) (v := nI (cn z)) (iv_n hI) dX7_nextWork_12 ?_
      refine n_ige (tgt := 95) hx hb dX7_nextWork_13 (by decide) (by omega) (by omega) (fun c13 => ?_) (fun c13 => ?_)
      · refine lv_iload_n hx hb dX7_nextWork_95 rfl (lv_at hl 3 rfl) ?_
        exact k_iret hx hb hr hlk dX7_nextWork_96 (by rw [← hbb, show i = cn z by omega])
      · refine lv_aload_n hx hb dX7_nextWork_16 rfl (lv_at hl 0 rfl) ?_
        refine k_get S hK hP.1 rfl (fun _ h => List.mem_cons_of_mem _ (List.mem_append_right _ (h))) 0 (by decide) (List.mem_cons_of_mem _ (List.mem_append_left _ (List.mem_append_left _ (List.mem_of_getElem? (i := 0) rfl)))) rfl (v := .ref (o + 1)) rfl dX7_nextWork_17 ?_
        refine lv_iload hx hb dX7_nextWork_20 (lv_at hl 4 rfl) ?_
        refine k_S (As := [.int (nI i)]) (rest := [.ref (o + 1)]) S hK (c_X7_at l E i) gX7_nextWork_X7_at rfl hd_X7_at ⟨rfl, rfl⟩ ⟨Nat.le_of_ble_eq_true rfl, Nat.le_of_ble_eq_true rfl⟩ trivial rfl hl.1 rfl (Nat.le_of_ble_eq_true rfl) dX7_nextWork_22 ⟨Nat.le_of_ble_eq_true rfl, Nat.le_of_ble_eq_true rfl⟩ ?_
        refine lv_bipush (v := nI 6) hx hb dX7_nextWork_25 (by decide) ?_
        refine n_iadd (n := 13*i + 68) hx hb dX7_nextWork_27 (by omega) ?_
        refine k_iald hx hb hK hP.2.1 (by omega) (by decide) (v := z (13*i + 68)) rfl dX7_nextWork_28 ?_
        refine lv_iconst (v := nI 1) hx hb dX7_nextWork_29 (by decide) ?_
        refine lv_icmp_ne (tgt := 59) hx hb dX7_nextWork_30 (by decide) (fun c30 => ?_) (fun c30 => ?_)
        · refine lv_iconst (v := nI 0) hx hb dX7_nextWork_59 (by decide) ?_
          refine lv_istore (lv' := [(5, .int (nI 0)), (0, .ref o), (1, .int d), (2, .int k), (3, .int (oI b)), (4, .int (nI i))]) hx hb dX7_nextWork_60 hl (by decide) rfl (fun ls hl => ?_)
          refine lv_iload hx hb dX7_nextWork_62 (lv_at hl 0 rfl) ?_
          refine lv_if_eq (tgt := 87) hx hb dX7_nextWork_64 (by decide) (fun c64 => ?_) (fun h => absurd h (by decide))
          refine lv_iload_n hx hb dX7_nextWork_87 rfl (lv_at hl 4 rfl) ?_
          refine lv_istore_n (lv' := [(3, .int (oI b)), (5, .int (nI 0)), (0, .ref o), (1, .int d), (2, .int k), (4, .int (nI i))]) hx hb dX7_nextWork_88 rfl hl (by decide) rfl (fun ls hl => ?_)
          refine lv_iinc (v := nI (i + 1)) (lv' := [(4, .int (nI (i + 1))), (3, .int (oI b)), (5, .int (nI 0)), (0, .ref o), (1, .int d), (2, .int k)]) hx hb dX7_nextWork_89 hl (k := 5) rfl (inc_1 _) (by decide) rfl (fun ls hl => ?_)
          refine lv_goto (tgt := 5) hx hb dX7_nextWork_92 (by decide) ?_
          exact ih (i + 1) b (by omega) ((iF_f (fun h => c30 h.1.1)).trans hbb) (by omega) _ (lv_sub hl [3, 4, 5, 1, 0] rfl)
        · refine lv_iload_n hx hb dX7_nextWork_33 rfl (lv_at hl 1 rfl) ?_
          refine lv_iload hx hb dX7_nextWork_34 (lv_at hl 4 rfl) ?_
          refine lv_ishr hx hb dX7_nextWork_36 ?_
          refine lv_iconst (v := nI 1) hx hb dX7_nextWork_37 (by decide) ?_
          refine lv_iand hx hb dX7_nextWork_38 ?_
          refine lv_if_ne (tgt := 59) hx hb dX7_nextWork_39 (by decide) (fun c39 => ?_) (fun c39 => ?_)
          · refine lv_iconst (v := nI 0) hx hb dX7_nextWork_59 (by decide) ?_
            refine lv_istore (lv' := [(5, .int (nI 0)), (0, .ref o), (1, .int d), (2, .int k), (3, .int (oI b)), (4, .int (nI i))]) hx hb dX7_nextWork_60 hl (by decide) rfl (fun ls hl => ?_)
            refine lv_iload hx hb dX7_nextWork_62 (lv_at hl 0 rfl) ?_
            refine lv_if_eq (tgt := 87) hx hb dX7_nextWork_64 (by decide) (fun c64 => ?_) (fun h => absurd h (by decide))
            refine lv_iload_n hx hb dX7_nextWork_87 rfl (lv_at hl 4 rfl) ?_
            refine lv_istore_n (lv' := [(3, .int (oI b)), (5, .int (nI 0)), (0, .ref o), (1, .int d), (2, .int k), (4, .int (nI i))]) hx hb dX7_nextWork_88 rfl hl (by decide) rfl (fun ls hl => ?_)
            refine lv_iinc (v := nI (i + 1)) (lv' := [(4, .int (nI (i + 1))), (3, .int (oI b)), (5, .int (nI 0)), (0, .ref o), (1, .int d), (2, .int k)]) hx hb dX7_nextWork_89 hl (k := 5) rfl (inc_1 _) (by decide) rfl (fun ls hl => ?_)
            refine lv_goto (tgt := 5) hx hb dX7_nextWork_92 (by decide) ?_
            exact ih (i + 1) b (by omega) ((iF_f (fun h => c39 h.1.2.1)).trans hbb) (by omega) _ (lv_sub hl [3, 4, 5, 1, 0] rfl)
          · refine lv_iload_n hx hb dX7_nextWork_42 rfl (lv_at hl 2 rfl) ?_
            refine lv_if_ne (tgt := 55) hx hb dX7_nextWork_43 (by decide) (fun c43 => ?_) (fun c43 => ?_)
            · refine lv_iconst (v := nI 1) hx hb dX7_nextWork_55 (by decide) ?_
              refine lv_goto (tgt := 60) hx hb dX7_nextWork_56 (by decide) ?_
              refine lv_istore (lv' := [(5, .int (nI 1)), (0, .ref o), (1, .int d), (2, .int k), (3, .int (oI b)), (4, .int (nI i))]) hx hb dX7_nextWork_60 hl (by decide) rfl (fun ls hl => ?_)
              refine lv_iload hx hb dX7_nextWork_62 (lv_at hl 0 rfl) ?_
              refine lv_if_eq (tgt := 87) hx hb dX7_nextWork_64 (by decide) (fun h => absurd h (by decide)) (fun c64 => ?_)
              rcases b with _ | j
              · have hl : lv_has ls 6 [(5, .int (nI 1)), (0, .ref o), (1, .int d), (2, .int k), (3, .int (-1)), (4, .int (nI i))] := hl
                refine lv_iload_n hx hb dX7_nextWork_67 rfl (lv_at hl 4 rfl) ?_
                refine lv_iconst (v := (-1)) hx hb dX7_nextWork_68 (by decide) ?_
                refine lv_icmp_eq (tgt := 82) hx hb dX7_nextWork_69 (by decide) (fun c69 => ?_) (fun h => absurd rfl h)
                refine lv_iload hx hb dX7_nextWork_82 (lv_at hl 5 rfl) ?_
                refine lv_goto (tgt := 88) hx hb dX7_nextWork_84 (by decide) ?_
                refine lv_istore_n (lv' := [(3, .int (nI i)), (5, .int (nI 1)), (0, .ref o), (1, .int d), (2, .int k), (4, .int (nI i))]) hx hb dX7_nextWork_88 rfl hl (by decide) rfl (fun ls hl => ?_)
                refine lv_iinc (v := nI (i + 1)) (lv' := [(4, .int (nI (i + 1))), (3, .int (nI i)), (5, .int (nI 1)), (0, .ref o), (1, .int d), (2, .int k)]) hx hb dX7_nextWork_89 hl (k := 5) rfl (inc_1 _) (by decide) rfl (fun ls hl => ?_)
                refine lv_goto (tgt := 5) hx hb dX7_nextWork_92 (by decide) ?_
                have hl : lv_has ls 6 [(0, .ref o), (1, .int d), (2, .int k), (3, .int (oI (some i))), (4, .int (nI (i + 1)))] := by
                  have h9 := lv_sub (l' := [(0, .ref o), (1, .int d), (2, .int k), (3, .int (nI i)), (4, .int (nI (i + 1)))]) hl [3, 4, 5, 1, 0] rfl
                  rw [show (.int (oI (some i)) : Value) = .int (nI i) from congrArg Value.int rfl]
                  exact h9
                exact ih (i + 1) (some i) (by omega) (iF_t ⟨⟨c30, c39, Or.inl c43⟩, Or.inl hbb⟩) (by omega) _ hl
              · have hl : lv_has ls 6 [(5, .int (nI 1)), (0, .ref o), (1, .int d), (2, .int k), (3, .int (nI j)), (4, .int (nI i))] := hl
                have hj : j < i := (nw_lt hbb).1
                refine lv_iload_n hx hb dX7_nextWork_67 rfl (lv_at hl 4 rfl) ?_
                refine lv_iconst (v := (-1)) hx hb dX7_nextWork_68 (by decide) ?_
                refine lv_icmp_eq (tgt := 82) hx hb dX7_nextWork_69 (by decide) (fun h => absurd h (nI_nm1 (by omega))) (fun c69 => ?_)
                refine lv_aload_n hx hb dX7_nextWork_72 rfl (lv_at hl 1 rfl) ?_
                refine lv_iload hx hb dX7_nextWork_73 (lv_at hl 5 rfl) ?_
                refine lv_iload_n hx hb dX7_nextWork_75 rfl (lv_at hl 4 rfl) ?_
                refine k_V (As := [.int (nI i), .int (nI j)]) (rest := []) S hK (c_X7_worksFirst l E o z w i j hI c13 (by omega)) gX7_nextWork_X7_worksFirst rfl hd_X7_worksFirst ⟨rfl, rfl⟩ ⟨Nat.le_of_ble_eq_true rfl, Nat.le_of_ble_eq_true rfl⟩ (k_recv hK hP.1 rfl) hP rfl hl.1 rfl (Nat.le_of_ble_eq_true rfl) dX7_nextWork_76 ⟨Nat.le_of_ble_eq_true rfl, Nat.le_of_ble_eq_true rfl⟩ ?_
                refine b_eq (tgt := 87) hx hb dX7_nextWork_79 (by decide) (fun c79 => ?_) (fun c79 => ?_)
                · refine lv_iload_n hx hb dX7_nextWork_87 rfl (lv_at hl 4 rfl) ?_
                  refine lv_istore_n (lv' := [(3, .int (nI j)), (5, .int (nI 1)), (0, .ref o), (1, .int d), (2, .int k), (4, .int (nI i))]) hx hb dX7_nextWork_88 rfl hl (by decide) rfl (fun ls hl => ?_)
                  refine lv_iinc (v := nI (i + 1)) (lv' := [(4, .int (nI (i + 1))), (3, .int (nI j)), (5, .int (nI 1)), (0, .ref o), (1, .int d), (2, .int k)]) hx hb dX7_nextWork_89 hl (k := 5) rfl (inc_1 _) (by decide) rfl (fun ls hl => ?_)
                  refine lv_goto (tgt := 5) hx hb dX7_nextWork_92 (by decide) ?_
                  have hl : lv_has ls 6 [(0, .ref o), (1, .int d), (2, .int k), (3, .int (oI (some j))), (4, .int (nI (i + 1)))] := by
                    have h9 := lv_sub (l' := [(0, .ref o), (1, .int d), (2, .int k), (3, .int (nI j)), (4, .int (nI (i + 1)))]) hl [3, 4, 5, 1, 0] rfl
                    rw [show (.int (oI (some j)) : Value) = .int (nI j) from congrArg Value.int rfl]
                    exact h9
                  exact ih (i + 1) (some j) (by omega) ((iF_f (fun h => h.2.elim (fun q => nomatch hbb.symm.trans q) (fun ⟨j9, q1, q2⟩ => c79 (by cases hbb.symm.trans q1; exact q2)))).trans hbb) (by omega) _ hl
                · refine lv_iload hx hb dX7_nextWork_82 (lv_at hl 5 rfl) ?_
                  refine lv_goto (tgt := 88) hx hb dX7_nextWork_84 (by decide) ?_
                  refine lv_istore_n (lv' := [(3, .int (nI i)), (5, .int (nI 1)), (0, .ref o), (1, .int d), (2, .int k), (4, .int (nI i))]) hx hb dX7_nextWork_88 rfl hl (by decide) rfl (fun ls hl => ?_)
                  refine lv_iinc (v := nI (i + 1)) (lv' := [(4, .int (nI (i + 1))), (3, .int (nI i)), (5, .int (nI 1)), (0, .ref o), (1, .int d), (2, .int k)]) hx hb dX7_nextWork_89 hl (k := 5) rfl (inc_1 _) (by decide) rfl (fun ls hl => ?_)
                  refine lv_goto (tgt := 5) hx hb dX7_nextWork_92 (by decide) ?_
                  have hl : lv_has ls 6 [(0, .ref o), (1, .int d), (2, .int k), (3, .int (oI (some i))), (4, .int (nI (i + 1)))] := by
                    have h9 := lv_sub (l' := [(0, .ref o), (1, .int d), (2, .int k), (3, .int (nI i)), (4, .int (nI (i + 1)))]) hl [3, 4, 5, 1, 0] rfl
                    rw [show (.int (oI (some i)) : Value) = .int (nI i) from congrArg Value.int rfl]
                    exact h9
                  exact ih (i + 1) (some i) (by omega) (iF_t ⟨⟨c30, c39, Or.inl c43⟩, Or.inr ⟨j, hbb, c79⟩⟩) (by omega) _ hl
            · refine lv_aload_n hx hb dX7_nextWork_46 rfl (lv_at hl 0 rfl) ?_
              refine lv_iload hx hb dX7_nextWork_47 (lv_at hl 4 rfl) ?_
              refine k_V (As := [.int (nI i)]) (rest := []) S hK (c_X7_isHeld l E o z w i hI c13) gX7_nextWork_X7_isHeld rfl hd_X7_isHeld ⟨rfl, rfl⟩ ⟨Nat.le_of_ble_eq_true rfl, Nat.le_of_ble_eq_true rfl⟩ (k_recv hK hP.1 rfl) hP rfl hl.1 rfl (Nat.le_of_ble_eq_true rfl) dX7_nextWork_49 ⟨Nat.le_of_ble_eq_true rfl, Nat.le_of_ble_eq_true rfl⟩ ?_
              refine b_ne (tgt := 59) hx hb dX7_nextWork_52 (by decide) (fun c52 => ?_) (fun c52 => ?_)
              · refine lv_iconst (v := nI 0) hx hb dX7_nextWork_59 (by decide) ?_
                refine lv_istore (lv' := [(5, .int (nI 0)), (0, .ref o), (1, .int d), (2, .int k), (3, .int (oI b)), (4, .int (nI i))]) hx hb dX7_nextWork_60 hl (by decide) rfl (fun ls hl => ?_)
                refine lv_iload hx hb dX7_nextWork_62 (lv_at hl 0 rfl) ?_
                refine lv_if_eq (tgt := 87) hx hb dX7_nextWork_64 (by decide) (fun c64 => ?_) (fun h => absurd h (by decide))
                refine lv_iload_n hx hb dX7_nextWork_87 rfl (lv_at hl 4 rfl) ?_
                refine lv_istore_n (lv' := [(3, .int (oI b)), (5, .int (nI 0)), (0, .ref o), (1, .int d), (2, .int k), (4, .int (nI i))]) hx hb dX7_nextWork_88 rfl hl (by decide) rfl (fun ls hl => ?_)
                refine lv_iinc (v := nI (i + 1)) (lv' := [(4, .int (nI (i + 1))), (3, .int (oI b)), (5, .int (nI 0)), (0, .ref o), (1, .int d), (2, .int k)]) hx hb dX7_nextWork_89 hl (k := 5) rfl (inc_1 _) (by decide) rfl (fun ls hl => ?_)
                refine lv_goto (tgt := 5) hx hb dX7_nextWork_92 (by decide) ?_
                exact ih (i + 1) b (by omega) ((iF_f (fun h => h.1.2.2.elim (fun q => q c43) (fun q => q c52))).trans hbb) (by omega) _ (lv_sub hl [3, 4, 5, 1, 0] rfl)
              · refine lv_iconst (v := nI 1) hx hb dX7_nextWork_55 (by decide) ?_
                refine lv_goto (tgt := 60) hx hb dX7_nextWork_56 (by decide) ?_
                refine lv_istore (lv' := [(5, .int (nI 1)), (0, .ref o), (1, .int d), (2, .int k), (3, .int (oI b)), (4, .int (nI i))]) hx hb dX7_nextWork_60 hl (by decide) rfl (fun ls hl => ?_)
                refine lv_iload hx hb dX7_nextWork_62 (lv_at hl 0 rfl) ?_
                refine lv_if_eq (tgt := 87) hx hb dX7_nextWork_64 (by decide) (fun h => absurd h (by decide)) (fun c64 => ?_)
                rcases b with _ | j
                · have hl : lv_has ls 6 [(5, .int (nI 1)), (0, .ref o), (1, .int d), (2, .int k), (3, .int (-1)), (4, .int (nI i))] := hl
                  refine lv_iload_n hx hb dX7_nextWork_67 rfl (lv_at hl 4 rfl) ?_
                  refine lv_iconst (v := (-1)) hx hb dX7_nextWork_68 (by decide) ?_
                  refine lv_icmp_eq (tgt := 82) hx hb dX7_nextWork_69 (by decide) (fun c69 => ?_) (fun h => absurd rfl h)
                  refine lv_iload hx hb dX7_nextWork_82 (lv_at hl 5 rfl) ?_
                  refine lv_goto (tgt := 88) hx hb dX7_nextWork_84 (by decide) ?_
                  refine lv_istore_n (lv' := [(3, .int (nI i)), (5, .int (nI 1)), (0, .ref o), (1, .int d), (2, .int k), (4, .int (nI i))]) hx hb dX7_nextWork_88 rfl hl (by decide) rfl (fun ls hl => ?_)
                  refine lv_iinc (v := nI (i + 1)) (lv' := [(4, .int (nI (i + 1))), (3, .int (nI i)), (5, .int (nI 1)), (0, .ref o), (1, .int d), (2, .int k)]) hx hb dX7_nextWork_89 hl (k := 5) rfl (inc_1 _) (by decide) rfl (fun ls hl => ?_)
                  refine lv_goto (tgt := 5) hx hb dX7_nextWork_92 (by decide) ?_
                  have hl : lv_has ls 6 [(0, .ref o), (1, .int d), (2, .int k), (3, .int (oI (some i))), (4, .int (nI (i + 1)))] := by
                    have h9 := lv_sub (l' := [(0, .ref o), (1, .int d), (2, .int k), (3, .int (nI i)), (4, .int (nI (i + 1)))]) hl [3, 4, 5, 1, 0] rfl
                    rw [show (.int (oI (some i)) : Value) = .int (nI i) from congrArg Value.int rfl]
                    exact h9
                  exact ih (i + 1) (some i) (by omega) (iF_t ⟨⟨c30, c39, Or.inr c52⟩, Or.inl hbb⟩) (by omega) _ hl
                · have hl : lv_has ls 6 [(5, .int (nI 1)), (0, .ref o), (1, .int d), (2, .int k), (3, .int (nI j)), (4, .int (nI i))] := hl
                  have hj : j < i := (nw_lt hbb).1
                  refine lv_iload_n hx hb dX7_nextWork_67 rfl (lv_at hl 4 rfl) ?_
                  refine lv_iconst (v := (-1)) hx hb dX7_nextWork_68 (by decide) ?_
                  refine lv_icmp_eq (tgt := 82) hx hb dX7_nextWork_69 (by decide) (fun h => absurd h (nI_nm1 (by omega))) (fun c69 => ?_)
                  refine lv_aload_n hx hb dX7_nextWork_72 rfl (lv_at hl 1 rfl) ?_
                  refine lv_iload hx hb dX7_nextWork_73 (lv_at hl 5 rfl) ?_
                  refine lv_iload_n hx hb dX7_nextWork_75 rfl (lv_at hl 4 rfl) ?_
                  refine k_V (As := [.int (nI i), .int (nI j)]) (rest := []) S hK (c_X7_worksFirst l E o z w i j hI c13 (by omega)) gX7_nextWork_X7_worksFirst rfl hd_X7_worksFirst ⟨rfl, rfl⟩ ⟨Nat.le_of_ble_eq_true rfl, Nat.le_of_ble_eq_true rfl⟩ (k_recv hK hP.1 rfl) hP rfl hl.1 rfl (Nat.le_of_ble_eq_true rfl) dX7_nextWork_76 ⟨Nat.le_of_ble_eq_true rfl, Nat.le_of_ble_eq_true rfl⟩ ?_
                  refine b_eq (tgt := 87) hx hb dX7_nextWork_79 (by decide) (fun c79 => ?_) (fun c79 => ?_)
                  · refine lv_iload_n hx hb dX7_nextWork_87 rfl (lv_at hl 4 rfl) ?_
                    refine lv_istore_n (lv' := [(3, .int (nI j)), (5, .int (nI 1)), (0, .ref o), (1, .int d), (2, .int k), (4, .int (nI i))]) hx hb dX7_nextWork_88 rfl hl (by decide) rfl (fun ls hl => ?_)
                    refine lv_iinc (v := nI (i + 1)) (lv' := [(4, .int (nI (i + 1))), (3, .int (nI j)), (5, .int (nI 1)), (0, .ref o), (1, .int d), (2, .int k)]) hx hb dX7_nextWork_89 hl (k := 5) rfl (inc_1 _) (by decide) rfl (fun ls hl => ?_)
                    refine lv_goto (tgt := 5) hx hb dX7_nextWork_92 (by decide) ?_
                    have hl : lv_has ls 6 [(0, .ref o), (1, .int d), (2, .int k), (3, .int (oI (some j))), (4, .int (nI (i + 1)))] := by
                      have h9 := lv_sub (l' := [(0, .ref o), (1, .int d), (2, .int k), (3, .int (nI j)), (4, .int (nI (i + 1)))]) hl [3, 4, 5, 1, 0] rfl
                      rw [show (.int (oI (some j)) : Value) = .int (nI j) from congrArg Value.int rfl]
                      exact h9
                    exact ih (i + 1) (some j) (by omega) ((iF_f (fun h => h.2.elim (fun q => nomatch hbb.symm.trans q) (fun ⟨j9, q1, q2⟩ => c79 (by cases hbb.symm.trans q1; exact q2)))).trans hbb) (by omega) _ hl
                  · refine lv_iload hx hb dX7_nextWork_82 (lv_at hl 5 rfl) ?_
                    refine lv_goto (tgt := 88) hx hb dX7_nextWork_84 (by decide) ?_
                    refine lv_istore_n (lv' := [(3, .int (nI i)), (5, .int (nI 1)), (0, .ref o), (1, .int d), (2, .int k), (4, .int (nI i))]) hx hb dX7_nextWork_88 rfl hl (by decide) rfl (fun ls hl => ?_)
                    refine lv_iinc (v := nI (i + 1)) (lv' := [(4, .int (nI (i + 1))), (3, .int (nI i)), (5, .int (nI 1)), (0, .ref o), (1, .int d), (2, .int k)]) hx hb dX7_nextWork_89 hl (k := 5) rfl (inc_1 _) (by decide) rfl (fun ls hl => ?_)
                    refine lv_goto (tgt := 5) hx hb dX7_nextWork_92 (by decide) ?_
                    have hl : lv_has ls 6 [(0, .ref o), (1, .int d), (2, .int k), (3, .int (oI (some i))), (4, .int (nI (i + 1)))] := by
                      have h9 := lv_sub (l' := [(0, .ref o), (1, .int d), (2, .int k), (3, .int (nI i)), (4, .int (nI (i + 1)))]) hl [3, 4, 5, 1, 0] rfl
                      rw [show (.int (oI (some i)) : Value) = .int (nI i) from congrArg Value.int rfl]
                      exact h9
                    exact ih (i + 1) (some i) (by omega) (iF_t ⟨⟨c30, c39, Or.inr c52⟩, Or.inr ⟨j, hbb, c79⟩⟩) (by omega) _ hl
  refine lv_iconst (v := (-1)) hx hb dX7_nextWork_0 (by decide) ?_
  refine lv_istore_n (lv' := [(3, .int (-1)), (0, .ref o), (1, .int d), (2, .int k)]) hx hb dX7_nextWork_1 rfl hl (by decide) rfl (fun ls hl => ?_)
  refine lv_iconst (v := nI 0) hx hb dX7_nextWork_2 (by decide) ?_
  refine lv_istore (lv' := [(4, .int (nI 0)), (3, .int (-1)), (0, .ref o), (1, .int d), (2, .int k)]) hx hb dX7_nextWork_3 hl (by decide) rfl (fun ls hl => ?_)
  have hl : lv_has ls 6 [(0, .ref o), (1, .int d), (2, .int k), (3, .int (oI none)), (4, .int (nI 0))] := by
    have h9 := lv_sub (l' := [(0, .ref o), (1, .int d), (2, .int k), (3, .int (-1)), (4, .int (nI 0))]) hl [2, 3, 4, 1, 0] rfl
    rw [show (.int (oI none) : Value) = .int (-1) from congrArg Value.int rfl]
    exact h9
  exact J5 (cn z + 1) 0 none (by omega) rfl (by omega) _ hl
def rm_X7_points : Room := { frames := 2, cells := 0, slots := 0, locals := 44 }
theorem hd_X7_points : k_hd1 yX7_points RX7 1 := by decide +kernel
set_option maxHeartbeats 4000000 in
set_option maxRecDepth 100000 in
theorem c_X7_points (l : Launch) (E : ke_E) (o : Nat) (z : Nat → Int32) (w : md_w) (u : Nat) (hI : iv z) (hu : u < cn z) : Met l yX7_points wsX7_points rm_X7_points (kp E [.ref o, .int (nI u)] (md E o z w)) (qp (some (.int (pts z u)))) 0 0 nof := by
  refine k_hd (cc := cX7_points) (maxL := 4) (ret := (some .int)) (by decide) rfl (Nat.le_of_ble_eq_true rfl) ?_
  intro p e s m below meth c ls S hr hlk hnm hK hP hl
  have hx := S.1
  have hb := S.2.1
  have hts := S.2.2.2.2
  have hP : md E o z w s.heap := hP
  have hl : lv_has ls 4 [(0, .ref o), (1, .int (nI u))] := hl
  have hcn := iv_c hI
  refine lv_iconst (v := nI 0) hx hb dX7_points_0 (by decide) ?_
  refine lv_istore_n (lv' := [(2, .int (nI 0)), (0, .ref o), (1, .int (nI u))]) hx hb dX7_points_1 rfl hl (by decide) rfl (fun ls hl => ?_)
  refine lv_iconst (v := nI 0) hx hb dX7_points_2 (by decide) ?_
  refine lv_istore_n (lv' := [(3, .int (nI 0)), (2, .int (nI 0)), (0, .ref o), (1, .int (nI u))]) hx hb dX7_points_3 rfl hl (by decide) rfl (fun ls hl => ?_)
  refine lv_iload_n hx hb dX7_points_4 rfl (lv_at hl 0 rfl) ?_
  refine lv_iconst (v := nI 4) hx hb dX7_points_5 (by decide) ?_
  refine n_ige (tgt := 33) hx hb dX7_points_6 (by decide) (by omega) (by omega) (fun h => absurd h (by decide)) (fun c6 => ?_)
  refine lv_iload_n hx hb dX7_points_9 rfl (lv_at hl 1 rfl) ?_
  refine lv_aload_n hx hb dX7_points_10 rfl (lv_at hl 2 rfl) ?_
  refine lv_iload_n hx hb dX7_points_11 rfl (lv_at hl 3 rfl) ?_
  refine lv_iload_n hx hb dX7_points_12 rfl (lv_at hl 0 rfl) ?_
  refine lv_iconst (v := nI 1) hx hb dX7_points_13 (by decide) ?_
  refine k_V (As := [.int (nI u), .int (nI 0), .int (nI 1)]) (rest := [.int (nI 0)]) S hK (c_X7_score l E o z w u 0 (nI 1) hI hu c6) gX7_points_X7_score rfl hd_X7_score ⟨rfl, rfl⟩ ⟨Nat.le_of_ble_eq_true rfl, Nat.le_of_ble_eq_true rfl⟩ (k_recv hK hP.1 rfl) hP rfl hl.1 rfl (Nat.le_of_ble_eq_true rfl) dX7_points_14 ⟨Nat.le_of_ble_eq_true rfl, Nat.le_of_ble_eq_true rfl⟩ ?_
  refine lv_aload_n hx hb dX7_points_17 rfl (lv_at hl 2 rfl) ?_
  refine lv_iload_n hx hb dX7_points_18 rfl (lv_at hl 3 rfl) ?_
  refine lv_iload_n hx hb dX7_points_19 rfl (lv_at hl 0 rfl) ?_
  refine lv_iconst (v := nI 0) hx hb dX7_points_20 (by decide) ?_
  refine k_V (As := [.int (nI u), .int (nI 0), .int (nI 0)]) (rest := [.int (scr z u 0 (nI 1)), .int (nI 0)]) S hK (c_X7_score l E o z w u 0 (nI 0) hI hu c6) gX7_points_X7_score rfl hd_X7_score ⟨rfl, rfl⟩ ⟨Nat.le_of_ble_eq_true rfl, Nat.le_of_ble_eq_true rfl⟩ (k_recv hK hP.1 rfl) hP rfl hl.1 rfl (Nat.le_of_ble_eq_true rfl) dX7_points_21 ⟨Nat.le_of_ble_eq_true rfl, Nat.le_of_ble_eq_true rfl⟩ ?_
  refine lv_isub hx hb dX7_points_24 ?_
  refine lv_iadd hx hb dX7_points_25 ?_
  refine lv_istore_n (lv' := [(2, .int ((nI 0) + ((scr z u 0 (nI 1)) - (scr z u 0 (nI 0))))), (3, .int (nI 0)), (0, .ref o), (1, .int (nI u))]) hx hb dX7_points_26 rfl hl (by decide) rfl (fun ls hl => ?_)
  refine lv_iinc (v := nI 1) (lv' := [(3, .int (nI 1)), (2, .int ((nI 0) + ((scr z u 0 (nI 1)) - (scr z u 0 (nI 0))))), (0, .ref o), (1, .int (nI u))]) hx hb dX7_points_27 hl (k := 1) rfl (by decide) (by decide) rfl (fun ls hl => ?_)
  refine lv_goto (tgt := 4) hx hb dX7_points_30 (by decide) ?_
  refine lv_iload_n hx hb dX7_points_4 rfl (lv_at hl 0 rfl) ?_
  refine lv_iconst (v := nI 4) hx hb dX7_points_5 (by decide) ?_
  refine n_ige (tgt := 33) hx hb dX7_points_6 (by decide) (by omega) (by omega) (fun h => absurd h (by decide)) (fun c6_1 => ?_)
  refine lv_iload_n hx hb dX7_points_9 rfl (lv_at hl 1 rfl) ?_
  refine lv_aload_n hx hb dX7_points_10 rfl (lv_at hl 2 rfl) ?_
  refine lv_iload_n hx hb dX7_points_11 rfl (lv_at hl 3 rfl) ?_
  refine lv_iload_n hx hb dX7_points_12 rfl (lv_at hl 0 rfl) ?_
  refine lv_iconst (v := nI 1) hx hb dX7_points_13 (by decide) ?_
  refine k_V (As := [.int (nI u), .int (nI 1), .int (nI 1)]) (rest := [.int ((nI 0) + ((scr z u 0 (nI 1)) - (scr z u 0 (nI 0))))]) S hK (c_X7_score l E o z w u 1 (nI 1) hI hu c6_1) gX7_points_X7_score rfl hd_X7_score ⟨rfl, rfl⟩ ⟨Nat.le_of_ble_eq_true rfl, Nat.le_of_ble_eq_true rfl⟩ (k_recv hK hP.1 rfl) hP rfl hl.1 rfl (Nat.le_of_ble_eq_true rfl) dX7_points_14 ⟨Nat.le_of_ble_eq_true rfl, Nat.le_of_ble_eq_true rfl⟩ ?_
  refine lv_aload_n hx hb dX7_points_17 rfl (lv_at hl 2 rfl) ?_
  refine lv_iload_n hx hb dX7_points_18 rfl (lv_at hl 3 rfl) ?_
  refine lv_iload_n hx hb dX7_points_19 rfl (lv_at hl 0 rfl) ?_
  refine lv_iconst (v := nI 0) hx hb dX7_points_20 (by decide) ?_
  refine k_V (As := [.int (nI u), .int (nI 1), .int (nI 0)]) (rest := [.int (scr z u 1 (nI 1)), .int ((nI 0) + ((scr z u 0 (nI 1)) - (scr z u 0 (nI 0))))]) S hK (c_X7_score l E o z w u 1 (nI 0) hI hu c6_1) gX7_points_X7_score rfl hd_X7_score ⟨rfl, rfl⟩ ⟨Nat.le_of_ble_eq_true rfl, Nat.le_of_ble_eq_true rfl⟩ (k_recv hK hP.1 rfl) hP rfl hl.1 rfl (Nat.le_of_ble_eq_true rfl) dX7_points_21 ⟨Nat.le_of_ble_eq_true rfl, Nat.le_of_ble_eq_true rfl⟩ ?_
  refine lv_isub hx hb dX7_points_24 ?_
  refine lv_iadd hx hb dX7_points_25 ?_
  refine lv_istore_n (lv' := [(2, .int (((nI 0) + ((scr z u 0 (nI 1)) - (scr z u 0 (nI 0)))) + ((scr z u 1 (nI 1)) - (scr z u 1 (nI 0))))), (3, .int (nI 1)), (0, .ref o), (1, .int (nI u))]) hx hb dX7_points_26 rfl hl (by decide) rfl (fun ls hl => ?_)
  refine lv_iinc (v := nI 2) (lv' := [(3, .int (nI 2)), (2, .int (((nI 0) + ((scr z u 0 (nI 1)) - (scr z u 0 (nI 0)))) + ((scr z u 1 (nI 1)) - (scr z u 1 (nI 0))))), (0, .ref o), (1, .int (nI u))]) hx hb dX7_points_27 hl (k := 1) rfl (by decide) (by decide) rfl (fun ls hl => ?_)
  refine lv_goto (tgt := 4) hx hb dX7_points_30 (by decide) ?_
  refine lv_iload_n hx hb dX7_points_4 rfl (lv_at hl 0 rfl) ?_
  refine lv_iconst (v := nI 4) hx hb dX7_points_5 (by decide) ?_
  refine n_ige (tgt := 33) hx hb dX7_points_6 (by decide) (by omega) (by omega) (fun h => absurd h (by decide)) (fun c6_2 => ?_)
  refine lv_iload_n hx hb dX7_points_9 rfl (lv_at hl 1 rfl) ?_
  refine lv_aload_n hx hb dX7_points_10 rfl (lv_at hl 2 rfl) ?_
  refine lv_iload_n hx hb dX7_points_11 rfl (lv_at hl 3 rfl) ?_
  refine lv_iload_n hx hb dX7_points_12 rfl (lv_at hl 0 rfl) ?_
  refine lv_iconst (v := nI 1) hx hb dX7_points_13 (by decide) ?_
  refine k_V (As := [.int (nI u), .int (nI 2), .int (nI 1)]) (rest := [.int (((nI 0) + ((scr z u 0 (nI 1)) - (scr z u 0 (nI 0)))) + ((scr z u 1 (nI 1)) - (scr z u 1 (nI 0))))]) S hK (c_X7_score l E o z w u 2 (nI 1) hI hu c6_2) gX7_points_X7_score rfl hd_X7_score ⟨rfl, rfl⟩ ⟨Nat.le_of_ble_eq_true rfl, Nat.le_of_ble_eq_true rfl⟩ (k_recv hK hP.1 rfl) hP rfl hl.1 rfl (Nat.le_of_ble_eq_true rfl) dX7_points_14 ⟨Nat.le_of_ble_eq_true rfl, Nat.le_of_ble_eq_true rfl⟩ ?_
  refine lv_aload_n hx hb dX7_points_17 rfl (lv_at hl 2 rfl) ?_
  refine lv_iload_n hx hb dX7_points_18 rfl (lv_at hl 3 rfl) ?_
  refine lv_iload_n hx hb dX7_points_19 rfl (lv_at hl 0 rfl) ?_
  refine lv_iconst (v := nI 0) hx hb dX7_points_20 (by decide) ?_
  refine k_V (As := [.int (nI u), .int (nI 2), .int (nI 0)]) (rest := [.int (scr z u 2 (nI 1)), .int (((nI 0) + ((scr z u 0 (nI 1)) - (scr z u 0 (nI 0)))) + ((scr z u 1 (nI 1)) - (scr z u 1 (nI 0))))]) S hK (c_X7_score l E o z w u 2 (nI 0) hI hu c6_2) gX7_points_X7_score rfl hd_X7_score ⟨rfl, rfl⟩ ⟨Nat.le_of_ble_eq_true rfl, Nat.le_of_ble_eq_true rfl⟩ (k_recv hK hP.1 rfl) hP rfl hl.1 rfl (Nat.le_of_ble_eq_true rfl) dX7_points_21 ⟨Nat.le_of_ble_eq_true rfl, Nat.le_of_ble_eq_true rfl⟩ ?_
  refine lv_isub hx hb dX7_points_24 ?_
  refine lv_iadd hx hb dX7_points_25 ?_
  refine lv_istore_n (lv' := [(2, .int ((((nI 0) + ((scr z u 0 (nI 1)) - (scr z u 0 (nI 0)))) + ((scr z u 1 (nI 1)) - (scr z u 1 (nI 0)))) + ((scr z u 2 (nI 1)) - (scr z u 2 (nI 0))))), (3, .int (nI 2)), (0, .ref o), (1, .int (nI u))]) hx hb dX7_points_26 rfl hl (by decide) rfl (fun ls hl => ?_)
  refine lv_iinc (v := nI 3) (lv' := [(3, .int (nI 3)), (2, .int ((((nI 0) + ((scr z u 0 (nI 1)) - (scr z u 0 (nI 0)))) + ((scr z u 1 (nI 1)) - (scr z u 1 (nI 0)))) + ((scr z u 2 (nI 1)) - (scr z u 2 (nI 0))))), (0, .ref o), (1, .int (nI u))]) hx hb dX7_points_27 hl (k := 1) rfl (by decide) (by decide) rfl (fun ls hl => ?_)
  refine lv_goto (tgt := 4) hx hb dX7_points_30 (by decide) ?_
  refine lv_iload_n hx hb dX7_points_4 rfl (lv_at hl 0 rfl) ?_
  refine lv_iconst (v := nI 4) hx hb dX7_points_5 (by decide) ?_
  refine n_ige (tgt := 33) hx hb dX7_points_6 (by decide) (by omega) (by omega) (fun h => absurd h (by decide)) (fun c6_3 => ?_)
  refine lv_iload_n hx hb dX7_points_9 rfl (lv_at hl 1 rfl) ?_
  refine lv_aload_n hx hb dX7_points_10 rfl (lv_at hl 2 rfl) ?_
  refine lv_iload_n hx hb dX7_points_11 rfl (lv_at hl 3 rfl) ?_
  refine lv_iload_n hx hb dX7_points_12 rfl (lv_at hl 0 rfl) ?_
  refine lv_iconst (v := nI 1) hx hb dX7_points_13 (by decide) ?_
  refine k_V (As := [.int (nI u), .int (nI 3), .int (nI 1)]) (rest := [.int ((((nI 0) + ((scr z u 0 (nI 1)) - (scr z u 0 (nI 0)))) + ((scr z u 1 (nI 1)) - (scr z u 1 (nI 0)))) + ((scr z u 2 (nI 1)) - (scr z u 2 (nI 0))))]) S hK (c_X7_score l E o z w u 3 (nI 1) hI hu c6_3) gX7_points_X7_score rfl hd_X7_score ⟨rfl, rfl⟩ ⟨Nat.le_of_ble_eq_true rfl, Nat.le_of_ble_eq_true rfl⟩ (k_recv hK hP.1 rfl) hP rfl hl.1 rfl (Nat.le_of_ble_eq_true rfl) dX7_points_14 ⟨Nat.le_of_ble_eq_true rfl, Nat.le_of_ble_eq_true rfl⟩ ?_
  refine lv_aload_n hx hb dX7_points_17 rfl (lv_at hl 2 rfl) ?_
  refine lv_iload_n hx hb dX7_points_18 rfl (lv_at hl 3 rfl) ?_
  refine lv_iload_n hx hb dX7_points_19 rfl (lv_at hl 0 rfl) ?_
  refine lv_iconst (v := nI 0) hx hb dX7_points_20 (by decide) ?_
  refine k_V (As := [.int (nI u), .int (nI 3), .int (nI 0)]) (rest := [.int (scr z u 3 (nI 1)), .int ((((nI 0) + ((scr z u 0 (nI 1)) - (scr z u 0 (nI 0)))) + ((scr z u 1 (nI 1)) - (scr z u 1 (nI 0)))) + ((scr z u 2 (nI 1)) - (scr z u 2 (nI 0))))]) S hK (c_X7_score l E o z w u 3 (nI 0) hI hu c6_3) gX7_points_X7_score rfl hd_X7_score ⟨rfl, rfl⟩ ⟨Nat.le_of_ble_eq_true rfl, Nat.le_of_ble_eq_true rfl⟩ (k_recv hK hP.1 rfl) hP rfl hl.1 rfl (Nat.le_of_ble_eq_true rfl) dX7_points_21 ⟨Nat.le_of_ble_eq_true rfl, Nat.le_of_ble_eq_true rfl⟩ ?_
  refine lv_isub hx hb dX7_points_24 ?_
  refine lv_iadd hx hb dX7_points_25 ?_
  refine lv_istore_n (lv' := [(2, .int (((((nI 0) + ((scr z u 0 (nI 1)) - (scr z u 0 (nI 0)))) + ((scr z u 1 (nI 1)) - (scr z u 1 (nI 0)))) + ((scr z u 2 (nI 1)) - (scr z u 2 (nI 0)))) + ((scr z u 3 (nI 1)) - (scr z u 3 (nI 0))))), (3, .int (nI 3)), (0, .ref o), (1, .int (nI u))]) hx hb dX7_points_26 rfl hl (by decide) rfl (fun ls hl => ?_)
  refine lv_iinc (v := nI 4) (lv' := [(3, .int (nI 4)), (2, .int (((((nI 0) + ((scr z u 0 (nI 1)) - (scr z u 0 (nI 0)))) + ((scr z u 1 (nI 1)) - (scr z u 1 (nI 0)))) + ((scr z u 2 (nI 1)) - (scr z u 2 (nI 0)))) + ((scr z u 3 (nI 1)) - (scr z u 3 (nI 0))))), (0, .ref o), (1, .int (nI u))]) hx hb dX7_points_27 hl (k := 1) rfl (by decide) (by decide) rfl (fun ls hl => ?_)
  refine lv_goto (tgt := 4) hx hb dX7_points_30 (by decide) ?_
  refine lv_iload_n hx hb dX7_points_4 rfl (lv_at hl 0 rfl) ?_
  refine lv_iconst (v := nI 4) hx hb dX7_points_5 (by decide) ?_
  refine n_ige (tgt := 33) hx hb dX7_points_6 (by decide) (by omega) (by omega) (fun c6_4 => ?_) (fun h => absurd h (by decide))
  refine lv_iload_n hx hb dX7_points_33 rfl (lv_at hl 1 rfl) ?_
  exact k_iret hx hb hr hlk dX7_points_34 (rfl)
def rm_X7_amountOf : Room := { frames := 3, cells := 0, slots := 0, locals := 69 }
theorem hd_X7_amountOf : k_hd1 yX7_amountOf RX7 1 := by decide +kernel
set_option maxHeartbeats 4000000 in
set_option maxRecDepth 100000 in
theorem c_X7_amountOf (l : Launch) (E : ke_E) (o : Nat) (z : Nat → Int32) (w : md_w) (u : Nat) (hI : iv z) (hu : u < cn z) : Met l yX7_amountOf wsX7_amountOf rm_X7_amountOf (kp E [.ref o, .int (nI u)] (md E o z w)) (qp (some (.int (amt z u)))) 0 0 nof := by
  refine k_hd (cc := cX7_amountOf) (maxL := 3) (ret := (some .int)) (by decide) rfl (Nat.le_of_ble_eq_true rfl) ?_
  intro p e s m below meth c ls S hr hlk hnm hK hP hl
  have hx := S.1
  have hb := S.2.1
  have hts := S.2.2.2.2
  have hP : md E o z w s.heap := hP
  have hl : lv_has ls 3 [(0, .ref o), (1, .int (nI u))] := hl
  have hcn := iv_c hI
  refine lv_aload_n hx hb dX7_amountOf_0 rfl (lv_at hl 0 rfl) ?_
  refine lv_iload_n hx hb dX7_amountOf_1 rfl (lv_at hl 1 rfl) ?_
  refine k_V (As := [.int (nI u)]) (rest := []) S hK (c_X7_costOf l E o z w u hI hu) gX7_amountOf_X7_costOf rfl hd_X7_costOf ⟨rfl, rfl⟩ ⟨Nat.le_of_ble_eq_true rfl, Nat.le_of_ble_eq_true rfl⟩ (k_recv hK hP.1 rfl) hP rfl hl.1 rfl (Nat.le_of_ble_eq_true rfl) dX7_amountOf_2 ⟨Nat.le_of_ble_eq_true rfl, Nat.le_of_ble_eq_true rfl⟩ ?_
  refine lv_aload_n hx hb dX7_amountOf_5 rfl (lv_at hl 0 rfl) ?_
  refine k_get S hK hP.1 rfl (fun _ h => List.mem_cons_of_mem _ (List.mem_append_right _ (h))) 0 (by decide) (List.mem_cons_of_mem _ (List.mem_append_left _ (List.mem_of_getElem? (i := 0) rfl))) rfl (v := .ref (o + 1)) rfl dX7_amountOf_6 ?_
  refine lv_aload_n hx hb dX7_amountOf_9 rfl (lv_at hl 0 rfl) ?_
  refine lv_iload_n hx hb dX7_amountOf_10 rfl (lv_at hl 1 rfl) ?_
  refine k_V (As := [.int (nI u)]) (rest := [.ref (o + 1), .int (cst z u)]) S hK (c_X7_sellerOf l E o z w u hI hu) gX7_amountOf_X7_sellerOf rfl hd_X7_sellerOf ⟨rfl, rfl⟩ ⟨Nat.le_of_ble_eq_true rfl, Nat.le_of_ble_eq_true rfl⟩ (k_recv hK hP.1 rfl) hP rfl hl.1 rfl (Nat.le_of_ble_eq_true rfl) dX7_amountOf_11 ⟨Nat.le_of_ble_eq_true rfl, Nat.le_of_ble_eq_true rfl⟩ ?_
  have hq1 : pv z (up z u) < 4 := iv_pvl hI (iv_upl hI hu)
  refine k_S (As := [.int (nI (pv z (up z u)))]) (rest := [.ref (o + 1), .int (cst z u)]) S hK (c_X7_seller l E (pv z (up z u))) gX7_amountOf_X7_seller rfl hd_X7_seller ⟨rfl, rfl⟩ ⟨Nat.le_of_ble_eq_true rfl, Nat.le_of_ble_eq_true rfl⟩ trivial rfl hl.1 rfl (Nat.le_of_ble_eq_true rfl) dX7_amountOf_14 ⟨Nat.le_of_ble_eq_true rfl, Nat.le_of_ble_eq_true rfl⟩ ?_
  refine lv_iconst (v := nI 4) hx hb dX7_amountOf_17 (by decide) ?_
  refine n_iadd (n := 8*pv z (up z u) + 34) hx hb dX7_amountOf_18 (by omega) ?_
  refine lv_aload_n hx hb dX7_amountOf_19 rfl (lv_at hl 0 rfl) ?_
  refine k_get S hK hP.1 rfl (fun _ h => List.mem_cons_of_mem _ (List.mem_append_right _ (h))) 0 (by decide) (List.mem_cons_of_mem _ (List.mem_append_left _ (List.mem_of_getElem? (i := 0) rfl))) rfl (v := .ref (o + 1)) rfl dX7_amountOf_20 ?_
  refine lv_iload_n hx hb dX7_amountOf_23 rfl (lv_at hl 1 rfl) ?_
  refine k_S (As := [.int (nI u)]) (rest := [.ref (o + 1), .int (nI (8*pv z (up z u) + 34)), .ref (o + 1), .int (cst z u)]) S hK (c_X7_at l E u) gX7_amountOf_X7_at rfl hd_X7_at ⟨rfl, rfl⟩ ⟨Nat.le_of_ble_eq_true rfl, Nat.le_of_ble_eq_true rfl⟩ trivial rfl hl.1 rfl (Nat.le_of_ble_eq_true rfl) dX7_amountOf_24 ⟨Nat.le_of_ble_eq_true rfl, Nat.le_of_ble_eq_true rfl⟩ ?_
  refine lv_iconst (v := nI 1) hx hb dX7_amountOf_27 (by decide) ?_
  refine n_iadd (n := 13*u + 63) hx hb dX7_amountOf_28 (by omega) ?_
  have hq2 := iv_url hI hu
  refine k_iald hx hb hK hP.2.1 (by omega) (by decide) (v := nI (ur z u)) (iv_ur hI hu) dX7_amountOf_29 ?_
  refine n_iadd (n := 8*pv z (up z u) + ur z u + 34) hx hb dX7_amountOf_30 (by omega) ?_
  refine k_iald hx hb hK hP.2.1 (by omega) (by decide) (v := z (8*pv z (up z u) + ur z u + 34)) rfl dX7_amountOf_31 ?_
  refine lv_imul hx hb dX7_amountOf_32 ?_
  refine lv_bipush (v := nI 100) hx hb dX7_amountOf_33 (by decide) ?_
  refine lv_idiv hx hb dX7_amountOf_35 (by decide) ?_
  refine lv_istore_n (lv' := [(2, .int (((cst z u) * (z (8*pv z (up z u) + ur z u + 34))) / (nI 100))), (0, .ref o), (1, .int (nI u))]) hx hb dX7_amountOf_36 rfl hl (by decide) rfl (fun ls hl => ?_)
  refine lv_iload_n hx hb dX7_amountOf_37 rfl (lv_at hl 0 rfl) ?_
  refine lv_aload_n hx hb dX7_amountOf_38 rfl (lv_at hl 1 rfl) ?_
  refine lv_iload_n hx hb dX7_amountOf_39 rfl (lv_at hl 2 rfl) ?_
  refine lv_iconst (v := nI 0) hx hb dX7_amountOf_40 (by decide) ?_
  refine k_V (As := [.int (nI u), .int (nI 0)]) (rest := [.int (((cst z u) * (z (8*pv z (up z u) + ur z u + 34))) / (nI 100))]) S hK (c_X7_gradeOf l E o z w u (nI 0) hI hu) gX7_amountOf_X7_gradeOf rfl hd_X7_gradeOf ⟨rfl, rfl⟩ ⟨Nat.le_of_ble_eq_true rfl, Nat.le_of_ble_eq_true rfl⟩ (k_recv hK hP.1 rfl) hP rfl hl.1 rfl (Nat.le_of_ble_eq_true rfl) dX7_amountOf_41 ⟨Nat.le_of_ble_eq_true rfl, Nat.le_of_ble_eq_true rfl⟩ ?_
  refine lv_imul hx hb dX7_amountOf_44 ?_
  refine lv_iconst (v := nI 3) hx hb dX7_amountOf_45 (by decide) ?_
  refine lv_idiv hx hb dX7_amountOf_46 (by decide) ?_
  exact k_iret hx hb hr hlk dX7_amountOf_47 (rfl)
def rm_X7_waits : Room := { frames := 1, cells := 0, slots := 0, locals := 20 }
theorem hd_X7_waits : k_hd1 yX7_waits RX7 1 := by decide +kernel
set_option maxHeartbeats 4000000 in
set_option maxRecDepth 100000 in
theorem c_X7_waits (l : Launch) (E : ke_E) (o : Nat) (z : Nat → Int32) (w : md_w) (u : Nat) (hI : iv z) (hu : u < cn z) : Met l yX7_waits wsX7_waits rm_X7_waits (kp E [.ref o, .int (nI u)] (md E o z w)) (qp (some (.int (bI (wts z u))))) 0 0 nof := by
  refine k_hd (cc := cX7_waits) (maxL := 2) (ret := (some .boolean)) (by decide) rfl (Nat.le_of_ble_eq_true rfl) ?_
  intro p e s m below meth c ls S hr hlk hnm hK hP hl
  have hx := S.1
  have hb := S.2.1
  have hts := S.2.2.2.2
  have hP : md E o z w s.heap := hP
  have hl : lv_has ls 2 [(0, .ref o), (1, .int (nI u))] := hl
  have hcn := iv_c hI
  refine lv_aload_n hx hb dX7_waits_0 rfl (lv_at hl 0 rfl) ?_
  refine k_get S hK hP.1 rfl (fun _ h => List.mem_cons_of_mem _ (List.mem_append_right _ (h))) 0 (by decide) (List.mem_cons_of_mem _ (List.mem_append_left _ (List.mem_of_getElem? (i := 0) rfl))) rfl (v := .ref (o + 1)) rfl dX7_waits_1 ?_
  refine lv_iload_n hx hb dX7_waits_4 rfl (lv_at hl 1 rfl) ?_
  refine k_S (As := [.int (nI u)]) (rest := [.ref (o + 1)]) S hK (c_X7_at l E u) gX7_waits_X7_at rfl hd_X7_at ⟨rfl, rfl⟩ ⟨Nat.le_of_ble_eq_true rfl, Nat.le_of_ble_eq_true rfl⟩ trivial rfl hl.1 rfl (Nat.le_of_ble_eq_true rfl) dX7_waits_5 ⟨Nat.le_of_ble_eq_true rfl, Nat.le_of_ble_eq_true rfl⟩ ?_
  refine lv_bipush (v := nI 8) hx hb dX7_waits_8 (by decide) ?_
  refine n_iadd (n := 13*u + 70) hx hb dX7_waits_10 (by omega) ?_
  refine k_iald hx hb hK hP.2.1 (by omega) (by decide) (v := z (13*u + 70)) rfl dX7_waits_11 ?_
  refine lv_iconst (v := (-1)) hx hb dX7_waits_12 (by decide) ?_
  refine lv_icmp_eq (tgt := 35) hx hb dX7_waits_13 (by decide) (fun c13 => ?_) (fun c13 => ?_)
  · refine lv_iconst (v := nI 0) hx hb dX7_waits_35 (by decide) ?_
    exact k_bret hx hb hr hlk dX7_waits_36 rfl (bI_f (fun h => h.1 c13))
  · refine lv_aload_n hx hb dX7_waits_16 rfl (lv_at hl 0 rfl) ?_
    refine k_get S hK hP.1 rfl (fun _ h => List.mem_cons_of_mem _ (List.mem_append_right _ (h))) 0 (by decide) (List.mem_cons_of_mem _ (List.mem_append_left _ (List.mem_of_getElem? (i := 0) rfl))) rfl (v := .ref (o + 1)) rfl dX7_waits_17 ?_
    refine lv_iload_n hx hb dX7_waits_20 rfl (lv_at hl 1 rfl) ?_
    refine k_S (As := [.int (nI u)]) (rest := [.ref (o + 1)]) S hK (c_X7_at l E u) gX7_waits_X7_at rfl hd_X7_at ⟨rfl, rfl⟩ ⟨Nat.le_of_ble_eq_true rfl, Nat.le_of_ble_eq_true rfl⟩ trivial rfl hl.1 rfl (Nat.le_of_ble_eq_true rfl) dX7_waits_21 ⟨Nat.le_of_ble_eq_true rfl, Nat.le_of_ble_eq_true rfl⟩ ?_
    refine lv_bipush (v := nI 10) hx hb dX7_waits_24 (by decide) ?_
    refine n_iadd (n := 13*u + 72) hx hb dX7_waits_26 (by omega) ?_
    refine k_iald hx hb hK hP.2.1 (by omega) (by decide) (v := z (13*u + 72)) rfl dX7_waits_27 ?_
    refine lv_if_ne (tgt := 35) hx hb dX7_waits_28 (by decide) (fun c28 => ?_) (fun c28 => ?_)
    · refine lv_iconst (v := nI 0) hx hb dX7_waits_35 (by decide) ?_
      exact k_bret hx hb hr hlk dX7_waits_36 rfl (bI_f (fun h => c28 h.2))
    · refine lv_iconst (v := nI 1) hx hb dX7_waits_31 (by decide) ?_
      refine lv_goto (tgt := 36) hx hb dX7_waits_32 (by decide) ?_
      exact k_bret hx hb hr hlk dX7_waits_36 rfl (bI_t ⟨c13, c28⟩)
def rm_X7_nextClaim : Room := { frames := 2, cells := 0, slots := 0, locals := 41 }
theorem hd_X7_nextClaim : k_hd1 yX7_nextClaim RX7 1 := by decide +kernel
set_option maxHeartbeats 4000000 in
set_option maxRecDepth 100000 in
theorem c_X7_nextClaim (l : Launch) (E : ke_E) (o : Nat) (z : Nat → Int32) (w : md_w) (d : Int32) (hI : iv z) : Met l yX7_nextClaim wsX7_nextClaim rm_X7_nextClaim (kp E [.ref o, .int d] (md E o z w)) (qp (some (.int (oI (nc z d (cn z)))))) 0 0 nof := by
  refine k_hd (cc := cX7_nextClaim) (maxL := 5) (ret := (some .int)) (by decide) rfl (Nat.le_of_ble_eq_true rfl) ?_
  intro p e s m below meth c ls S hr hlk hnm hK hP hl
  have hx := S.1
  have hb := S.2.1
  have hts := S.2.2.2.2
  have hP : md E o z w s.heap := hP
  have hl : lv_has ls 5 [(0, .ref o), (1, .int d)] := hl
  have hcn := iv_c hI
  have J4 : ∀ (n_ : Nat), ∀ (i : Nat), ∀ (b : Option Nat), i ≤ cn z → nc z d i = b → cn z < i + n_ → ∀ (ls : Array Slot), lv_has ls 5 [(0, .ref o), (1, .int d), (2, .int (oI b)), (3, .int (nI i))] → W p l e (headSpec wsX7_nextClaim rm_X7_nextClaim).room s m ([.ref o, .int d] : List Value).toArray below meth c s.heap [] 0 0 (MQ below (qp (some (.int (oI (nc z d (cn z)))))) ([.ref o, .int d] : List Value).toArray s 0 0 nof) (F0 m 4 ls []) := by
    intro n_
    induction n_ with
    | zero =>
      intro i b hi hbb hn_ _ _
      exact absurd hn_ (by omega)
    | succ n_ ih =>
      intro i b hi hbb hn_ ls hl
      refine lv_iload_n hx hb dX7_nextClaim_4 rfl (lv_at hl 3 rfl) ?_
      refine lv_aload_n hx hb dX7_nextClaim_5 rfl (lv_at hl 0 rfl) ?_
      refine k_get S hK hP.1 rfl (fun _ h => List.mem_cons_of_mem _ (List.mem_append_right _ (h))) 0 (by decide) (List.mem_cons_of_mem _ (List.mem_append_left _ (List.mem_of_getElem? (i := 0) rfl))) rfl (v := .ref (o + 1)) rfl dX7_nextClaim_6 ?_
      refine lv_iconst (v := nI 0) hx hb dX7_nextClaim_9 (by decide) ?_
      refine k_iald hx hb hK hP.2.1 (by omega) (by decide) (v := nI (cn z)) (iv_n hI) dX7_nextClaim_10 ?_
      refine n_ige (tgt := 86) hx hb dX7_nextClaim_11 (by decide) (by omega) (by omega) (fun c11 => ?_) (fun c11 => ?_)
      · refine lv_iload_n hx hb dX7_nextClaim_86 rfl (lv_at hl 2 rfl) ?_
        exact k_iret hx hb hr hlk dX7_nextClaim_87 (by rw [← hbb, show i = cn z by omega])
      · refine lv_aload_n hx hb dX7_nextClaim_14 rfl (lv_at hl 0 rfl) ?_
        refine lv_iload_n hx hb dX7_nextClaim_15 rfl (lv_at hl 3 rfl) ?_
        refine k_V (As := [.int (nI i)]) (rest := []) S hK (c_X7_waits l E o z w i hI c11) gX7_nextClaim_X7_waits rfl hd_X7_waits ⟨rfl, rfl⟩ ⟨Nat.le_of_ble_eq_true rfl, Nat.le_of_ble_eq_true rfl⟩ (k_recv hK hP.1 rfl) hP rfl hl.1 rfl (Nat.le_of_ble_eq_true rfl) dX7_nextClaim_16 ⟨Nat.le_of_ble_eq_true rfl, Nat.le_of_ble_eq_true rfl⟩ ?_
        refine b_eq (tgt := 34) hx hb dX7_nextClaim_19 (by decide) (fun c19 => ?_) (fun c19 => ?_)
        · refine lv_iconst (v := nI 0) hx hb dX7_nextClaim_34 (by decide) ?_
          refine lv_istore (lv' := [(4, .int (nI 0)), (0, .ref o), (1, .int d), (2, .int (oI b)), (3, .int (nI i))]) hx hb dX7_nextClaim_35 hl (by decide) rfl (fun ls hl => ?_)
          refine lv_iload hx hb dX7_nextClaim_37 (lv_at hl 0 rfl) ?_
          refine lv_if_eq (tgt := 78) hx hb dX7_nextClaim_39 (by decide) (fun c39 => ?_) (fun h => absurd h (by decide))
          refine lv_iload_n hx hb dX7_nextClaim_78 rfl (lv_at hl 3 rfl) ?_
          refine lv_istore_n (lv' := [(2, .int (oI b)), (4, .int (nI 0)), (0, .ref o), (1, .int d), (3, .int (nI i))]) hx hb dX7_nextClaim_79 rfl hl (by decide) rfl (fun ls hl => ?_)
          refine lv_iinc (v := nI (i + 1)) (lv' := [(3, .int (nI (i + 1))), (2, .int (oI b)), (4, .int (nI 0)), (0, .ref o), (1, .int d)]) hx hb dX7_nextClaim_80 hl (k := 4) rfl (inc_1 _) (by decide) rfl (fun ls hl => ?_)
          refine lv_goto (tgt := 4) hx hb dX7_nextClaim_83 (by decide) ?_
          exact ih (i + 1) b (by omega) ((iF_f (fun h => c19 h.1.1)).trans hbb) (by omega) _ (lv_sub hl [3, 4, 1, 0] rfl)
        · refine lv_iload_n hx hb dX7_nextClaim_22 rfl (lv_at hl 1 rfl) ?_
          refine lv_iload_n hx hb dX7_nextClaim_23 rfl (lv_at hl 3 rfl) ?_
          refine lv_ishr hx hb dX7_nextClaim_24 ?_
          refine lv_iconst (v := nI 1) hx hb dX7_nextClaim_25 (by decide) ?_
          refine lv_iand hx hb dX7_nextClaim_26 ?_
          refine lv_if_ne (tgt := 34) hx hb dX7_nextClaim_27 (by decide) (fun c27 => ?_) (fun c27 => ?_)
          · refine lv_iconst (v := nI 0) hx hb dX7_nextClaim_34 (by decide) ?_
            refine lv_istore (lv' := [(4, .int (nI 0)), (0, .ref o), (1, .int d), (2, .int (oI b)), (3, .int (nI i))]) hx hb dX7_nextClaim_35 hl (by decide) rfl (fun ls hl => ?_)
            refine lv_iload hx hb dX7_nextClaim_37 (lv_at hl 0 rfl) ?_
            refine lv_if_eq (tgt := 78) hx hb dX7_nextClaim_39 (by decide) (fun c39 => ?_) (fun h => absurd h (by decide))
            refine lv_iload_n hx hb dX7_nextClaim_78 rfl (lv_at hl 3 rfl) ?_
            refine lv_istore_n (lv' := [(2, .int (oI b)), (4, .int (nI 0)), (0, .ref o), (1, .int d), (3, .int (nI i))]) hx hb dX7_nextClaim_79 rfl hl (by decide) rfl (fun ls hl => ?_)
            refine lv_iinc (v := nI (i + 1)) (lv' := [(3, .int (nI (i + 1))), (2, .int (oI b)), (4, .int (nI 0)), (0, .ref o), (1, .int d)]) hx hb dX7_nextClaim_80 hl (k := 4) rfl (inc_1 _) (by decide) rfl (fun ls hl => ?_)
            refine lv_goto (tgt := 4) hx hb dX7_nextClaim_83 (by decide) ?_
            exact ih (i + 1) b (by omega) ((iF_f (fun h => c27 h.1.2)).trans hbb) (by omega) _ (lv_sub hl [3, 4, 1, 0] rfl)
          · refine lv_iconst (v := nI 1) hx hb dX7_nextClaim_30 (by decide) ?_
            refine lv_goto (tgt := 35) hx hb dX7_nextClaim_31 (by decide) ?_
            refine lv_istore (lv' := [(4, .int (nI 1)), (0, .ref o), (1, .int d), (2, .int (oI b)), (3, .int (nI i))]) hx hb dX7_nextClaim_35 hl (by decide) rfl (fun ls hl => ?_)
            refine lv_iload hx hb dX7_nextClaim_37 (lv_at hl 0 rfl) ?_
            refine lv_if_eq (tgt := 78) hx hb dX7_nextClaim_39 (by decide) (fun h => absurd h (by decide)) (fun c39 => ?_)
            rcases b with _ | j
            · have hl : lv_has ls 5 [(4, .int (nI 1)), (0, .ref o), (1, .int d), (2, .int (-1)), (3, .int (nI i))] := hl
              refine lv_iload_n hx hb dX7_nextClaim_42 rfl (lv_at hl 3 rfl) ?_
              refine lv_iconst (v := (-1)) hx hb dX7_nextClaim_43 (by decide) ?_
              refine lv_icmp_eq (tgt := 74) hx hb dX7_nextClaim_44 (by decide) (fun c44 => ?_) (fun h => absurd rfl h)
              refine lv_iload_n hx hb dX7_nextClaim_74 rfl (lv_at hl 4 rfl) ?_
              refine lv_goto (tgt := 79) hx hb dX7_nextClaim_75 (by decide) ?_
              refine lv_istore_n (lv' := [(2, .int (nI i)), (4, .int (nI 1)), (0, .ref o), (1, .int d), (3, .int (nI i))]) hx hb dX7_nextClaim_79 rfl hl (by decide) rfl (fun ls hl => ?_)
              refine lv_iinc (v := nI (i + 1)) (lv' := [(3, .int (nI (i + 1))), (2, .int (nI i)), (4, .int (nI 1)), (0, .ref o), (1, .int d)]) hx hb dX7_nextClaim_80 hl (k := 4) rfl (inc_1 _) (by decide) rfl (fun ls hl => ?_)
              refine lv_goto (tgt := 4) hx hb dX7_nextClaim_83 (by decide) ?_
              have hl : lv_has ls 5 [(0, .ref o), (1, .int d), (2, .int (oI (some i))), (3, .int (nI (i + 1)))] := by
                have h9 := lv_sub (l' := [(0, .ref o), (1, .int d), (2, .int (nI i)), (3, .int (nI (i + 1)))]) hl [3, 4, 1, 0] rfl
                rw [show (.int (oI (some i)) : Value) = .int (nI i) from congrArg Value.int rfl]
                exact h9
              exact ih (i + 1) (some i) (by omega) (iF_t ⟨⟨c19, c27⟩, Or.inl hbb⟩) (by omega) _ hl
            · have hl : lv_has ls 5 [(4, .int (nI 1)), (0, .ref o), (1, .int d), (2, .int (nI j)), (3, .int (nI i))] := hl
              have hj : j < i := (nc_lt hbb).1
              refine lv_iload_n hx hb dX7_nextClaim_42 rfl (lv_at hl 3 rfl) ?_
              refine lv_iconst (v := (-1)) hx hb dX7_nextClaim_43 (by decide) ?_
              refine lv_icmp_eq (tgt := 74) hx hb dX7_nextClaim_44 (by decide) (fun h => absurd h (nI_nm1 (by omega))) (fun c44 => ?_)
              refine lv_aload_n hx hb dX7_nextClaim_47 rfl (lv_at hl 1 rfl) ?_
              refine k_get S hK hP.1 rfl (fun _ h => List.mem_cons_of_mem _ (List.mem_append_right _ (h))) 0 (by decide) (List.mem_cons_of_mem _ (List.mem_append_left _ (List.mem_of_getElem? (i := 0) rfl))) rfl (v := .ref (o + 1)) rfl dX7_nextClaim_48 ?_
              refine lv_iload_n hx hb dX7_nextClaim_51 rfl (lv_at hl 4 rfl) ?_
              refine k_S (As := [.int (nI i)]) (rest := [.ref (o + 1)]) S hK (c_X7_at l E i) gX7_nextClaim_X7_at rfl hd_X7_at ⟨rfl, rfl⟩ ⟨Nat.le_of_ble_eq_true rfl, Nat.le_of_ble_eq_true rfl⟩ trivial rfl hl.1 rfl (Nat.le_of_ble_eq_true rfl) dX7_nextClaim_52 ⟨Nat.le_of_ble_eq_true rfl, Nat.le_of_ble_eq_true rfl⟩ ?_
              refine lv_bipush (v := nI 8) hx hb dX7_nextClaim_55 (by decide) ?_
              refine n_iadd (n := 13*i + 70) hx hb dX7_nextClaim_57 (by omega) ?_
              refine k_iald hx hb hK hP.2.1 (by omega) (by decide) (v := z (13*i + 70)) rfl dX7_nextClaim_58 ?_
              refine lv_aload_n hx hb dX7_nextClaim_59 rfl (lv_at hl 1 rfl) ?_
              refine k_get S hK hP.1 rfl (fun _ h => List.mem_cons_of_mem _ (List.mem_append_right _ (h))) 0 (by decide) (List.mem_cons_of_mem _ (List.mem_append_left _ (List.mem_of_getElem? (i := 0) rfl))) rfl (v := .ref (o + 1)) rfl dX7_nextClaim_60 ?_
              refine lv_iload_n hx hb dX7_nextClaim_63 rfl (lv_at hl 3 rfl) ?_
              refine k_S (As := [.int (nI j)]) (rest := [.ref (o + 1), .int (z (13*i + 70))]) S hK (c_X7_at l E j) gX7_nextClaim_X7_at rfl hd_X7_at ⟨rfl, rfl⟩ ⟨Nat.le_of_ble_eq_true rfl, Nat.le_of_ble_eq_true rfl⟩ trivial rfl hl.1 rfl (Nat.le_of_ble_eq_true rfl) dX7_nextClaim_64 ⟨Nat.le_of_ble_eq_true rfl, Nat.le_of_ble_eq_true rfl⟩ ?_
              refine lv_bipush (v := nI 8) hx hb dX7_nextClaim_67 (by decide) ?_
              refine n_iadd (n := 13*j + 70) hx hb dX7_nextClaim_69 (by omega) ?_
              refine k_iald hx hb hK hP.2.1 (by omega) (by decide) (v := z (13*j + 70)) rfl dX7_nextClaim_70 ?_
              refine lv_icmp_le (tgt := 78) hx hb dX7_nextClaim_71 (by decide) (fun c71 => ?_) (fun c71 => ?_)
              · refine lv_iload_n hx hb dX7_nextClaim_78 rfl (lv_at hl 3 rfl) ?_
                refine lv_istore_n (lv' := [(2, .int (nI j)), (4, .int (nI 1)), (0, .ref o), (1, .int d), (3, .int (nI i))]) hx hb dX7_nextClaim_79 rfl hl (by decide) rfl (fun ls hl => ?_)
                refine lv_iinc (v := nI (i + 1)) (lv' := [(3, .int (nI (i + 1))), (2, .int (nI j)), (4, .int (nI 1)), (0, .ref o), (1, .int d)]) hx hb dX7_nextClaim_80 hl (k := 4) rfl (inc_1 _) (by decide) rfl (fun ls hl => ?_)
                refine lv_goto (tgt := 4) hx hb dX7_nextClaim_83 (by decide) ?_
                have hl : lv_has ls 5 [(0, .ref o), (1, .int d), (2, .int (oI (some j))), (3, .int (nI (i + 1)))] := by
                  have h9 := lv_sub (l' := [(0, .ref o), (1, .int d), (2, .int (nI j)), (3, .int (nI (i + 1)))]) hl [3, 4, 1, 0] rfl
                  rw [show (.int (oI (some j)) : Value) = .int (nI j) from congrArg Value.int rfl]
                  exact h9
                exact ih (i + 1) (some j) (by omega) ((iF_f (fun h => h.2.elim (fun q => nomatch hbb.symm.trans q) (fun ⟨j9, q1, q2⟩ => q2 (by cases hbb.symm.trans q1; exact c71)))).trans hbb) (by omega) _ hl
              · refine lv_iload_n hx hb dX7_nextClaim_74 rfl (lv_at hl 4 rfl) ?_
                refine lv_goto (tgt := 79) hx hb dX7_nextClaim_75 (by decide) ?_
                refine lv_istore_n (lv' := [(2, .int (nI i)), (4, .int (nI 1)), (0, .ref o), (1, .int d), (3, .int (nI i))]) hx hb dX7_nextClaim_79 rfl hl (by decide) rfl (fun ls hl => ?_)
                refine lv_iinc (v := nI (i + 1)) (lv' := [(3, .int (nI (i + 1))), (2, .int (nI i)), (4, .int (nI 1)), (0, .ref o), (1, .int d)]) hx hb dX7_nextClaim_80 hl (k := 4) rfl (inc_1 _) (by decide) rfl (fun ls hl => ?_)
                refine lv_goto (tgt := 4) hx hb dX7_nextClaim_83 (by decide) ?_
                have hl : lv_has ls 5 [(0, .ref o), (1, .int d), (2, .int (oI (some i))), (3, .int (nI (i + 1)))] := by
                  have h9 := lv_sub (l' := [(0, .ref o), (1, .int d), (2, .int (nI i)), (3, .int (nI (i + 1)))]) hl [3, 4, 1, 0] rfl
                  rw [show (.int (oI (some i)) : Value) = .int (nI i) from congrArg Value.int rfl]
                  exact h9
                exact ih (i + 1) (some i) (by omega) (iF_t ⟨⟨c19, c27⟩, Or.inr ⟨j, hbb, c71⟩⟩) (by omega) _ hl
  refine lv_iconst (v := (-1)) hx hb dX7_nextClaim_0 (by decide) ?_
  refine lv_istore_n (lv' := [(2, .int (-1)), (0, .ref o), (1, .int d)]) hx hb dX7_nextClaim_1 rfl hl (by decide) rfl (fun ls hl => ?_)
  refine lv_iconst (v := nI 0) hx hb dX7_nextClaim_2 (by decide) ?_
  refine lv_istore_n (lv' := [(3, .int (nI 0)), (2, .int (-1)), (0, .ref o), (1, .int d)]) hx hb dX7_nextClaim_3 rfl hl (by decide) rfl (fun ls hl => ?_)
  have hl : lv_has ls 5 [(0, .ref o), (1, .int d), (2, .int (oI none)), (3, .int (nI 0))] := by
    have h9 := lv_sub (l' := [(0, .ref o), (1, .int d), (2, .int (-1)), (3, .int (nI 0))]) hl [2, 3, 1, 0] rfl
    rw [show (.int (oI none) : Value) = .int (-1) from congrArg Value.int rfl]
    exact h9
  exact J4 (cn z + 1) 0 none (by omega) rfl (by omega) _ hl
