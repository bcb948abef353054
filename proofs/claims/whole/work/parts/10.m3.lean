def rm_X7_brings : Room := { frames := 3, cells := 0, slots := 0, locals := 69 }
theorem hd_X7_brings : k_hd1 yX7_brings RX7 2 := by decide +kernel
set_option maxHeartbeats 4000000 in
set_option maxRecDepth 100000 in
theorem c_X7_brings (l : Launch) (E : ke_E) (o : Nat) (z : Nat → Int32) (w : md_w) (u : Nat) (r : Nat) (hI : iv z) (hu : u < cn z) (hr4 : r < 5) : Met l yX7_brings wsX7_brings rm_X7_brings (kp E [.ref o, .int (nI u), .int (nI r)] (md E o z w)) (qp (some (.int (brg z u r)))) 0 0 nof := by
  refine k_hd (cc := cX7_brings) (maxL := 3) (ret := (some .int)) (by decide) rfl (Nat.le_of_ble_eq_true rfl) ?_
  intro p e s m below meth c ls S hr hlk hnm hK hP hl
  have hx := S.1
  have hb := S.2.1
  have hts := S.2.2.2.2
  have hP : md E o z w s.heap := hP
  have hl : lv_has ls 3 [(0, .ref o), (1, .int (nI u)), (2, .int (nI r))] := hl
  have hcn := iv_c hI
  refine lv_iload_n hx hb dX7_brings_0 rfl (lv_at hl 2 rfl) ?_
  refine lv_iconst (v := nI 2) hx hb dX7_brings_1 (by decide) ?_
  refine n_ine (tgt := 19) hx hb dX7_brings_2 (by decide) (by omega) (by omega) (fun c2 => ?_) (fun c2 => ?_)
  · refine lv_iload_n hx hb dX7_brings_19 rfl (lv_at hl 2 rfl) ?_
    refine lv_iconst (v := nI 4) hx hb dX7_brings_20 (by decide) ?_
    refine n_ine (tgt := 32) hx hb dX7_brings_21 (by decide) (by omega) (by omega) (fun c21 => ?_) (fun c21 => ?_)
    · refine lv_iconst (v := nI 0) hx hb dX7_brings_32 (by decide) ?_
      exact k_iret hx hb hr hlk dX7_brings_33 ((iF_f c2).trans (iF_f c21))
    · refine lv_aload_n hx hb dX7_brings_24 rfl (lv_at hl 0 rfl) ?_
      refine lv_iload_n hx hb dX7_brings_25 rfl (lv_at hl 1 rfl) ?_
      refine k_V (As := [.int (nI u)]) (rest := []) S hK (c_X7_costOf l E o z w u hI hu) gX7_brings_X7_costOf rfl hd_X7_costOf ⟨rfl, rfl⟩ ⟨Nat.le_of_ble_eq_true rfl, Nat.le_of_ble_eq_true rfl⟩ (k_recv hK hP.1 rfl) hP rfl hl.1 rfl (Nat.le_of_ble_eq_true rfl) dX7_brings_26 ⟨Nat.le_of_ble_eq_true rfl, Nat.le_of_ble_eq_true rfl⟩ ?_
      refine lv_goto (tgt := 33) hx hb dX7_brings_29 (by decide) ?_
      exact k_iret hx hb hr hlk dX7_brings_33 ((iF_f c2).trans (iF_t c21))
  · refine lv_aload_n hx hb dX7_brings_5 rfl (lv_at hl 0 rfl) ?_
    refine lv_iload_n hx hb dX7_brings_6 rfl (lv_at hl 1 rfl) ?_
    refine lv_aload_n hx hb dX7_brings_7 rfl (lv_at hl 0 rfl) ?_
    refine lv_iload_n hx hb dX7_brings_8 rfl (lv_at hl 1 rfl) ?_
    refine lv_iconst (v := nI 0) hx hb dX7_brings_9 (by decide) ?_
    refine k_V (As := [.int (nI u), .int (nI 0)]) (rest := [.int (nI u), .ref o]) S hK (c_X7_gradeOf l E o z w u (nI 0) hI hu) gX7_brings_X7_gradeOf rfl hd_X7_gradeOf ⟨rfl, rfl⟩ ⟨Nat.le_of_ble_eq_true rfl, Nat.le_of_ble_eq_true rfl⟩ (k_recv hK hP.1 rfl) hP rfl hl.1 rfl (Nat.le_of_ble_eq_true rfl) dX7_brings_10 ⟨Nat.le_of_ble_eq_true rfl, Nat.le_of_ble_eq_true rfl⟩ ?_
    refine k_V (As := [.int (nI u), .int (gr z u (nI 0))]) (rest := []) S hK (c_X7_price l E o z w u (gr z u (nI 0)) hI hu) gX7_brings_X7_price rfl hd_X7_price ⟨rfl, rfl⟩ ⟨Nat.le_of_ble_eq_true rfl, Nat.le_of_ble_eq_true rfl⟩ (k_recv hK hP.1 rfl) hP rfl hl.1 rfl (Nat.le_of_ble_eq_true rfl) dX7_brings_13 ⟨Nat.le_of_ble_eq_true rfl, Nat.le_of_ble_eq_true rfl⟩ ?_
    refine lv_goto (tgt := 33) hx hb dX7_brings_16 (by decide) ?_
    exact k_iret hx hb hr hlk dX7_brings_33 (iF_t c2)
def rm_X7_maySet : Room := { frames := 1, cells := 0, slots := 0, locals := 22 }
theorem hd_X7_maySet : k_hd1 yX7_maySet RX7 2 := by decide +kernel
set_option maxHeartbeats 4000000 in
set_option maxRecDepth 100000 in
theorem c_X7_maySet (l : Launch) (E : ke_E) (k : Nat) (x : Int32) (hk : k < 5) : Met l yX7_maySet wsX7_maySet rm_X7_maySet (kp E [.int (nI k), .int x] (fun _ => True)) (qp (some (.int (bI (ms k x))))) 0 0 nof := by
  refine k_hd (cc := cX7_maySet) (maxL := 2) (ret := (some .boolean)) (by decide) rfl (Nat.le_of_ble_eq_true rfl) ?_
  intro p e s m below meth c ls S hr hlk hnm hK hP hl
  have hx := S.1
  have hb := S.2.1
  have hts := S.2.2.2.2
  have hl : lv_has ls 2 [(0, .int (nI k)), (1, .int x)] := hl
  refine lv_iload_n hx hb dX7_maySet_0 rfl (lv_at hl 0 rfl) ?_
  refine lv_iconst (v := nI 3) hx hb dX7_maySet_1 (by decide) ?_
  refine n_ige (tgt := 15) hx hb dX7_maySet_2 (by decide) (by omega) (by omega) (fun c2 => ?_) (fun c2 => ?_)
  · refine lv_iload_n hx hb dX7_maySet_15 rfl (lv_at hl 0 rfl) ?_
    refine lv_iconst (v := nI 3) hx hb dX7_maySet_16 (by decide) ?_
    refine n_ine (tgt := 29) hx hb dX7_maySet_17 (by decide) (by omega) (by omega) (fun c17 => ?_) (fun c17 => ?_)
    · refine lv_iload_n hx hb dX7_maySet_29 rfl (lv_at hl 1 rfl) ?_
      refine lv_iconst (v := nI 0) hx hb dX7_maySet_30 (by decide) ?_
      refine lv_bipush (v := nI 20) hx hb dX7_maySet_31 (by decide) ?_
      refine k_S (As := [.int x, .int (nI 0), .int (nI 20)]) (rest := []) S hK (c_X7_in l E x (nI 0) (nI 20)) gX7_maySet_X7_in rfl hd_X7_in ⟨rfl, rfl⟩ ⟨Nat.le_of_ble_eq_true rfl, Nat.le_of_ble_eq_true rfl⟩ trivial rfl hl.1 rfl (Nat.le_of_ble_eq_true rfl) dX7_maySet_33 ⟨Nat.le_of_ble_eq_true rfl, Nat.le_of_ble_eq_true rfl⟩ ?_
      exact k_bret hx hb hr hlk dX7_maySet_36 (bI_nar _) ((bI_c (ms_c (by omega))).symm)
    · refine lv_iload_n hx hb dX7_maySet_20 rfl (lv_at hl 1 rfl) ?_
      refine lv_iconst (v := nI 1) hx hb dX7_maySet_21 (by decide) ?_
      refine lv_iconst (v := nI 5) hx hb dX7_maySet_22 (by decide) ?_
      refine k_S (As := [.int x, .int (nI 1), .int (nI 5)]) (rest := []) S hK (c_X7_in l E x (nI 1) (nI 5)) gX7_maySet_X7_in rfl hd_X7_in ⟨rfl, rfl⟩ ⟨Nat.le_of_ble_eq_true rfl, Nat.le_of_ble_eq_true rfl⟩ trivial rfl hl.1 rfl (Nat.le_of_ble_eq_true rfl) dX7_maySet_23 ⟨Nat.le_of_ble_eq_true rfl, Nat.le_of_ble_eq_true rfl⟩ ?_
      refine lv_goto (tgt := 36) hx hb dX7_maySet_26 (by decide) ?_
      exact k_bret hx hb hr hlk dX7_maySet_36 (bI_nar _) ((bI_c (ms_b c17)).symm)
  · refine lv_iload_n hx hb dX7_maySet_5 rfl (lv_at hl 1 rfl) ?_
    refine lv_iconst (v := nI 0) hx hb dX7_maySet_6 (by decide) ?_
    refine lv_bipush (v := nI 36) hx hb dX7_maySet_7 (by decide) ?_
    refine k_S (As := [.int x, .int (nI 0), .int (nI 36)]) (rest := []) S hK (c_X7_in l E x (nI 0) (nI 36)) gX7_maySet_X7_in rfl hd_X7_in ⟨rfl, rfl⟩ ⟨Nat.le_of_ble_eq_true rfl, Nat.le_of_ble_eq_true rfl⟩ trivial rfl hl.1 rfl (Nat.le_of_ble_eq_true rfl) dX7_maySet_9 ⟨Nat.le_of_ble_eq_true rfl, Nat.le_of_ble_eq_true rfl⟩ ?_
    refine lv_goto (tgt := 36) hx hb dX7_maySet_12 (by decide) ?_
    exact k_bret hx hb hr hlk dX7_maySet_36 (bI_nar _) ((bI_c (ms_a c2)).symm)
def rm_X7_ofProduct : Room := { frames := 1, cells := 0, slots := 0, locals := 20 }
theorem hd_X7_ofProduct : k_hd1 yX7_ofProduct RX7 2 := by decide +kernel
set_option maxHeartbeats 4000000 in
set_option maxRecDepth 100000 in
theorem c_X7_ofProduct_3 (l : Launch) (E : ke_E) (o : Nat) (z : Nat → Int32) (w : md_w) (q : Nat) (hI : iv z) (hq6 : q < 6) : Met l yX7_ofProduct wsX7_ofProduct rm_X7_ofProduct (kp E [.ref o, .int (nI q), .int (nI 3)] (md E o z w)) (qp (some (.int (ofN z q (fun _ => True) (cn z))))) 0 0 nof := by
  refine k_hd (cc := cX7_ofProduct) (maxL := 7) (ret := (some .int)) (by decide) rfl (Nat.le_of_ble_eq_true rfl) ?_
  intro p e s m below meth c ls S hr hlk hnm hK hP hl
  have hx := S.1
  have hb := S.2.1
  have hts := S.2.2.2.2
  have hP : md E o z w s.heap := hP
  have hl : lv_has ls 7 [(0, .ref o), (1, .int (nI q)), (2, .int (nI 3))] := hl
  have hcn := iv_c hI
  have J5 : ∀ (n_ : Nat), ∀ (i : Nat), i ≤ cn z → cn z < i + n_ → ∀ (ls : Array Slot), lv_has ls 7 [(0, .ref o), (1, .int (nI q)), (2, .int (nI 3)), (3, .int (ofN z q (fun _ => True) i)), (4, .int (nI i))] → W p l e (headSpec wsX7_ofProduct rm_X7_ofProduct).room s m ([.ref o, .int (nI q), .int (nI 3)] : List Value).toArray below meth c s.heap [] 0 0 (MQ below (qp (some (.int (ofN z q (fun _ => True) (cn z))))) ([.ref o, .int (nI q), .int (nI 3)] : List Value).toArray s 0 0 nof) (F0 m 5 ls []) := by
    intro n_
    induction n_ with
    | zero =>
      intro i hi hn_ _ _
      exact absurd hn_ (by omega)
    | succ n_ ih =>
      intro i hi hn_ ls hl
      refine lv_iload hx hb dX7_ofProduct_5 (lv_at hl 4 rfl) ?_
      refine lv_aload_n hx hb dX7_ofProduct_7 rfl (lv_at hl 0 rfl) ?_
      refine k_get S hK hP.1 rfl (fun _ h => List.mem_cons_of_mem _ (List.mem_append_right _ (h))) 0 (by decide) (List.mem_cons_of_mem _ (List.mem_append_left _ (List.mem_of_getElem? (i := 0) rfl))) rfl (v := .ref (o + 1)) rfl dX7_ofProduct_8 ?_
      refine lv_iconst (v := nI 0) hx hb dX7_ofProduct_11 (by decide) ?_
      refine k_iald hx hb hK hP.2.1 (by omega) (by decide) (v := nI (cn z)) (iv_n hI) dX7_ofProduct_12 ?_
      refine n_ige (tgt := 96) hx hb dX7_ofProduct_13 (by decide) (by omega) (by omega) (fun c13 => ?_) (fun c13 => ?_)
      · refine lv_iload_n hx hb dX7_ofProduct_96 rfl (lv_at hl 3 rfl) ?_
        exact k_iret hx hb hr hlk dX7_ofProduct_97 (by rw [show i = cn z by omega])
      · refine lv_aload_n hx hb dX7_ofProduct_16 rfl (lv_at hl 0 rfl) ?_
        refine k_get S hK hP.1 rfl (fun _ h => List.mem_cons_of_mem _ (List.mem_append_right _ (h))) 0 (by decide) (List.mem_cons_of_mem _ (List.mem_append_left _ (List.mem_of_getElem? (i := 0) rfl))) rfl (v := .ref (o + 1)) rfl dX7_ofProduct_17 ?_
        refine lv_iload hx hb dX7_ofProduct_20 (lv_at hl 4 rfl) ?_
        refine k_S (As := [.int (nI i)]) (rest := [.ref (o + 1)]) S hK (c_X7_at l E i) gX7_ofProduct_X7_at rfl hd_X7_at ⟨rfl, rfl⟩ ⟨Nat.le_of_ble_eq_true rfl, Nat.le_of_ble_eq_true rfl⟩ trivial rfl hl.1 rfl (Nat.le_of_ble_eq_true rfl) dX7_ofProduct_22 ⟨Nat.le_of_ble_eq_true rfl, Nat.le_of_ble_eq_true rfl⟩ ?_
        refine lv_bipush (v := nI 6) hx hb dX7_ofProduct_25 (by decide) ?_
        refine n_iadd (n := 13*i + 68) hx hb dX7_ofProduct_27 (by omega) ?_
        refine k_iald hx hb hK hP.2.1 (by omega) (by decide) (v := z (13*i + 68)) rfl dX7_ofProduct_28 ?_
        refine lv_istore (lv' := [(5, .int (z (13*i + 68))), (0, .ref o), (1, .int (nI q)), (2, .int (nI 3)), (3, .int (ofN z q (fun _ => True) i)), (4, .int (nI i))]) hx hb dX7_ofProduct_29 hl (by decide) rfl (fun ls hl => ?_)
        refine lv_iload_n hx hb dX7_ofProduct_31 rfl (lv_at hl 3 rfl) ?_
        refine lv_iconst (v := nI 3) hx hb dX7_ofProduct_32 (by decide) ?_
        refine n_ieq (tgt := 56) hx hb dX7_ofProduct_33 (by decide) (by omega) (by omega) (fun c33 => ?_) (fun h => absurd h (by decide))
        refine lv_iconst (v := nI 1) hx hb dX7_ofProduct_56 (by decide) ?_
        refine lv_goto (tgt := 61) hx hb dX7_ofProduct_57 (by decide) ?_
        refine lv_istore (lv' := [(6, .int (nI 1)), (5, .int (z (13*i + 68))), (0, .ref o), (1, .int (nI q)), (2, .int (nI 3)), (3, .int (ofN z q (fun _ => True) i)), (4, .int (nI i))]) hx hb dX7_ofProduct_61 hl (by decide) rfl (fun ls hl => ?_)
        refine lv_iload_n hx hb dX7_ofProduct_63 rfl (lv_at hl 5 rfl) ?_
        refine lv_aload_n hx hb dX7_ofProduct_64 rfl (lv_at hl 2 rfl) ?_
        refine k_get S hK hP.1 rfl (fun _ h => List.mem_cons_of_mem _ (List.mem_append_right _ (h))) 0 (by decide) (List.mem_cons_of_mem _ (List.mem_append_left _ (List.mem_of_getElem? (i := 0) rfl))) rfl (v := .ref (o + 1)) rfl dX7_ofProduct_65 ?_
        refine lv_iload hx hb dX7_ofProduct_68 (lv_at hl 6 rfl) ?_
        refine k_S (As := [.int (nI i)]) (rest := [.ref (o + 1), .int (ofN z q (fun _ => True) i)]) S hK (c_X7_at l E i) gX7_ofProduct_X7_at rfl hd_X7_at ⟨rfl, rfl⟩ ⟨Nat.le_of_ble_eq_true rfl, Nat.le_of_ble_eq_true rfl⟩ trivial rfl hl.1 rfl (Nat.le_of_ble_eq_true rfl) dX7_ofProduct_70 ⟨Nat.le_of_ble_eq_true rfl, Nat.le_of_ble_eq_true rfl⟩ ?_
        have hq1 := iv_upl hI c13
        refine k_iald hx hb hK hP.2.1 (by omega) (by decide) (v := nI (up z i)) (iv_up hI c13) dX7_ofProduct_73 ?_
        refine lv_iload_n hx hb dX7_ofProduct_74 rfl (lv_at hl 3 rfl) ?_
        refine n_ine (tgt := 87) hx hb dX7_ofProduct_75 (by decide) (by omega) (by omega) (fun c75 => ?_) (fun c75 => ?_)
        · refine lv_iconst (v := nI 0) hx hb dX7_ofProduct_87 (by decide) ?_
          refine lv_iadd hx hb dX7_ofProduct_88 ?_
          refine lv_istore_n (lv' := [(3, .int ((ofN z q (fun _ => True) i) + (nI 0))), (6, .int (nI 1)), (5, .int (z (13*i + 68))), (0, .ref o), (1, .int (nI q)), (2, .int (nI 3)), (4, .int (nI i))]) hx hb dX7_ofProduct_89 rfl hl (by decide) rfl (fun ls hl => ?_)
          refine lv_iinc (v := nI (i + 1)) (lv' := [(4, .int (nI (i + 1))), (3, .int ((ofN z q (fun _ => True) i) + (nI 0))), (6, .int (nI 1)), (5, .int (z (13*i + 68))), (0, .ref o), (1, .int (nI q)), (2, .int (nI 3))]) hx hb dX7_ofProduct_90 hl (k := 6) rfl (inc_1 _) (by decide) rfl (fun ls hl => ?_)
          refine lv_goto (tgt := 5) hx hb dX7_ofProduct_93 (by decide) ?_
          have hl : lv_has ls 7 [(0, .ref o), (1, .int (nI q)), (2, .int (nI 3)), (3, .int (ofN z q (fun _ => True) (i + 1))), (4, .int (nI (i + 1)))] := by
            have h9 := lv_sub (l' := [(0, .ref o), (1, .int (nI q)), (2, .int (nI 3)), (3, .int ((ofN z q (fun _ => True) i) + (nI 0))), (4, .int (nI (i + 1)))]) hl [4, 5, 6, 1, 0] rfl
            rw [show (.int (ofN z q (fun _ => True) (i + 1)) : Value) = .int ((ofN z q (fun _ => True) i) + (nI 0)) from congrArg Value.int (congrArg (fun x => ofN z q (fun _ => True) i + x) (bI_f (fun h => c75 h.1)))]
            exact h9
          exact ih (i + 1) (by omega) (by omega) _ hl
        · refine lv_iload hx hb dX7_ofProduct_78 (lv_at hl 0 rfl) ?_
          refine lv_if_eq (tgt := 87) hx hb dX7_ofProduct_80 (by decide) (fun h => absurd h (by decide)) (fun c80 => ?_)
          refine lv_iconst (v := nI 1) hx hb dX7_ofProduct_83 (by decide) ?_
          refine lv_goto (tgt := 88) hx hb dX7_ofProduct_84 (by decide) ?_
          refine lv_iadd hx hb dX7_ofProduct_88 ?_
          refine lv_istore_n (lv' := [(3, .int ((ofN z q (fun _ => True) i) + (nI 1))), (6, .int (nI 1)), (5, .int (z (13*i + 68))), (0, .ref o), (1, .int (nI q)), (2, .int (nI 3)), (4, .int (nI i))]) hx hb dX7_ofProduct_89 rfl hl (by decide) rfl (fun ls hl => ?_)
          refine lv_iinc (v := nI (i + 1)) (lv' := [(4, .int (nI (i + 1))), (3, .int ((ofN z q (fun _ => True) i) + (nI 1))), (6, .int (nI 1)), (5, .int (z (13*i + 68))), (0, .ref o), (1, .int (nI q)), (2, .int (nI 3))]) hx hb dX7_ofProduct_90 hl (k := 6) rfl (inc_1 _) (by decide) rfl (fun ls hl => ?_)
          refine lv_goto (tgt := 5) hx hb dX7_ofProduct_93 (by decide) ?_
          have hl : lv_has ls 7 [(0, .ref o), (1, .int (nI q)), (2, .int (nI 3)), (3, .int (ofN z q (fun _ => True) (i + 1))), (4, .int (nI (i + 1)))] := by
            have h9 := lv_sub (l' := [(0, .ref o), (1, .int (nI q)), (2, .int (nI 3)), (3, .int ((ofN z q (fun _ => True) i) + (nI 1))), (4, .int (nI (i + 1)))]) hl [4, 5, 6, 1, 0] rfl
            rw [show (.int (ofN z q (fun _ => True) (i + 1)) : Value) = .int ((ofN z q (fun _ => True) i) + (nI 1)) from congrArg Value.int (congrArg (fun x => ofN z q (fun _ => True) i + x) (bI_t ⟨c75, trivial⟩))]
            exact h9
          exact ih (i + 1) (by omega) (by omega) _ hl
  refine lv_iconst (v := nI 0) hx hb dX7_ofProduct_0 (by decide) ?_
  refine lv_istore_n (lv' := [(3, .int (nI 0)), (0, .ref o), (1, .int (nI q)), (2, .int (nI 3))]) hx hb dX7_ofProduct_1 rfl hl (by decide) rfl (fun ls hl => ?_)
  refine lv_iconst (v := nI 0) hx hb dX7_ofProduct_2 (by decide) ?_
  refine lv_istore (lv' := [(4, .int (nI 0)), (3, .int (nI 0)), (0, .ref o), (1, .int (nI q)), (2, .int (nI 3))]) hx hb dX7_ofProduct_3 hl (by decide) rfl (fun ls hl => ?_)
  have hl : lv_has ls 7 [(0, .ref o), (1, .int (nI q)), (2, .int (nI 3)), (3, .int (ofN z q (fun _ => True) 0)), (4, .int (nI 0))] := by
    have h9 := lv_sub (l' := [(0, .ref o), (1, .int (nI q)), (2, .int (nI 3)), (3, .int (nI 0)), (4, .int (nI 0))]) hl [2, 3, 4, 1, 0] rfl
    rw [show (.int (ofN z q (fun _ => True) 0) : Value) = .int (nI 0) from congrArg Value.int rfl]
    exact h9
  exact J5 (cn z + 1) 0 (by omega) (by omega) _ hl
set_option maxHeartbeats 4000000 in
set_option maxRecDepth 100000 in
theorem c_X7_ofProduct_4 (l : Launch) (E : ke_E) (o : Nat) (z : Nat → Int32) (w : md_w) (q : Nat) (hI : iv z) (hq6 : q < 6) : Met l yX7_ofProduct wsX7_ofProduct rm_X7_ofProduct (kp E [.ref o, .int (nI q), .int (nI 4)] (md E o z w)) (qp (some (.int (ofN z q (fun x => x < nI 2) (cn z))))) 0 0 nof := by
  refine k_hd (cc := cX7_ofProduct) (maxL := 7) (ret := (some .int)) (by decide) rfl (Nat.le_of_ble_eq_true rfl) ?_
  intro p e s m below meth c ls S hr hlk hnm hK hP hl
  have hx := S.1
  have hb := S.2.1
  have hts := S.2.2.2.2
  have hP : md E o z w s.heap := hP
  have hl : lv_has ls 7 [(0, .ref o), (1, .int (nI q)), (2, .int (nI 4))] := hl
  have hcn := iv_c hI
  have J5 : ∀ (n_ : Nat), ∀ (i : Nat), i ≤ cn z → cn z < i + n_ → ∀ (ls : Array Slot), lv_has ls 7 [(0, .ref o), (1, .int (nI q)), (2, .int (nI 4)), (3, .int (ofN z q (fun x => x < nI 2) i)), (4, .int (nI i))] → W p l e (headSpec wsX7_ofProduct rm_X7_ofProduct).room s m ([.ref o, .int (nI q), .int (nI 4)] : List Value).toArray below meth c s.heap [] 0 0 (MQ below (qp (some (.int (ofN z q (fun x => x < nI 2) (cn z))))) ([.ref o, .int (nI q), .int (nI 4)] : List Value).toArray s 0 0 nof) (F0 m 5 ls []) := by
    intro n_
    induction n_ with
    | zero =>
      intro i hi hn_ _ _
      exact absurd hn_ (by omega)
    | succ n_ ih =>
      intro i hi hn_ ls hl
      refine lv_iload hx hb dX7_ofProduct_5 (lv_at hl 4 rfl) ?_
      refine lv_aload_n hx hb dX7_ofProduct_7 rfl (lv_at hl 0 rfl) ?_
      refine k_get S hK hP.1 rfl (fun _ h => List.mem_cons_of_mem _ (List.mem_append_right _ (h))) 0 (by decide) (List.mem_cons_of_mem _ (List.mem_append_left _ (List.mem_of_getElem? (i := 0) rfl))) rfl (v := .ref (o + 1)) rfl dX7_ofProduct_8 ?_
      refine lv_iconst (v := nI 0) hx hb dX7_ofProduct_11 (by decide) ?_
      refine k_iald hx hb hK hP.2.1 (by omega) (by decide) (v := nI (cn z)) (iv_n hI) dX7_ofProduct_12 ?_
      refine n_ige (tgt := 96) hx hb dX7_ofProduct_13 (by decide) (by omega) (by omega) (fun c13 => ?_) (fun c13 => ?_)
      · refine lv_iload_n hx hb dX7_ofProduct_96 rfl (lv_at hl 3 rfl) ?_
        exact k_iret hx hb hr hlk dX7_ofProduct_97 (by rw [show i = cn z by omega])
      · refine lv_aload_n hx hb dX7_ofProduct_16 rfl (lv_at hl 0 rfl) ?_
        refine k_get S hK hP.1 rfl (fun _ h => List.mem_cons_of_mem _ (List.mem_append_right _ (h))) 0 (by decide) (List.mem_cons_of_mem _ (List.mem_append_left _ (List.mem_of_getElem? (i := 0) rfl))) rfl (v := .ref (o + 1)) rfl dX7_ofProduct_17 ?_
        refine lv_iload hx hb dX7_ofProduct_20 (lv_at hl 4 rfl) ?_
        refine k_S (As := [.int (nI i)]) (rest := [.ref (o + 1)]) S hK (c_X7_at l E i) gX7_ofProduct_X7_at rfl hd_X7_at ⟨rfl, rfl⟩ ⟨Nat.le_of_ble_eq_true rfl, Nat.le_of_ble_eq_true rfl⟩ trivial rfl hl.1 rfl (Nat.le_of_ble_eq_true rfl) dX7_ofProduct_22 ⟨Nat.le_of_ble_eq_true rfl, Nat.le_of_ble_eq_true rfl⟩ ?_
        refine lv_bipush (v := nI 6) hx hb dX7_ofProduct_25 (by decide) ?_
        refine n_iadd (n := 13*i + 68) hx hb dX7_ofProduct_27 (by omega) ?_
        refine k_iald hx hb hK hP.2.1 (by omega) (by decide) (v := z (13*i + 68)) rfl dX7_ofProduct_28 ?_
        refine lv_istore (lv' := [(5, .int (z (13*i + 68))), (0, .ref o), (1, .int (nI q)), (2, .int (nI 4)), (3, .int (ofN z q (fun x => x < nI 2) i)), (4, .int (nI i))]) hx hb dX7_ofProduct_29 hl (by decide) rfl (fun ls hl => ?_)
        refine lv_iload_n hx hb dX7_ofProduct_31 rfl (lv_at hl 3 rfl) ?_
        refine lv_iconst (v := nI 3) hx hb dX7_ofProduct_32 (by decide) ?_
        refine n_ieq (tgt := 56) hx hb dX7_ofProduct_33 (by decide) (by omega) (by omega) (fun h => absurd h (by decide)) (fun c33 => ?_)
        refine lv_iload_n hx hb dX7_ofProduct_36 rfl (lv_at hl 3 rfl) ?_
        refine lv_iconst (v := nI 4) hx hb dX7_ofProduct_37 (by decide) ?_
        refine n_ine (tgt := 50) hx hb dX7_ofProduct_38 (by decide) (by omega) (by omega) (fun h => absurd h (by decide)) (fun c38 => ?_)
        refine lv_iload hx hb dX7_ofProduct_41 (lv_at hl 0 rfl) ?_
        refine lv_iconst (v := nI 2) hx hb dX7_ofProduct_43 (by decide) ?_
        refine lv_icmp_ge (tgt := 60) hx hb dX7_ofProduct_44 (by decide) (fun c44 => ?_) (fun c44 => ?_)
        · refine lv_iconst (v := nI 0) hx hb dX7_ofProduct_60 (by decide) ?_
          refine lv_istore (lv' := [(6, .int (nI 0)), (5, .int (z (13*i + 68))), (0, .ref o), (1, .int (nI q)), (2, .int (nI 4)), (3, .int (ofN z q (fun x => x < nI 2) i)), (4, .int (nI i))]) hx hb dX7_ofProduct_61 hl (by decide) rfl (fun ls hl => ?_)
          refine lv_iload_n hx hb dX7_ofProduct_63 rfl (lv_at hl 5 rfl) ?_
          refine lv_aload_n hx hb dX7_ofProduct_64 rfl (lv_at hl 2 rfl) ?_
          refine k_get S hK hP.1 rfl (fun _ h => List.mem_cons_of_mem _ (List.mem_append_right _ (h))) 0 (by decide) (List.mem_cons_of_mem _ (List.mem_append_left _ (List.mem_of_getElem? (i := 0) rfl))) rfl (v := .ref (o + 1)) rfl dX7_ofProduct_65 ?_
          refine lv_iload hx hb dX7_ofProduct_68 (lv_at hl 6 rfl) ?_
          refine k_S (As := [.int (nI i)]) (rest := [.ref (o + 1), .int (ofN z q (fun x => x < nI 2) i)]) S hK (c_X7_at l E i) gX7_ofProduct_X7_at rfl hd_X7_at ⟨rfl, rfl⟩ ⟨Nat.le_of_ble_eq_true rfl, Nat.le_of_ble_eq_true rfl⟩ trivial rfl hl.1 rfl (Nat.le_of_ble_eq_true rfl) dX7_ofProduct_70 ⟨Nat.le_of_ble_eq_true rfl, Nat.le_of_ble_eq_true rfl⟩ ?_
          have hq1 := iv_upl hI c13
          refine k_iald hx hb hK hP.2.1 (by omega) (by decide) (v := nI (up z i)) (iv_up hI c13) dX7_ofProduct_73 ?_
          refine lv_iload_n hx hb dX7_ofProduct_74 rfl (lv_at hl 3 rfl) ?_
          refine n_ine (tgt := 87) hx hb dX7_ofProduct_75 (by decide) (by omega) (by omega) (fun c75 => ?_) (fun c75 => ?_)
          · refine lv_iconst (v := nI 0) hx hb dX7_ofProduct_87 (by decide) ?_
            refine lv_iadd hx hb dX7_ofProduct_88 ?_
            refine lv_istore_n (lv' := [(3, .int ((ofN z q (fun x => x < nI 2) i) + (nI 0))), (6, .int (nI 0)), (5, .int (z (13*i + 68))), (0, .ref o), (1, .int (nI q)), (2, .int (nI 4)), (4, .int (nI i))]) hx hb dX7_ofProduct_89 rfl hl (by decide) rfl (fun ls hl => ?_)
            refine lv_iinc (v := nI (i + 1)) (lv' := [(4, .int (nI (i + 1))), (3, .int ((ofN z q (fun x => x < nI 2) i) + (nI 0))), (6, .int (nI 0)), (5, .int (z (13*i + 68))), (0, .ref o), (1, .int (nI q)), (2, .int (nI 4))]) hx hb dX7_ofProduct_90 hl (k := 6) rfl (inc_1 _) (by decide) rfl (fun ls hl => ?_)
            refine lv_goto (tgt := 5) hx hb dX7_ofProduct_93 (by decide) ?_
            have hl : lv_has ls 7 [(0, .ref o), (1, .int (nI q)), (2, .int (nI 4)), (3, .int (ofN z q (fun x => x < nI 2) (i + 1))), (4, .int (nI (i + 1)))] := by
              have h9 := lv_sub (l' := [(0, .ref o), (1, .int (nI q)), (2, .int (nI 4)), (3, .int ((ofN z q (fun x => x < nI 2) i) + (nI 0))), (4, .int (nI (i + 1)))]) hl [4, 5, 6, 1, 0] rfl
              rw [show (.int (ofN z q (fun x => x < nI 2) (i + 1)) : Value) = .int ((ofN z q (fun x => x < nI 2) i) + (nI 0)) from congrArg Value.int (congrArg (fun x => ofN z q (fun x => x < nI 2) i + x) (bI_f (fun h => c75 h.1)))]
              exact h9
            exact ih (i + 1) (by omega) (by omega) _ hl
          · refine lv_iload hx hb dX7_ofProduct_78 (lv_at hl 0 rfl) ?_
            refine lv_if_eq (tgt := 87) hx hb dX7_ofProduct_80 (by decide) (fun c80 => ?_) (fun h => absurd h (by decide))
            refine lv_iconst (v := nI 0) hx hb dX7_ofProduct_87 (by decide) ?_
            refine lv_iadd hx hb dX7_ofProduct_88 ?_
            refine lv_istore_n (lv' := [(3, .int ((ofN z q (fun x => x < nI 2) i) + (nI 0))), (6, .int (nI 0)), (5, .int (z (13*i + 68))), (0, .ref o), (1, .int (nI q)), (2, .int (nI 4)), (4, .int (nI i))]) hx hb dX7_ofProduct_89 rfl hl (by decide) rfl (fun ls hl => ?_)
            refine lv_iinc (v := nI (i + 1)) (lv' := [(4, .int (nI (i + 1))), (3, .int ((ofN z q (fun x => x < nI 2) i) + (nI 0))), (6, .int (nI 0)), (5, .int (z (13*i + 68))), (0, .ref o), (1, .int (nI q)), (2, .int (nI 4))]) hx hb dX7_ofProduct_90 hl (k := 6) rfl (inc_1 _) (by decide) rfl (fun ls hl => ?_)
            refine lv_goto (tgt := 5) hx hb dX7_ofProduct_93 (by decide) ?_
            have hl : lv_has ls 7 [(0, .ref o), (1, .int (nI q)), (2, .int (nI 4)), (3, .int (ofN z q (fun x => x < nI 2) (i + 1))), (4, .int (nI (i + 1)))] := by
              have h9 := lv_sub (l' := [(0, .ref o), (1, .int (nI q)), (2, .int (nI 4)), (3, .int ((ofN z q (fun x => x < nI 2) i) + (nI 0))), (4, .int (nI (i + 1)))]) hl [4, 5, 6, 1, 0] rfl
              rw [show (.int (ofN z q (fun x => x < nI 2) (i + 1)) : Value) = .int ((ofN z q (fun x => x < nI 2) i) + (nI 0)) from congrArg Value.int (congrArg (fun x => ofN z q (fun x => x < nI 2) i + x) (bI_f (fun h => Int32.not_lt.mpr c44 h.2)))]
              exact h9
            exact ih (i + 1) (by omega) (by omega) _ hl
        · refine lv_goto (tgt := 56) hx hb dX7_ofProduct_47 (by decide) ?_
          refine lv_iconst (v := nI 1) hx hb dX7_ofProduct_56 (by decide) ?_
          refine lv_goto (tgt := 61) hx hb dX7_ofProduct_57 (by decide) ?_
          refine lv_istore (lv' := [(6, .int (nI 1)), (5, .int (z (13*i + 68))), (0, .ref o), (1, .int (nI q)), (2, .int (nI 4)), (3, .int (ofN z q (fun x => x < nI 2) i)), (4, .int (nI i))]) hx hb dX7_ofProduct_61 hl (by decide) rfl (fun ls hl => ?_)
          refine lv_iload_n hx hb dX7_ofProduct_63 rfl (lv_at hl 5 rfl) ?_
          refine lv_aload_n hx hb dX7_ofProduct_64 rfl (lv_at hl 2 rfl) ?_
          refine k_get S hK hP.1 rfl (fun _ h => List.mem_cons_of_mem _ (List.mem_append_right _ (h))) 0 (by decide) (List.mem_cons_of_mem _ (List.mem_append_left _ (List.mem_of_getElem? (i := 0) rfl))) rfl (v := .ref (o + 1)) rfl dX7_ofProduct_65 ?_
          refine lv_iload hx hb dX7_ofProduct_68 (lv_at hl 6 rfl) ?_
          refine k_S (As := [.int (nI i)]) (rest := [.ref (o + 1), .int (ofN z q (fun x => x < nI 2) i)]) S hK (c_X7_at l E i) gX7_ofProduct_X7_at rfl hd_X7_at ⟨rfl, rfl⟩ ⟨Nat.le_of_ble_eq_true rfl, Nat.le_of_ble_eq_true rfl⟩ trivial rfl hl.1 rfl (Nat.le_of_ble_eq_true rfl) dX7_ofProduct_70 ⟨Nat.le_of_ble_eq_true rfl, Nat.le_of_ble_eq_true rfl⟩ ?_
          have hq1 := iv_upl hI c13
          refine k_iald hx hb hK hP.2.1 (by omega) (by decide) (v := nI (up z i)) (iv_up hI c13) dX7_ofProduct_73 ?_
          refine lv_iload_n hx hb dX7_ofProduct_74 rfl (lv_at hl 3 rfl) ?_
          refine n_ine (tgt := 87) hx hb dX7_ofProduct_75 (by decide) (by omega) (by omega) (fun c75 => ?_) (fun c75 => ?_)
          · refine lv_iconst (v := nI 0) hx hb dX7_ofProduct_87 (by decide) ?_
            refine lv_iadd hx hb dX7_ofProduct_88 ?_
            refine lv_istore_n (lv' := [(3, .int ((ofN z q (fun x => x < nI 2) i) + (nI 0))), (6, .int (nI 1)), (5, .int (z (13*i + 68))), (0, .ref o), (1, .int (nI q)), (2, .int (nI 4)), (4, .int (nI i))]) hx hb dX7_ofProduct_89 rfl hl (by decide) rfl (fun ls hl => ?_)
            refine lv_iinc (v := nI (i + 1)) (lv' := [(4, .int (nI (i + 1))), (3, .int ((ofN z q (fun x => x < nI 2) i) + (nI 0))), (6, .int (nI 1)), (5, .int (z (13*i + 68))), (0, .ref o), (1, .int (nI q)), (2, .int (nI 4))]) hx hb dX7_ofProduct_90 hl (k := 6) rfl (inc_1 _) (by decide) rfl (fun ls hl => ?_)
            refine lv_goto (tgt := 5) hx hb dX7_ofProduct_93 (by decide) ?_
            have hl : lv_has ls 7 [(0, .ref o), (1, .int (nI q)), (2, .int (nI 4)), (3, .int (ofN z q (fun x => x < nI 2) (i + 1))), (4, .int (nI (i + 1)))] := by
              have h9 := lv_sub (l' := [(0, .ref o), (1, .int (nI q)), (2, .int (nI 4)), (3, .int ((ofN z q (fun x => x < nI 2) i) + (nI 0))), (4, .int (nI (i + 1)))]) hl [4, 5, 6, 1, 0] rfl
              rw [show (.int (ofN z q (fun x => x < nI 2) (i + 1)) : Value) = .int ((ofN z q (fun x => x < nI 2) i) + (nI 0)) from congrArg Value.int (congrArg (fun x => ofN z q (fun x => x < nI 2) i + x) (bI_f (fun h => c75 h.1)))]
              exact h9
            exact ih (i + 1) (by omega) (by omega) _ hl
          · refine lv_iload hx hb dX7_ofProduct_78 (lv_at hl 0 rfl) ?_
            refine lv_if_eq (tgt := 87) hx hb dX7_ofProduct_80 (by decide) (fun h => absurd h (by decide)) (fun c80 => ?_)
            refine lv_iconst (v := nI 1) hx hb dX7_ofProduct_83 (by decide) ?_
            refine lv_goto (tgt := 88) hx hb dX7_ofProduct_84 (by decide) ?_
            refine lv_iadd hx hb dX7_ofProduct_88 ?_
            refine lv_istore_n (lv' := [(3, .int ((ofN z q (fun x => x < nI 2) i) + (nI 1))), (6, .int (nI 1)), (5, .int (z (13*i + 68))), (0, .ref o), (1, .int (nI q)), (2, .int (nI 4)), (4, .int (nI i))]) hx hb dX7_ofProduct_89 rfl hl (by decide) rfl (fun ls hl => ?_)
            refine lv_iinc (v := nI (i + 1)) (lv' := [(4, .int (nI (i + 1))), (3, .int ((ofN z q (fun x => x < nI 2) i) + (nI 1))), (6, .int (nI 1)), (5, .int (z (13*i + 68))), (0, .ref o), (1, .int (nI q)), (2, .int (nI 4))]) hx hb dX7_ofProduct_90 hl (k := 6) rfl (inc_1 _) (by decide) rfl (fun ls hl => ?_)
            refine lv_goto (tgt := 5) hx hb dX7_ofProduct_93 (by decide) ?_
            have hl : lv_has ls 7 [(0, .ref o), (1, .int (nI q)), (2, .int (nI 4)), (3, .int (ofN z q (fun x => x < nI 2) (i + 1))), (4, .int (nI (i + 1)))] := by
              have h9 := lv_sub (l' := [(0, .ref o), (1, .int (nI q)), (2, .int (nI 4)), (3, .int ((ofN z q (fun x => x < nI 2) i) + (nI 1))), (4, .int (nI (i + 1)))]) hl [4, 5, 6, 1, 0] rfl
              rw [show (.int (ofN z q (fun x => x < nI 2) (i + 1)) : Value) = .int ((ofN z q (fun x => x < nI 2) i) + (nI 1)) from congrArg Value.int (congrArg (fun x => ofN z q (fun x => x < nI 2) i + x) (bI_t ⟨c75, Int32.not_le.mp c44⟩))]
              exact h9
            exact ih (i + 1) (by omega) (by omega) _ hl
  refine lv_iconst (v := nI 0) hx hb dX7_ofProduct_0 (by decide) ?_
  refine lv_istore_n (lv' := [(3, .int (nI 0)), (0, .ref o), (1, .int (nI q)), (2, .int (nI 4))]) hx hb dX7_ofProduct_1 rfl hl (by decide) rfl (fun ls hl => ?_)
  refine lv_iconst (v := nI 0) hx hb dX7_ofProduct_2 (by decide) ?_
  refine lv_istore (lv' := [(4, .int (nI 0)), (3, .int (nI 0)), (0, .ref o), (1, .int (nI q)), (2, .int (nI 4))]) hx hb dX7_ofProduct_3 hl (by decide) rfl (fun ls hl => ?_)
  have hl : lv_has ls 7 [(0, .ref o), (1, .int (nI q)), (2, .int (nI 4)), (3, .int (ofN z q (fun x => x < nI 2) 0)), (4, .int (nI 0))] := by
    have h9 := lv_sub (l' := [(0, .ref o), (1, .int (nI q)), (2, .int (nI 4)), (3, .int (nI 0)), (4, .int (nI 0))]) hl [2, 3, 4, 1, 0] rfl
    rw [show (.int (ofN z q (fun x => x < nI 2) 0) : Value) = .int (nI 0) from congrArg Value.int rfl]
    exact h9
  exact J5 (cn z + 1) 0 (by omega) (by omega) _ hl
set_option maxHeartbeats 4000000 in
set_option maxRecDepth 100000 in
theorem c_X7_ofProduct_5 (l : Launch) (E : ke_E) (o : Nat) (z : Nat → Int32) (w : md_w) (q : Nat) (hI : iv z) (hq6 : q < 6) : Met l yX7_ofProduct wsX7_ofProduct rm_X7_ofProduct (kp E [.ref o, .int (nI q), .int (nI 5)] (md E o z w)) (qp (some (.int (ofN z q (fun x => x = nI 2) (cn z))))) 0 0 nof := by
  refine k_hd (cc := cX7_ofProduct) (maxL := 7) (ret := (some .int)) (by decide) rfl (Nat.le_of_ble_eq_true rfl) ?_
  intro p e s m below meth c ls S hr hlk hnm hK hP hl
  have hx := S.1
  have hb := S.2.1
  have hts := S.2.2.2.2
  have hP : md E o z w s.heap := hP
  have hl : lv_has ls 7 [(0, .ref o), (1, .int (nI q)), (2, .int (nI 5))] := hl
  have hcn := iv_c hI
  have J5 : ∀ (n_ : Nat), ∀ (i : Nat), i ≤ cn z → cn z < i + n_ → ∀ (ls : Array Slot), lv_has ls 7 [(0, .ref o), (1, .int (nI q)), (2, .int (nI 5)), (3, .int (ofN z q (fun x => x = nI 2) i)), (4, .int (nI i))] → W p l e (headSpec wsX7_ofProduct rm_X7_ofProduct).room s m ([.ref o, .int (nI q), .int (nI 5)] : List Value).toArray below meth c s.heap [] 0 0 (MQ below (qp (some (.int (ofN z q (fun x => x = nI 2) (cn z))))) ([.ref o, .int (nI q), .int (nI 5)] : List Value).toArray s 0 0 nof) (F0 m 5 ls []) := by
    intro n_
    induction n_ with
    | zero =>
      intro i hi hn_ _ _
      exact absurd hn_ (by omega)
    | succ n_ ih =>
      intro i hi hn_ ls hl
      refine lv_iload hx hb dX7_ofProduct_5 (lv_at hl 4 rfl) ?_
      refine lv_aload_n hx hb dX7_ofProduct_7 rfl (lv_at hl 0 rfl) ?_
      refine k_get S hK hP.1 rfl (fun _ h => List.mem_cons_of_mem _ (List.mem_append_right _ (h))) 0 (by decide) (List.mem_cons_of_mem _ (List.mem_append_left _ (List.mem_of_getElem? (i := 0) rfl))) rfl (v := .ref (o + 1)) rfl dX7_ofProduct_8 ?_
      refine lv_iconst (v := nI 0) hx hb dX7_ofProduct_11 (by decide) ?_
      refine k_iald hx hb hK hP.2.1 (by omega) (by decide) (v := nI (cn z)) (iv_n hI) dX7_ofProduct_12 ?_
      refine n_ige (tgt := 96) hx hb dX7_ofProduct_13 (by decide) (by omega) (by omega) (fun c13 => ?_) (fun c13 => ?_)
      · refine lv_iload_n hx hb dX7_ofProduct_96 rfl (lv_at hl 3 rfl) ?_
        exact k_iret hx hb hr hlk dX7_ofProduct_97 (by rw [show i = cn z by omega])
      · refine lv_aload_n hx hb dX7_ofProduct_16 rfl (lv_at hl 0 rfl) ?_
        refine k_get S hK hP.1 rfl (fun _ h => List.mem_cons_of_mem _ (List.mem_append_right _ (h))) 0 (by decide) (List.mem_cons_of_mem _ (List.mem_append_left _ (List.mem_of_getElem? (i := 0) rfl))) rfl (v := .ref (o + 1)) rfl dX7_ofProduct_17 ?_
        refine lv_iload hx hb dX7_ofProduct_20 (lv_at hl 4 rfl) ?_
        refine k_S (As := [.int (nI i)]) (rest := [.ref (o + 1)]) S hK (c_X7_at l E i) gX7_ofProduct_X7_at rfl hd_X7_at ⟨rfl, rfl⟩ ⟨Nat.le_of_ble_eq_true rfl, Nat.le_of_ble_eq_true rfl⟩ trivial rfl hl.1 rfl (Nat.le_of_ble_eq_true rfl) dX7_ofProduct_22 ⟨Nat.le_of_ble_eq_true rfl, Nat.le_of_ble_eq_true rfl⟩ ?_
        refine lv_bipush (v := nI 6) hx hb dX7_ofProduct_25 (by decide) ?_
        refine n_iadd (n := 13*i + 68) hx hb dX7_ofProduct_27 (by omega) ?_
        refine k_iald hx hb hK hP.2.1 (by omega) (by decide) (v := z (13*i + 68)) rfl dX7_ofProduct_28 ?_
        refine lv_istore (lv' := [(5, .int (z (13*i + 68))), (0, .ref o), (1, .int (nI q)), (2, .int (nI 5)), (3, .int (ofN z q (fun x => x = nI 2) i)), (4, .int (nI i))]) hx hb dX7_ofProduct_29 hl (by decide) rfl (fun ls hl => ?_)
        refine lv_iload_n hx hb dX7_ofProduct_31 rfl (lv_at hl 3 rfl) ?_
        refine lv_iconst (v := nI 3) hx hb dX7_ofProduct_32 (by decide) ?_
        refine n_ieq (tgt := 56) hx hb dX7_ofProduct_33 (by decide) (by omega) (by omega) (fun h => absurd h (by decide)) (fun c33 => ?_)
        refine lv_iload_n hx hb dX7_ofProduct_36 rfl (lv_at hl 3 rfl) ?_
        refine lv_iconst (v := nI 4) hx hb dX7_ofProduct_37 (by decide) ?_
        refine n_ine (tgt := 50) hx hb dX7_ofProduct_38 (by decide) (by omega) (by omega) (fun c38 => ?_) (fun h => absurd h (by decide))
        refine lv_iload hx hb dX7_ofProduct_50 (lv_at hl 0 rfl) ?_
        refine lv_iconst (v := nI 2) hx hb dX7_ofProduct_52 (by decide) ?_
        refine lv_icmp_ne (tgt := 60) hx hb dX7_ofProduct_53 (by decide) (fun c53 => ?_) (fun c53 => ?_)
        · refine lv_iconst (v := nI 0) hx hb dX7_ofProduct_60 (by decide) ?_
          refine lv_istore (lv' := [(6, .int (nI 0)), (5, .int (z (13*i + 68))), (0, .ref o), (1, .int (nI q)), (2, .int (nI 5)), (3, .int (ofN z q (fun x => x = nI 2) i)), (4, .int (nI i))]) hx hb dX7_ofProduct_61 hl (by decide) rfl (fun ls hl => ?_)
          refine lv_iload_n hx hb dX7_ofProduct_63 rfl (lv_at hl 5 rfl) ?_
          refine lv_aload_n hx hb dX7_ofProduct_64 rfl (lv_at hl 2 rfl) ?_
          refine k_get S hK hP.1 rfl (fun _ h => List.mem_cons_of_mem _ (List.mem_append_right _ (h))) 0 (by decide) (List.mem_cons_of_mem _ (List.mem_append_left _ (List.mem_of_getElem? (i := 0) rfl))) rfl (v := .ref (o + 1)) rfl dX7_ofProduct_65 ?_
          refine lv_iload hx hb dX7_ofProduct_68 (lv_at hl 6 rfl) ?_
          refine k_S (As := [.int (nI i)]) (rest := [.ref (o + 1), .int (ofN z q (fun x => x = nI 2) i)]) S hK (c_X7_at l E i) gX7_ofProduct_X7_at rfl hd_X7_at ⟨rfl, rfl⟩ ⟨Nat.le_of_ble_eq_true rfl, Nat.le_of_ble_eq_true rfl⟩ trivial rfl hl.1 rfl (Nat.le_of_ble_eq_true rfl) dX7_ofProduct_70 ⟨Nat.le_of_ble_eq_true rfl, Nat.le_of_ble_eq_true rfl⟩ ?_
          have hq1 := iv_upl hI c13
          refine k_iald hx hb hK hP.2.1 (by omega) (by decide) (v := nI (up z i)) (iv_up hI c13) dX7_ofProduct_73 ?_
          refine lv_iload_n hx hb dX7_ofProduct_74 rfl (lv_at hl 3 rfl) ?_
          refine n_ine (tgt := 87) hx hb dX7_ofProduct_75 (by decide) (by omega) (by omega) (fun c75 => ?_) (fun c75 => ?_)
          · refine lv_iconst (v := nI 0) hx hb dX7_ofProduct_87 (by decide) ?_
            refine lv_iadd hx hb dX7_ofProduct_88 ?_
            refine lv_istore_n (lv' := [(3, .int ((ofN z q (fun x => x = nI 2) i) + (nI 0))), (6, .int (nI 0)), (5, .int (z (13*i + 68))), (0, .ref o), (1, .int (nI q)), (2, .int (nI 5)), (4, .int (nI i))]) hx hb dX7_ofProduct_89 rfl hl (by decide) rfl (fun ls hl => ?_)
            refine lv_iinc (v := nI (i + 1)) (lv' := [(4, .int (nI (i + 1))), (3, .int ((ofN z q (fun x => x = nI 2) i) + (nI 0))), (6, .int (nI 0)), (5, .int (z (13*i + 68))), (0, .ref o), (1, .int (nI q)), (2, .int (nI 5))]) hx hb dX7_ofProduct_90 hl (k := 6) rfl (inc_1 _) (by decide) rfl (fun ls hl => ?_)
            refine lv_goto (tgt := 5) hx hb dX7_ofProduct_93 (by decide) ?_
            have hl : lv_has ls 7 [(0, .ref o), (1, .int (nI q)), (2, .int (nI 5)), (3, .int (ofN z q (fun x => x = nI 2) (i + 1))), (4, .int (nI (i + 1)))] := by
              have h9 := lv_sub (l' := [(0, .ref o), (1, .int (nI q)), (2, .int (nI 5)), (3, .int ((ofN z q (fun x => x = nI 2) i) + (nI 0))), (4, .int (nI (i + 1)))]) hl [4, 5, 6, 1, 0] rfl
              rw [show (.int (ofN z q (fun x => x = nI 2) (i + 1)) : Value) = .int ((ofN z q (fun x => x = nI 2) i) + (nI 0)) from congrArg Value.int (congrArg (fun x => ofN z q (fun x => x = nI 2) i + x) (bI_f (fun h => c75 h.1)))]
              exact h9
            exact ih (i + 1) (by omega) (by omega) _ hl
          · refine lv_iload hx hb dX7_ofProduct_78 (lv_at hl 0 rfl) ?_
            refine lv_if_eq (tgt := 87) hx hb dX7_ofProduct_80 (by decide) (fun c80 => ?_) (fun h => absurd h (by decide))
            refine lv_iconst (v := nI 0) hx hb dX7_ofProduct_87 (by decide) ?_
            refine lv_iadd hx hb dX7_ofProduct_88 ?_
            refine lv_istore_n (lv' := [(3, .int ((ofN z q (fun x => x = nI 2) i) + (nI 0))), (6, .int (nI 0)), (5, .int (z (13*i + 68))), (0, .ref o), (1, .int (nI q)), (2, .int (nI 5)), (4, .int (nI i))]) hx hb dX7_ofProduct_89 rfl hl (by decide) rfl (fun ls hl => ?_)
            refine lv_iinc (v := nI (i + 1)) (lv' := [(4, .int (nI (i + 1))), (3, .int ((ofN z q (fun x => x = nI 2) i) + (nI 0))), (6, .int (nI 0)), (5, .int (z (13*i + 68))), (0, .ref o), (1, .int (nI q)), (2, .int (nI 5))]) hx hb dX7_ofProduct_90 hl (k := 6) rfl (inc_1 _) (by decide) rfl (fun ls hl => ?_)
            refine lv_goto (tgt := 5) hx hb dX7_ofProduct_93 (by decide) ?_
            have hl : lv_has ls 7 [(0, .ref o), (1, .int (nI q)), (2, .int (nI 5)), (3, .int (ofN z q (fun x => x = nI 2) (i + 1))), (4, .int (nI (i + 1)))] := by
              have h9 := lv_sub (l' := [(0, .ref o), (1, .int (nI q)), (2, .int (nI 5)), (3, .int ((ofN z q (fun x => x = nI 2) i) + (nI 0))), (4, .int (nI (i + 1)))]) hl [4, 5, 6, 1, 0] rfl
              rw [show (.int (ofN z q (fun x => x = nI 2) (i + 1)) : Value) = .int ((ofN z q (fun x => x = nI 2) i) + (nI 0)) from congrArg Value.int (congrArg (fun x => ofN z q (fun x => x = nI 2) i + x) (bI_f (fun h => c53 h.2)))]
              exact h9
            exact ih (i + 1) (by omega) (by omega) _ hl
        · refine lv_iconst (v := nI 1) hx hb dX7_ofProduct_56 (by decide) ?_
          refine lv_goto (tgt := 61) hx hb dX7_ofProduct_57 (by decide) ?_
          refine lv_istore (lv' := [(6, .int (nI 1)), (5, .int (z (13*i + 68))), (0, .ref o), (1, .int (nI q)), (2, .int (nI 5)), (3, .int (ofN z q (fun x => x = nI 2) i)), (4, .int (nI i))]) hx hb dX7_ofProduct_61 hl (by decide) rfl (fun ls hl => ?_)
          refine lv_iload_n hx hb dX7_ofProduct_63 rfl (lv_at hl 5 rfl) ?_
          refine lv_aload_n hx hb dX7_ofProduct_64 rfl (lv_at hl 2 rfl) ?_
          refine k_get S hK hP.1 rfl (fun _ h => List.mem_cons_of_mem _ (List.mem_append_right _ (h))) 0 (by decide) (List.mem_cons_of_mem _ (List.mem_append_left _ (List.mem_of_getElem? (i := 0) rfl))) rfl (v := .ref (o + 1)) rfl dX7_ofProduct_65 ?_
          refine lv_iload hx hb dX7_ofProduct_68 (lv_at hl 6 rfl) ?_
          refine k_S (As := [.int (nI i)]) (rest := [.ref (o + 1), .int (ofN z q (fun x => x = nI 2) i)]) S hK (c_X7_at l E i) gX7_ofProduct_X7_at rfl hd_X7_at ⟨rfl, rfl⟩ ⟨Nat.le_of_ble_eq_true rfl, Nat.le_of_ble_eq_true rfl⟩ trivial rfl hl.1 rfl (Nat.le_of_ble_eq_true rfl) dX7_ofProduct_70 ⟨Nat.le_of_ble_eq_true rfl, Nat.le_of_ble_eq_true rfl⟩ ?_
          have hq1 := iv_upl hI c13
          refine k_iald hx hb hK hP.2.1 (by omega) (by decide) (v := nI (up z i)) (iv_up hI c13) dX7_ofProduct_73 ?_
          refine lv_iload_n hx hb dX7_ofProduct_74 rfl (lv_at hl 3 rfl) ?_
          refine n_ine (tgt := 87) hx hb dX7_ofProduct_75 (by decide) (by omega) (by omega) (fun c75 => ?_) (fun c75 => ?_)
          · refine lv_iconst (v := nI 0) hx hb dX7_ofProduct_87 (by decide) ?_
            refine lv_iadd hx hb dX7_ofProduct_88 ?_
            refine lv_istore_n (lv' := [(3, .int ((ofN z q (fun x => x = nI 2) i) + (nI 0))), (6, .int (nI 1)), (5, .int (z (13*i + 68))), (0, .ref o), (1, .int (nI q)), (2, .int (nI 5)), (4, .int (nI i))]) hx hb dX7_ofProduct_89 rfl hl (by decide) rfl (fun ls hl => ?_)
            refine lv_iinc (v := nI (i + 1)) (lv' := [(4, .int (nI (i + 1))), (3, .int ((ofN z q (fun x => x = nI 2) i) + (nI 0))), (6, .int (nI 1)), (5, .int (z (13*i + 68))), (0, .ref o), (1, .int (nI q)), (2, .int (nI 5))]) hx hb dX7_ofProduct_90 hl (k := 6) rfl (inc_1 _) (by decide) rfl (fun ls hl => ?_)
            refine lv_goto (tgt := 5) hx hb dX7_ofProduct_93 (by decide) ?_
            have hl : lv_has ls 7 [(0, .ref o), (1, .int (nI q)), (2, .int (nI 5)), (3, .int (ofN z q (fun x => x = nI 2) (i + 1))), (4, .int (nI (i + 1)))] := by
              have h9 := lv_sub (l' := [(0, .ref o), (1, .int (nI q)), (2, .int (nI 5)), (3, .int ((ofN z q (fun x => x = nI 2) i) + (nI 0))), (4, .int (nI (i + 1)))]) hl [4, 5, 6, 1, 0] rfl
              rw [show (.int (ofN z q (fun x => x = nI 2) (i + 1)) : Value) = .int ((ofN z q (fun x => x = nI 2) i) + (nI 0)) from congrArg Value.int (congrArg (fun x => ofN z q (fun x => x = nI 2) i + x) (bI_f (fun h => c75 h.1)))]
              exact h9
            exact ih (i + 1) (by omega) (by omega) _ hl
          · refine lv_iload hx hb dX7_ofProduct_78 (lv_at hl 0 rfl) ?_
            refine lv_if_eq (tgt := 87) hx hb dX7_ofProduct_80 (by decide) (fun h => absurd h (by decide)) (fun c80 => ?_)
            refine lv_iconst (v := nI 1) hx hb dX7_ofProduct_83 (by decide) ?_
            refine lv_goto (tgt := 88) hx hb dX7_ofProduct_84 (by decide) ?_
            refine lv_iadd hx hb dX7_ofProduct_88 ?_
            refine lv_istore_n (lv' := [(3, .int ((ofN z q (fun x => x = nI 2) i) + (nI 1))), (6, .int (nI 1)), (5, .int (z (13*i + 68))), (0, .ref o), (1, .int (nI q)), (2, .int (nI 5)), (4, .int (nI i))]) hx hb dX7_ofProduct_89 rfl hl (by decide) rfl (fun ls hl => ?_)
            refine lv_iinc (v := nI (i + 1)) (lv' := [(4, .int (nI (i + 1))), (3, .int ((ofN z q (fun x => x = nI 2) i) + (nI 1))), (6, .int (nI 1)), (5, .int (z (13*i + 68))), (0, .ref o), (1, .int (nI q)), (2, .int (nI 5))]) hx hb dX7_ofProduct_90 hl (k := 6) rfl (inc_1 _) (by decide) rfl (fun ls hl => ?_)
            refine lv_goto (tgt := 5) hx hb dX7_ofProduct_93 (by decide) ?_
            have hl : lv_has ls 7 [(0, .ref o), (1, .int (nI q)), (2, .int (nI 5)), (3, .int (ofN z q (fun x => x = nI 2) (i + 1))), (4, .int (nI (i + 1)))] := by
              have h9 := lv_sub (l' := [(0, .ref o), (1, .int (nI q)), (2, .int (nI 5)), (3, .int ((ofN z q (fun x => x = nI 2) i) + (nI 1))), (4, .int (nI (i + 1)))]) hl [4, 5, 6, 1, 0] rfl
              rw [show (.int (ofN z q (fun x => x = nI 2) (i + 1)) : Value) = .int ((ofN z q (fun x => x = nI 2) i) + (nI 1)) from congrArg Value.int (congrArg (fun x => ofN z q (fun x => x = nI 2) i + x) (bI_t ⟨c75, c53⟩))]
              exact h9
            exact ih (i + 1) (by omega) (by omega) _ hl
  refine lv_iconst (v := nI 0) hx hb dX7_ofProduct_0 (by decide) ?_
  refine lv_istore_n (lv' := [(3, .int (nI 0)), (0, .ref o), (1, .int (nI q)), (2, .int (nI 5))]) hx hb dX7_ofProduct_1 rfl hl (by decide) rfl (fun ls hl => ?_)
  refine lv_iconst (v := nI 0) hx hb dX7_ofProduct_2 (by decide) ?_
  refine lv_istore (lv' := [(4, .int (nI 0)), (3, .int (nI 0)), (0, .ref o), (1, .int (nI q)), (2, .int (nI 5))]) hx hb dX7_ofProduct_3 hl (by decide) rfl (fun ls hl => ?_)
  have hl : lv_has ls 7 [(0, .ref o), (1, .int (nI q)), (2, .int (nI 5)), (3, .int (ofN z q (fun x => x = nI 2) 0)), (4, .int (nI 0))] := by
    have h9 := lv_sub (l' := [(0, .ref o), (1, .int (nI q)), (2, .int (nI 5)), (3, .int (nI 0)), (4, .int (nI 0))]) hl [2, 3, 4, 1, 0] rfl
    rw [show (.int (ofN z q (fun x => x = nI 2) 0) : Value) = .int (nI 0) from congrArg Value.int rfl]
    exact h9
  exact J5 (cn z + 1) 0 (by omega) (by omega) _ hl
def rm_X7_claimsOn : Room := { frames := 2, cells := 0, slots := 0, locals := 41 }
theorem hd_X7_claimsOn : k_hd1 yX7_claimsOn RX7 2 := by decide +kernel
set_option maxHeartbeats 4000000 in
set_option maxRecDepth 100000 in
theorem c_X7_claimsOn_0 (l : Launch) (E : ke_E) (o : Nat) (z : Nat → Int32) (w : md_w) (v : Nat) (hI : iv z) (hv4 : v < 4) : Met l yX7_claimsOn wsX7_claimsOn rm_X7_claimsOn (kp E [.ref o, .int (nI v), .int (nI 0)] (md E o z w)) (qp (some (.int (clN z v (cn z))))) 0 0 nof := by
  refine k_hd (cc := cX7_claimsOn) (maxL := 6) (ret := (some .int)) (by decide) rfl (Nat.le_of_ble_eq_true rfl) ?_
  intro p e s m below meth c ls S hr hlk hnm hK hP hl
  have hx := S.1
  have hb := S.2.1
  have hts := S.2.2.2.2
  have hP : md E o z w s.heap := hP
  have hl : lv_has ls 6 [(0, .ref o), (1, .int (nI v)), (2, .int (nI 0))] := hl
  have hcn := iv_c hI
  have J5 : ∀ (n_ : Nat), ∀ (i : Nat), i ≤ cn z → cn z < i + n_ → ∀ (ls : Array Slot), lv_has ls 6 [(0, .ref o), (1, .int (nI v)), (2, .int (nI 0)), (3, .int (clN z v i)), (4, .int (nI i))] → W p l e (headSpec wsX7_claimsOn rm_X7_claimsOn).room s m ([.ref o, .int (nI v), .int (nI 0)] : List Value).toArray below meth c s.heap [] 0 0 (MQ below (qp (some (.int (clN z v (cn z))))) ([.ref o, .int (nI v), .int (nI 0)] : List Value).toArray s 0 0 nof) (F0 m 5 ls []) := by
    intro n_
    induction n_ with
    | zero =>
      intro i hi hn_ _ _
      exact absurd hn_ (by omega)
    | succ n_ ih =>
      intro i hi hn_ ls hl
      refine lv_iload hx hb dX7_claimsOn_5 (lv_at hl 4 rfl) ?_
      refine lv_aload_n hx hb dX7_claimsOn_7 rfl (lv_at hl 0 rfl) ?_
      refine k_get S hK hP.1 rfl (fun _ h => List.mem_cons_of_mem _ (List.mem_append_right _ (h))) 0 (by decide) (List.mem_cons_of_mem _ (List.mem_append_left _ (List.mem_of_getElem? (i := 0) rfl))) rfl (v := .ref (o + 1)) rfl dX7_claimsOn_8 ?_
      refine lv_iconst (v := nI 0) hx hb dX7_claimsOn_11 (by decide) ?_
      refine k_iald hx hb hK hP.2.1 (by omega) (by decide) (v := nI (cn z)) (iv_n hI) dX7_claimsOn_12 ?_
      refine n_ige (tgt := 88) hx hb dX7_claimsOn_13 (by decide) (by omega) (by omega) (fun c13 => ?_) (fun c13 => ?_)
      · refine lv_iload_n hx hb dX7_claimsOn_88 rfl (lv_at hl 3 rfl) ?_
        exact k_iret hx hb hr hlk dX7_claimsOn_89 (by rw [show i = cn z by omega])
      · refine lv_aload_n hx hb dX7_claimsOn_16 rfl (lv_at hl 0 rfl) ?_
        refine lv_iload hx hb dX7_claimsOn_17 (lv_at hl 4 rfl) ?_
        refine k_V (As := [.int (nI i)]) (rest := []) S hK (c_X7_waits l E o z w i hI c13) gX7_claimsOn_X7_waits rfl hd_X7_waits ⟨rfl, rfl⟩ ⟨Nat.le_of_ble_eq_true rfl, Nat.le_of_ble_eq_true rfl⟩ (k_recv hK hP.1 rfl) hP rfl hl.1 rfl (Nat.le_of_ble_eq_true rfl) dX7_claimsOn_19 ⟨Nat.le_of_ble_eq_true rfl, Nat.le_of_ble_eq_true rfl⟩ ?_
        refine b_eq (tgt := 46) hx hb dX7_claimsOn_22 (by decide) (fun c22 => ?_) (fun c22 => ?_)
        · refine lv_iconst (v := nI 0) hx hb dX7_claimsOn_46 (by decide) ?_
          refine lv_istore (lv' := [(5, .int (nI 0)), (0, .ref o), (1, .int (nI v)), (2, .int (nI 0)), (3, .int (clN z v i)), (4, .int (nI i))]) hx hb dX7_claimsOn_47 hl (by decide) rfl (fun ls hl => ?_)
          refine lv_iload_n hx hb dX7_claimsOn_49 rfl (lv_at hl 4 rfl) ?_
          refine lv_iload hx hb dX7_claimsOn_50 (lv_at hl 0 rfl) ?_
          refine lv_if_ne (tgt := 59) hx hb dX7_claimsOn_52 (by decide) (fun h => absurd h (by decide)) (fun c52 => ?_)
          refine lv_iconst (v := nI 0) hx hb dX7_claimsOn_55 (by decide) ?_
          refine lv_goto (tgt := 80) hx hb dX7_claimsOn_56 (by decide) ?_
          refine lv_iadd hx hb dX7_claimsOn_80 ?_
          refine lv_istore_n (lv' := [(3, .int ((clN z v i) + (nI 0))), (5, .int (nI 0)), (0, .ref o), (1, .int (nI v)), (2, .int (nI 0)), (4, .int (nI i))]) hx hb dX7_claimsOn_81 rfl hl (by decide) rfl (fun ls hl => ?_)
          refine lv_iinc (v := nI (i + 1)) (lv' := [(4, .int (nI (i + 1))), (3, .int ((clN z v i) + (nI 0))), (5, .int (nI 0)), (0, .ref o), (1, .int (nI v)), (2, .int (nI 0))]) hx hb dX7_claimsOn_82 hl (k := 5) rfl (inc_1 _) (by decide) rfl (fun ls hl => ?_)
          refine lv_goto (tgt := 5) hx hb dX7_claimsOn_85 (by decide) ?_
          have hl : lv_has ls 6 [(0, .ref o), (1, .int (nI v)), (2, .int (nI 0)), (3, .int (clN z v (i + 1))), (4, .int (nI (i + 1)))] := by
            have h9 := lv_sub (l' := [(0, .ref o), (1, .int (nI v)), (2, .int (nI 0)), (3, .int ((clN z v i) + (nI 0))), (4, .int (nI (i + 1)))]) hl [3, 4, 5, 1, 0] rfl
            rw [show (.int (clN z v (i + 1)) : Value) = .int ((clN z v i) + (nI 0)) from congrArg Value.int (congrArg (fun x => clN z v i + x) (bI_f (fun h => c22 h.1)))]
            exact h9
          exact ih (i + 1) (by omega) (by omega) _ hl
        · refine lv_aload_n hx hb dX7_claimsOn_25 rfl (lv_at hl 0 rfl) ?_
          refine k_get S hK hP.1 rfl (fun _ h => List.mem_cons_of_mem _ (List.mem_append_right _ (h))) 0 (by decide) (List.mem_cons_of_mem _ (List.mem_append_left _ (List.mem_of_getElem? (i := 0) rfl))) rfl (v := .ref (o + 1)) rfl dX7_claimsOn_26 ?_
          refine lv_iload hx hb dX7_claimsOn_29 (lv_at hl 4 rfl) ?_
          refine k_S (As := [.int (nI i)]) (rest := [.ref (o + 1)]) S hK (c_X7_at l E i) gX7_claimsOn_X7_at rfl hd_X7_at ⟨rfl, rfl⟩ ⟨Nat.le_of_ble_eq_true rfl, Nat.le_of_ble_eq_true rfl⟩ trivial rfl hl.1 rfl (Nat.le_of_ble_eq_true rfl) dX7_claimsOn_31 ⟨Nat.le_of_ble_eq_true rfl, Nat.le_of_ble_eq_true rfl⟩ ?_
          refine lv_bipush (v := nI 9) hx hb dX7_claimsOn_34 (by decide) ?_
          refine n_iadd (n := 13*i + 71) hx hb dX7_claimsOn_36 (by omega) ?_
          have hq1 := iv_ubl hI c13
          refine k_iald hx hb hK hP.2.1 (by omega) (by decide) (v := nI (ub z i)) (iv_ub hI c13) dX7_claimsOn_37 ?_
          refine lv_iload_n hx hb dX7_claimsOn_38 rfl (lv_at hl 1 rfl) ?_
          refine n_ine (tgt := 46) hx hb dX7_claimsOn_39 (by decide) (by omega) (by omega) (fun c39 => ?_) (fun c39 => ?_)
          · refine lv_iconst (v := nI 0) hx hb dX7_claimsOn_46 (by decide) ?_
            refine lv_istore (lv' := [(5, .int (nI 0)), (0, .ref o), (1, .int (nI v)), (2, .int (nI 0)), (3, .int (clN z v i)), (4, .int (nI i))]) hx hb dX7_claimsOn_47 hl (by decide) rfl (fun ls hl => ?_)
            refine lv_iload_n hx hb dX7_claimsOn_49 rfl (lv_at hl 4 rfl) ?_
            refine lv_iload hx hb dX7_claimsOn_50 (lv_at hl 0 rfl) ?_
            refine lv_if_ne (tgt := 59) hx hb dX7_claimsOn_52 (by decide) (fun h => absurd h (by decide)) (fun c52 => ?_)
            refine lv_iconst (v := nI 0) hx hb dX7_claimsOn_55 (by decide) ?_
            refine lv_goto (tgt := 80) hx hb dX7_claimsOn_56 (by decide) ?_
            refine lv_iadd hx hb dX7_claimsOn_80 ?_
            refine lv_istore_n (lv' := [(3, .int ((clN z v i) + (nI 0))), (5, .int (nI 0)), (0, .ref o), (1, .int (nI v)), (2, .int (nI 0)), (4, .int (nI i))]) hx hb dX7_claimsOn_81 rfl hl (by decide) rfl (fun ls hl => ?_)
            refine lv_iinc (v := nI (i + 1)) (lv' := [(4, .int (nI (i + 1))), (3, .int ((clN z v i) + (nI 0))), (5, .int (nI 0)), (0, .ref o), (1, .int (nI v)), (2, .int (nI 0))]) hx hb dX7_claimsOn_82 hl (k := 5) rfl (inc_1 _) (by decide) rfl (fun ls hl => ?_)
            refine lv_goto (tgt := 5) hx hb dX7_claimsOn_85 (by decide) ?_
            have hl : lv_has ls 6 [(0, .ref o), (1, .int (nI v)), (2, .int (nI 0)), (3, .int (clN z v (i + 1))), (4, .int (nI (i + 1)))] := by
              have h9 := lv_sub (l' := [(0, .ref o), (1, .int (nI v)), (2, .int (nI 0)), (3, .int ((clN z v i) + (nI 0))), (4, .int (nI (i + 1)))]) hl [3, 4, 5, 1, 0] rfl
              rw [show (.int (clN z v (i + 1)) : Value) = .int ((clN z v i) + (nI 0)) from congrArg Value.int (congrArg (fun x => clN z v i + x) (bI_f (fun h => c39 h.2)))]
              exact h9
            exact ih (i + 1) (by omega) (by omega) _ hl
          · refine lv_iconst (v := nI 1) hx hb dX7_claimsOn_42 (by decide) ?_
            refine lv_goto (tgt := 47) hx hb dX7_claimsOn_43 (by decide) ?_
            refine lv_istore (lv' := [(5, .int (nI 1)), (0, .ref o), (1, .int (nI v)), (2, .int (nI 0)), (3, .int (clN z v i)), (4, .int (nI i))]) hx hb dX7_claimsOn_47 hl (by decide) rfl (fun ls hl => ?_)
            refine lv_iload_n hx hb dX7_claimsOn_49 rfl (lv_at hl 4 rfl) ?_
            refine lv_iload hx hb dX7_claimsOn_50 (lv_at hl 0 rfl) ?_
            refine lv_if_ne (tgt := 59) hx hb dX7_claimsOn_52 (by decide) (fun c52 => ?_) (fun h => absurd h (by decide))
            refine lv_iload_n hx hb dX7_claimsOn_59 rfl (lv_at hl 3 rfl) ?_
            refine lv_if_eq (tgt := 79) hx hb dX7_claimsOn_60 (by decide) (fun c60 => ?_) (fun h => absurd h (by decide))
            refine lv_iconst (v := nI 1) hx hb dX7_claimsOn_79 (by decide) ?_
            refine lv_iadd hx hb dX7_claimsOn_80 ?_
            refine lv_istore_n (lv' := [(3, .int ((clN z v i) + (nI 1))), (5, .int (nI 1)), (0, .ref o), (1, .int (nI v)), (2, .int (nI 0)), (4, .int (nI i))]) hx hb dX7_claimsOn_81 rfl hl (by decide) rfl (fun ls hl => ?_)
            refine lv_iinc (v := nI (i + 1)) (lv' := [(4, .int (nI (i + 1))), (3, .int ((clN z v i) + (nI 1))), (5, .int (nI 1)), (0, .ref o), (1, .int (nI v)), (2, .int (nI 0))]) hx hb dX7_claimsOn_82 hl (k := 5) rfl (inc_1 _) (by decide) rfl (fun ls hl => ?_)
            refine lv_goto (tgt := 5) hx hb dX7_claimsOn_85 (by decide) ?_
            have hl : lv_has ls 6 [(0, .ref o), (1, .int (nI v)), (2, .int (nI 0)), (3, .int (clN z v (i + 1))), (4, .int (nI (i + 1)))] := by
              have h9 := lv_sub (l' := [(0, .ref o), (1, .int (nI v)), (2, .int (nI 0)), (3, .int ((clN z v i) + (nI 1))), (4, .int (nI (i + 1)))]) hl [3, 4, 5, 1, 0] rfl
              rw [show (.int (clN z v (i + 1)) : Value) = .int ((clN z v i) + (nI 1)) from congrArg Value.int (congrArg (fun x => clN z v i + x) (bI_t ⟨c22, c39⟩))]
              exact h9
            exact ih (i + 1) (by omega) (by omega) _ hl
  refine lv_iconst (v := nI 0) hx hb dX7_claimsOn_0 (by decide) ?_
  refine lv_istore_n (lv' := [(3, .int (nI 0)), (0, .ref o), (1, .int (nI v)), (2, .int (nI 0))]) hx hb dX7_claimsOn_1 rfl hl (by decide) rfl (fun ls hl => ?_)
  refine lv_iconst (v := nI 0) hx hb dX7_claimsOn_2 (by decide) ?_
  refine lv_istore (lv' := [(4, .int (nI 0)), (3, .int (nI 0)), (0, .ref o), (1, .int (nI v)), (2, .int (nI 0))]) hx hb dX7_claimsOn_3 hl (by decide) rfl (fun ls hl => ?_)
  have hl : lv_has ls 6 [(0, .ref o), (1, .int (nI v)), (2, .int (nI 0)), (3, .int (clN z v 0)), (4, .int (nI 0))] := by
    have h9 := lv_sub (l' := [(0, .ref o), (1, .int (nI v)), (2, .int (nI 0)), (3, .int (nI 0)), (4, .int (nI 0))]) hl [2, 3, 4, 1, 0] rfl
    rw [show (.int (clN z v 0) : Value) = .int (nI 0) from congrArg Value.int rfl]
    exact h9
  exact J5 (cn z + 1) 0 (by omega) (by omega) _ hl
set_option maxHeartbeats 4000000 in
set_option maxRecDepth 100000 in
theorem c_X7_claimsOn_1 (l : Launch) (E : ke_E) (o : Nat) (z : Nat → Int32) (w : md_w) (v : Nat) (hI : iv z) (hv4 : v < 4) : Met l yX7_claimsOn wsX7_claimsOn rm_X7_claimsOn (kp E [.ref o, .int (nI v), .int (nI 1)] (md E o z w)) (qp (some (.int (clA z v (cn z))))) 0 0 nof := by
  refine k_hd (cc := cX7_claimsOn) (maxL := 6) (ret := (some .int)) (by decide) rfl (Nat.le_of_ble_eq_true rfl) ?_
  intro p e s m below meth c ls S hr hlk hnm hK hP hl
  have hx := S.1
  have hb := S.2.1
  have hts := S.2.2.2.2
  have hP : md E o z w s.heap := hP
  have hl : lv_has ls 6 [(0, .ref o), (1, .int (nI v)), (2, .int (nI 1))] := hl
  have hcn := iv_c hI
  have J5 : ∀ (n_ : Nat), ∀ (i : Nat), i ≤ cn z → cn z < i + n_ → ∀ (ls : Array Slot), lv_has ls 6 [(0, .ref o), (1, .int (nI v)), (2, .int (nI 1)), (3, .int (clA z v i)), (4, .int (nI i))] → W p l e (headSpec wsX7_claimsOn rm_X7_claimsOn).room s m ([.ref o, .int (nI v), .int (nI 1)] : List Value).toArray below meth c s.heap [] 0 0 (MQ below (qp (some (.int (clA z v (cn z))))) ([.ref o, .int (nI v), .int (nI 1)] : List Value).toArray s 0 0 nof) (F0 m 5 ls []) := by
    intro n_
    induction n_ with
    | zero =>
      intro i hi hn_ _ _
      exact absurd hn_ (by omega)
    | succ n_ ih =>
      intro i hi hn_ ls hl
      refine lv_iload hx hb dX7_claimsOn_5 (lv_at hl 4 rfl) ?_
      refine lv_aload_n hx hb dX7_claimsOn_7 rfl (lv_at hl 0 rfl) ?_
      refine k_get S hK hP.1 rfl (fun _ h => List.mem_cons_of_mem _ (List.mem_append_right _ (h))) 0 (by decide) (List.mem_cons_of_mem _ (List.mem_append_left _ (List.mem_of_getElem? (i := 0) rfl))) rfl (v := .ref (o + 1)) rfl dX7_claimsOn_8 ?_
      refine lv_iconst (v := nI 0) hx hb dX7_claimsOn_11 (by decide) ?_
      refine k_iald hx hb hK hP.2.1 (by omega) (by decide) (v := nI (cn z)) (iv_n hI) dX7_claimsOn_12 ?_
      refine n_ige (tgt := 88) hx hb dX7_claimsOn_13 (by decide) (by omega) (by omega) (fun c13 => ?_) (fun c13 => ?_)
      · refine lv_iload_n hx hb dX7_claimsOn_88 rfl (lv_at hl 3 rfl) ?_
        exact k_iret hx hb hr hlk dX7_claimsOn_89 (by rw [show i = cn z by omega])
      · refine lv_aload_n hx hb dX7_claimsOn_16 rfl (lv_at hl 0 rfl) ?_
        refine lv_iload hx hb dX7_claimsOn_17 (lv_at hl 4 rfl) ?_
        refine k_V (As := [.int (nI i)]) (rest := []) S hK (c_X7_waits l E o z w i hI c13) gX7_claimsOn_X7_waits rfl hd_X7_waits ⟨rfl, rfl⟩ ⟨Nat.le_of_ble_eq_true rfl, Nat.le_of_ble_eq_true rfl⟩ (k_recv hK hP.1 rfl) hP rfl hl.1 rfl (Nat.le_of_ble_eq_true rfl) dX7_claimsOn_19 ⟨Nat.le_of_ble_eq_true rfl, Nat.le_of_ble_eq_true rfl⟩ ?_
        refine b_eq (tgt := 46) hx hb dX7_claimsOn_22 (by decide) (fun c22 => ?_) (fun c22 => ?_)
        · refine lv_iconst (v := nI 0) hx hb dX7_claimsOn_46 (by decide) ?_
          refine lv_istore (lv' := [(5, .int (nI 0)), (0, .ref o), (1, .int (nI v)), (2, .int (nI 1)), (3, .int (clA z v i)), (4, .int (nI i))]) hx hb dX7_claimsOn_47 hl (by decide) rfl (fun ls hl => ?_)
          refine lv_iload_n hx hb dX7_claimsOn_49 rfl (lv_at hl 4 rfl) ?_
          refine lv_iload hx hb dX7_claimsOn_50 (lv_at hl 0 rfl) ?_
          refine lv_if_ne (tgt := 59) hx hb dX7_claimsOn_52 (by decide) (fun h => absurd h (by decide)) (fun c52 => ?_)
          refine lv_iconst (v := nI 0) hx hb dX7_claimsOn_55 (by decide) ?_
          refine lv_goto (tgt := 80) hx hb dX7_claimsOn_56 (by decide) ?_
          refine lv_iadd hx hb dX7_claimsOn_80 ?_
          refine lv_istore_n (lv' := [(3, .int ((clA z v i) + (nI 0))), (5, .int (nI 0)), (0, .ref o), (1, .int (nI v)), (2, .int (nI 1)), (4, .int (nI i))]) hx hb dX7_claimsOn_81 rfl hl (by decide) rfl (fun ls hl => ?_)
          refine lv_iinc (v := nI (i + 1)) (lv' := [(4, .int (nI (i + 1))), (3, .int ((clA z v i) + (nI 0))), (5, .int (nI 0)), (0, .ref o), (1, .int (nI v)), (2, .int (nI 1))]) hx hb dX7_claimsOn_82 hl (k := 5) rfl (inc_1 _) (by decide) rfl (fun ls hl => ?_)
          refine lv_goto (tgt := 5) hx hb dX7_claimsOn_85 (by decide) ?_
          have hl : lv_has ls 6 [(0, .ref o), (1, .int (nI v)), (2, .int (nI 1)), (3, .int (clA z v (i + 1))), (4, .int (nI (i + 1)))] := by
            have h9 := lv_sub (l' := [(0, .ref o), (1, .int (nI v)), (2, .int (nI 1)), (3, .int ((clA z v i) + (nI 0))), (4, .int (nI (i + 1)))]) hl [3, 4, 5, 1, 0] rfl
            rw [show (.int (clA z v (i + 1)) : Value) = .int ((clA z v i) + (nI 0)) from congrArg Value.int (congrArg (fun x => clA z v i + x) (iF_f (fun h => c22 h.1)))]
            exact h9
          exact ih (i + 1) (by omega) (by omega) _ hl
        · refine lv_aload_n hx hb dX7_claimsOn_25 rfl (lv_at hl 0 rfl) ?_
          refine k_get S hK hP.1 rfl (fun _ h => List.mem_cons_of_mem _ (List.mem_append_right _ (h))) 0 (by decide) (List.mem_cons_of_mem _ (List.mem_append_left _ (List.mem_of_getElem? (i := 0) rfl))) rfl (v := .ref (o + 1)) rfl dX7_claimsOn_26 ?_
          refine lv_iload hx hb dX7_claimsOn_29 (lv_at hl 4 rfl) ?_
          refine k_S (As := [.int (nI i)]) (rest := [.ref (o + 1)]) S hK (c_X7_at l E i) gX7_claimsOn_X7_at rfl hd_X7_at ⟨rfl, rfl⟩ ⟨Nat.le_of_ble_eq_true rfl, Nat.le_of_ble_eq_true rfl⟩ trivial rfl hl.1 rfl (Nat.le_of_ble_eq_true rfl) dX7_claimsOn_31 ⟨Nat.le_of_ble_eq_true rfl, Nat.le_of_ble_eq_true rfl⟩ ?_
          refine lv_bipush (v := nI 9) hx hb dX7_claimsOn_34 (by decide) ?_
          refine n_iadd (n := 13*i + 71) hx hb dX7_claimsOn_36 (by omega) ?_
          have hq1 := iv_ubl hI c13
          refine k_iald hx hb hK hP.2.1 (by omega) (by decide) (v := nI (ub z i)) (iv_ub hI c13) dX7_claimsOn_37 ?_
          refine lv_iload_n hx hb dX7_claimsOn_38 rfl (lv_at hl 1 rfl) ?_
          refine n_ine (tgt := 46) hx hb dX7_claimsOn_39 (by decide) (by omega) (by omega) (fun c39 => ?_) (fun c39 => ?_)
          · refine lv_iconst (v := nI 0) hx hb dX7_claimsOn_46 (by decide) ?_
            refine lv_istore (lv' := [(5, .int (nI 0)), (0, .ref o), (1, .int (nI v)), (2, .int (nI 1)), (3, .int (clA z v i)), (4, .int (nI i))]) hx hb dX7_claimsOn_47 hl (by decide) rfl (fun ls hl => ?_)
            refine lv_iload_n hx hb dX7_claimsOn_49 rfl (lv_at hl 4 rfl) ?_
            refine lv_iload hx hb dX7_claimsOn_50 (lv_at hl 0 rfl) ?_
            refine lv_if_ne (tgt := 59) hx hb dX7_claimsOn_52 (by decide) (fun h => absurd h (by decide)) (fun c52 => ?_)
            refine lv_iconst (v := nI 0) hx hb dX7_claimsOn_55 (by decide) ?_
            refine lv_goto (tgt := 80) hx hb dX7_claimsOn_56 (by decide) ?_
            refine lv_iadd hx hb dX7_claimsOn_80 ?_
            refine lv_istore_n (lv' := [(3, .int ((clA z v i) + (nI 0))), (5, .int (nI 0)), (0, .ref o), (1, .int (nI v)), (2, .int (nI 1)), (4, .int (nI i))]) hx hb dX7_claimsOn_81 rfl hl (by decide) rfl (fun ls hl => ?_)
            refine lv_iinc (v := nI (i + 1)) (lv' := [(4, .int (nI (i + 1))), (3, .int ((clA z v i) + (nI 0))), (5, .int (nI 0)), (0, .ref o), (1, .int (nI v)), (2, .int (nI 1))]) hx hb dX7_claimsOn_82 hl (k := 5) rfl (inc_1 _) (by decide) rfl (fun ls hl => ?_)
            refine lv_goto (tgt := 5) hx hb dX7_claimsOn_85 (by decide) ?_
            have hl : lv_has ls 6 [(0, .ref o), (1, .int (nI v)), (2, .int (nI 1)), (3, .int (clA z v (i + 1))), (4, .int (nI (i + 1)))] := by
              have h9 := lv_sub (l' := [(0, .ref o), (1, .int (nI v)), (2, .int (nI 1)), (3, .int ((clA z v i) + (nI 0))), (4, .int (nI (i + 1)))]) hl [3, 4, 5, 1, 0] rfl
              rw [show (.int (clA z v (i + 1)) : Value) = .int ((clA z v i) + (nI 0)) from congrArg Value.int (congrArg (fun x => clA z v i + x) (iF_f (fun h => c39 h.2)))]
              exact h9
            exact ih (i + 1) (by omega) (by omega) _ hl
          · refine lv_iconst (v := nI 1) hx hb dX7_claimsOn_42 (by decide) ?_
            refine lv_goto (tgt := 47) hx hb dX7_claimsOn_43 (by decide) ?_
            refine lv_istore (lv' := [(5, .int (nI 1)), (0, .ref o), (1, .int (nI v)), (2, .int (nI 1)), (3, .int (clA z v i)), (4, .int (nI i))]) hx hb dX7_claimsOn_47 hl (by decide) rfl (fun ls hl => ?_)
            refine lv_iload_n hx hb dX7_claimsOn_49 rfl (lv_at hl 4 rfl) ?_
            refine lv_iload hx hb dX7_claimsOn_50 (lv_at hl 0 rfl) ?_
            refine lv_if_ne (tgt := 59) hx hb dX7_claimsOn_52 (by decide) (fun c52 => ?_) (fun h => absurd h (by decide))
            refine lv_iload_n hx hb dX7_claimsOn_59 rfl (lv_at hl 3 rfl) ?_
            refine lv_if_eq (tgt := 79) hx hb dX7_claimsOn_60 (by decide) (fun h => absurd h (by decide)) (fun c60 => ?_)
            refine lv_aload_n hx hb dX7_claimsOn_63 rfl (lv_at hl 1 rfl) ?_
            refine k_get S hK hP.1 rfl (fun _ h => List.mem_cons_of_mem _ (List.mem_append_right _ (h))) 0 (by decide) (List.mem_cons_of_mem _ (List.mem_append_left _ (List.mem_of_getElem? (i := 0) rfl))) rfl (v := .ref (o + 1)) rfl dX7_claimsOn_64 ?_
            refine lv_iload hx hb dX7_claimsOn_67 (lv_at hl 5 rfl) ?_
            refine k_S (As := [.int (nI i)]) (rest := [.ref (o + 1), .int (clA z v i)]) S hK (c_X7_at l E i) gX7_claimsOn_X7_at rfl hd_X7_at ⟨rfl, rfl⟩ ⟨Nat.le_of_ble_eq_true rfl, Nat.le_of_ble_eq_true rfl⟩ trivial rfl hl.1 rfl (Nat.le_of_ble_eq_true rfl) dX7_claimsOn_69 ⟨Nat.le_of_ble_eq_true rfl, Nat.le_of_ble_eq_true rfl⟩ ?_
            refine lv_bipush (v := nI 8) hx hb dX7_claimsOn_72 (by decide) ?_
            refine n_iadd (n := 13*i + 70) hx hb dX7_claimsOn_74 (by omega) ?_
            refine k_iald hx hb hK hP.2.1 (by omega) (by decide) (v := z (13*i + 70)) rfl dX7_claimsOn_75 ?_
            refine lv_goto (tgt := 80) hx hb dX7_claimsOn_76 (by decide) ?_
            refine lv_iadd hx hb dX7_claimsOn_80 ?_
            refine lv_istore_n (lv' := [(3, .int ((clA z v i) + (z (13*i + 70)))), (5, .int (nI 1)), (0, .ref o), (1, .int (nI v)), (2, .int (nI 1)), (4, .int (nI i))]) hx hb dX7_claimsOn_81 rfl hl (by decide) rfl (fun ls hl => ?_)
            refine lv_iinc (v := nI (i + 1)) (lv' := [(4, .int (nI (i + 1))), (3, .int ((clA z v i) + (z (13*i + 70)))), (5, .int (nI 1)), (0, .ref o), (1, .int (nI v)), (2, .int (nI 1))]) hx hb dX7_claimsOn_82 hl (k := 5) rfl (inc_1 _) (by decide) rfl (fun ls hl => ?_)
            refine lv_goto (tgt := 5) hx hb dX7_claimsOn_85 (by decide) ?_
            have hl : lv_has ls 6 [(0, .ref o), (1, .int (nI v)), (2, .int (nI 1)), (3, .int (clA z v (i + 1))), (4, .int (nI (i + 1)))] := by
              have h9 := lv_sub (l' := [(0, .ref o), (1, .int (nI v)), (2, .int (nI 1)), (3, .int ((clA z v i) + (z (13*i + 70)))), (4, .int (nI (i + 1)))]) hl [3, 4, 5, 1, 0] rfl
              rw [show (.int (clA z v (i + 1)) : Value) = .int ((clA z v i) + (z (13*i + 70))) from congrArg Value.int (congrArg (fun x => clA z v i + x) (iF_t ⟨c22, c39⟩))]
              exact h9
            exact ih (i + 1) (by omega) (by omega) _ hl
  refine lv_iconst (v := nI 0) hx hb dX7_claimsOn_0 (by decide) ?_
  refine lv_istore_n (lv' := [(3, .int (nI 0)), (0, .ref o), (1, .int (nI v)), (2, .int (nI 1))]) hx hb dX7_claimsOn_1 rfl hl (by decide) rfl (fun ls hl => ?_)
  refine lv_iconst (v := nI 0) hx hb dX7_claimsOn_2 (by decide) ?_
  refine lv_istore (lv' := [(4, .int (nI 0)), (3, .int (nI 0)), (0, .ref o), (1, .int (nI v)), (2, .int (nI 1))]) hx hb dX7_claimsOn_3 hl (by decide) rfl (fun ls hl => ?_)
  have hl : lv_has ls 6 [(0, .ref o), (1, .int (nI v)), (2, .int (nI 1)), (3, .int (clA z v 0)), (4, .int (nI 0))] := by
    have h9 := lv_sub (l' := [(0, .ref o), (1, .int (nI v)), (2, .int (nI 1)), (3, .int (nI 0)), (4, .int (nI 0))]) hl [2, 3, 4, 1, 0] rfl
    rw [show (.int (clA z v 0) : Value) = .int (nI 0) from congrArg Value.int rfl]
    exact h9
  exact J5 (cn z + 1) 0 (by omega) (by omega) _ hl
def rm_X7_whereMany : Room := { frames := 1, cells := 0, slots := 0, locals := 20 }
theorem hd_X7_whereMany : k_hd1 yX7_whereMany RX7 1 := by decide +kernel
set_option maxHeartbeats 4000000 in
set_option maxRecDepth 100000 in
theorem c_X7_whereMany (l : Launch) (E : ke_E) (o : Nat) (z : Nat → Int32) (w : md_w) (x : Int32) (hI : iv z) : Met l yX7_whereMany wsX7_whereMany rm_X7_whereMany (kp E [.ref o, .int x] (md E o z w)) (qp (some (.int (whN z x (cn z))))) 0 0 nof := by
  refine k_hd (cc := cX7_whereMany) (maxL := 4) (ret := (some .int)) (by decide) rfl (Nat.le_of_ble_eq_true rfl) ?_
  intro p e s m below meth c ls S hr hlk hnm hK hP hl
  have hx := S.1
  have hb := S.2.1
  have hts := S.2.2.2.2
  have hP : md E o z w s.heap := hP
  have hl : lv_has ls 4 [(0, .ref o), (1, .int x)] := hl
  have hcn := iv_c hI
  have J4 : ∀ (n_ : Nat), ∀ (i : Nat), i ≤ cn z → cn z < i + n_ → ∀ (ls : Array Slot), lv_has ls 4 [(0, .ref o), (1, .int x), (2, .int (whN z x i)), (3, .int (nI i))] → W p l e (headSpec wsX7_whereMany rm_X7_whereMany).room s m ([.ref o, .int x] : List Value).toArray below meth c s.heap [] 0 0 (MQ below (qp (some (.int (whN z x (cn z))))) ([.ref o, .int x] : List Value).toArray s 0 0 nof) (F0 m 4 ls []) := by
    intro n_
    induction n_ with
    | zero =>
      intro i hi hn_ _ _
      exact absurd hn_ (by omega)
    | succ n_ ih =>
      intro i hi hn_ ls hl
      refine lv_iload_n hx hb dX7_whereMany_4 rfl (lv_at hl 3 rfl) ?_
      refine lv_aload_n hx hb dX7_whereMany_5 rfl (lv_at hl 0 rfl) ?_
      refine k_get S hK hP.1 rfl (fun _ h => List.mem_cons_of_mem _ (List.mem_append_right _ (h))) 0 (by decide) (List.mem_cons_of_mem _ (List.mem_append_left _ (List.mem_of_getElem? (i := 0) rfl))) rfl (v := .ref (o + 1)) rfl dX7_whereMany_6 ?_
      refine lv_iconst (v := nI 0) hx hb dX7_whereMany_9 (by decide) ?_
      refine k_iald hx hb hK hP.2.1 (by omega) (by decide) (v := nI (cn z)) (iv_n hI) dX7_whereMany_10 ?_
      refine n_ige (tgt := 44) hx hb dX7_whereMany_11 (by decide) (by omega) (by omega) (fun c11 => ?_) (fun c11 => ?_)
      · refine lv_iload_n hx hb dX7_whereMany_44 rfl (lv_at hl 2 rfl) ?_
        exact k_iret hx hb hr hlk dX7_whereMany_45 (by rw [show i = cn z by omega])
      · refine lv_iload_n hx hb dX7_whereMany_14 rfl (lv_at hl 2 rfl) ?_
        refine lv_aload_n hx hb dX7_whereMany_15 rfl (lv_at hl 0 rfl) ?_
        refine k_get S hK hP.1 rfl (fun _ h => List.mem_cons_of_mem _ (List.mem_append_right _ (h))) 0 (by decide) (List.mem_cons_of_mem _ (List.mem_append_left _ (List.mem_of_getElem? (i := 0) rfl))) rfl (v := .ref (o + 1)) rfl dX7_whereMany_16 ?_
        refine lv_iload_n hx hb dX7_whereMany_19 rfl (lv_at hl 3 rfl) ?_
        refine k_S (As := [.int (nI i)]) (rest := [.ref (o + 1), .int (whN z x i)]) S hK (c_X7_at l E i) gX7_whereMany_X7_at rfl hd_X7_at ⟨rfl, rfl⟩ ⟨Nat.le_of_ble_eq_true rfl, Nat.le_of_ble_eq_true rfl⟩ trivial rfl hl.1 rfl (Nat.le_of_ble_eq_true rfl) dX7_whereMany_20 ⟨Nat.le_of_ble_eq_true rfl, Nat.le_of_ble_eq_true rfl⟩ ?_
        refine lv_bipush (v := nI 6) hx hb dX7_whereMany_23 (by decide) ?_
        refine n_iadd (n := 13*i + 68) hx hb dX7_whereMany_25 (by omega) ?_
        refine k_iald hx hb hK hP.2.1 (by omega) (by decide) (v := z (13*i + 68)) rfl dX7_whereMany_26 ?_
        refine lv_iload_n hx hb dX7_whereMany_27 rfl (lv_at hl 1 rfl) ?_
        refine lv_icmp_ne (tgt := 35) hx hb dX7_whereMany_28 (by decide) (fun c28 => ?_) (fun c28 => ?_)
        · refine lv_iconst (v := nI 0) hx hb dX7_whereMany_35 (by decide) ?_
          refine lv_iadd hx hb dX7_whereMany_36 ?_
          refine lv_istore_n (lv' := [(2, .int ((whN z x i) + (nI 0))), (0, .ref o), (1, .int x), (3, .int (nI i))]) hx hb dX7_whereMany_37 rfl hl (by decide) rfl (fun ls hl => ?_)
          refine lv_iinc (v := nI (i + 1)) (lv' := [(3, .int (nI (i + 1))), (2, .int ((whN z x i) + (nI 0))), (0, .ref o), (1, .int x)]) hx hb dX7_whereMany_38 hl (k := 3) rfl (inc_1 _) (by decide) rfl (fun ls hl => ?_)
          refine lv_goto (tgt := 4) hx hb dX7_whereMany_41 (by decide) ?_
          have hl : lv_has ls 4 [(0, .ref o), (1, .int x), (2, .int (whN z x (i + 1))), (3, .int (nI (i + 1)))] := by
            have h9 := lv_sub (l' := [(0, .ref o), (1, .int x), (2, .int ((whN z x i) + (nI 0))), (3, .int (nI (i + 1)))]) hl [2, 3, 1, 0] rfl
            rw [show (.int (whN z x (i + 1)) : Value) = .int ((whN z x i) + (nI 0)) from congrArg Value.int (congrArg (fun y9 => whN z x i + y9) (bI_f c28))]
            exact h9
          exact ih (i + 1) (by omega) (by omega) _ hl
        · refine lv_iconst (v := nI 1) hx hb dX7_whereMany_31 (by decide) ?_
          refine lv_goto (tgt := 36) hx hb dX7_whereMany_32 (by decide) ?_
          refine lv_iadd hx hb dX7_whereMany_36 ?_
          refine lv_istore_n (lv' := [(2, .int ((whN z x i) + (nI 1))), (0, .ref o), (1, .int x), (3, .int (nI i))]) hx hb dX7_whereMany_37 rfl hl (by decide) rfl (fun ls hl => ?_)
          refine lv_iinc (v := nI (i + 1)) (lv' := [(3, .int (nI (i + 1))), (2, .int ((whN z x i) + (nI 1))), (0, .ref o), (1, .int x)]) hx hb dX7_whereMany_38 hl (k := 3) rfl (inc_1 _) (by decide) rfl (fun ls hl => ?_)
          refine lv_goto (tgt := 4) hx hb dX7_whereMany_41 (by decide) ?_
          have hl : lv_has ls 4 [(0, .ref o), (1, .int x), (2, .int (whN z x (i + 1))), (3, .int (nI (i + 1)))] := by
            have h9 := lv_sub (l' := [(0, .ref o), (1, .int x), (2, .int ((whN z x i) + (nI 1))), (3, .int (nI (i + 1)))]) hl [2, 3, 1, 0] rfl
            rw [show (.int (whN z x (i + 1)) : Value) = .int ((whN z x i) + (nI 1)) from congrArg Value.int (congrArg (fun y9 => whN z x i + y9) (bI_t c28))]
            exact h9
          exact ih (i + 1) (by omega) (by omega) _ hl
  refine lv_iconst (v := nI 0) hx hb dX7_whereMany_0 (by decide) ?_
  refine lv_istore_n (lv' := [(2, .int (nI 0)), (0, .ref o), (1, .int x)]) hx hb dX7_whereMany_1 rfl hl (by decide) rfl (fun ls hl => ?_)
  refine lv_iconst (v := nI 0) hx hb dX7_whereMany_2 (by decide) ?_
  refine lv_istore_n (lv' := [(3, .int (nI 0)), (2, .int (nI 0)), (0, .ref o), (1, .int x)]) hx hb dX7_whereMany_3 rfl hl (by decide) rfl (fun ls hl => ?_)
  have hl : lv_has ls 4 [(0, .ref o), (1, .int x), (2, .int (whN z x 0)), (3, .int (nI 0))] := by
    have h9 := lv_sub (l' := [(0, .ref o), (1, .int x), (2, .int (nI 0)), (3, .int (nI 0))]) hl [2, 3, 1, 0] rfl
    rw [show (.int (whN z x 0) : Value) = .int (nI 0) from congrArg Value.int rfl]
    exact h9
  exact J4 (cn z + 1) 0 (by omega) (by omega) _ hl
def rm_X7_counted : Room := { frames := 3, cells := 0, slots := 0, locals := 63 }
theorem hd_X7_counted : k_hd1 yX7_counted RX7 1 := by decide +kernel
set_option maxHeartbeats 4000000 in
set_option maxRecDepth 100000 in
theorem c_X7_counted (l : Launch) (E : ke_E) (o : Nat) (z : Nat → Int32) (w : md_w) (k : Nat) (hI : iv z) (hk : k < 14) : Met l yX7_counted wsX7_counted rm_X7_counted (kp E [.ref o, .int (nI k)] (md E o z w)) (qp (some (.int (coV z (q_sm w) k)))) 0 0 nof := by
  refine k_hd (cc := cX7_counted) (maxL := 2) (ret := (some .int)) (by decide) rfl (Nat.le_of_ble_eq_true rfl) ?_
  intro p e s m below meth c ls S hr hlk hnm hK hP hl
  have hx := S.1
  have hb := S.2.1
  have hts := S.2.2.2.2
  have hP : md E o z w s.heap := hP
  have hl : lv_has ls 2 [(0, .ref o), (1, .int (nI k))] := hl
  have hcn := iv_c hI
  rcases (by omega : k = 0 ∨ k = 1 ∨ k = 2 ∨ k = 3 ∨ k = 4 ∨ k = 5 ∨ k = 6 ∨ k = 7 ∨ k = 8 ∨ k = 9 ∨ k = 10 ∨ k = 11 ∨ k = 12 ∨ k = 13) with rfl | rfl | rfl | rfl | rfl | rfl | rfl | rfl | rfl | rfl | rfl | rfl | rfl | rfl
  · have hl : lv_has ls 2 [(0, .ref o), (1, .int (nI 0))] := hl
    refine lv_iload_n hx hb dX7_counted_0 rfl (lv_at hl 1 rfl) ?_
    refine lv_if_le (tgt := 18) hx hb dX7_counted_1 (by decide) (fun c1 => ?_) (fun h => absurd h (by decide))
    refine lv_iload_n hx hb dX7_counted_18 rfl (lv_at hl 1 rfl) ?_
    refine lv_lookup (off := 33) (tgt := 52) hx hb dX7_counted_19 (by decide) (by decide) (by decide) ?_
    refine lv_aload_n hx hb dX7_counted_52 rfl (lv_at hl 0 rfl) ?_
    refine k_get S hK hP.1 rfl (fun _ h => List.mem_cons_of_mem _ (List.mem_append_right _ (h))) 0 (by decide) (List.mem_cons_of_mem _ (List.mem_append_left _ (List.mem_of_getElem? (i := 0) rfl))) rfl (v := .ref (o + 1)) rfl dX7_counted_53 ?_
    refine lv_iconst (v := nI 0) hx hb dX7_counted_56 (by decide) ?_
    refine k_iald hx hb hK hP.2.1 (by omega) (by decide) (v := nI (cn z)) (iv_n hI) dX7_counted_57 ?_
    exact k_iret hx hb hr hlk dX7_counted_58 (rfl)
  · have hl : lv_has ls 2 [(0, .ref o), (1, .int (nI 1))] := hl
    refine lv_iload_n hx hb dX7_counted_0 rfl (lv_at hl 1 rfl) ?_
    refine lv_if_le (tgt := 18) hx hb dX7_counted_1 (by decide) (fun h => absurd h (by decide)) (fun c1 => ?_)
    refine lv_iload_n hx hb dX7_counted_4 rfl (lv_at hl 1 rfl) ?_
    refine lv_bipush (v := nI 6) hx hb dX7_counted_5 (by decide) ?_
    refine n_ige (tgt := 18) hx hb dX7_counted_7 (by decide) (by omega) (by omega) (fun h => absurd h (by decide)) (fun c7 => ?_)
    refine lv_aload_n hx hb dX7_counted_10 rfl (lv_at hl 0 rfl) ?_
    refine lv_iload_n hx hb dX7_counted_11 rfl (lv_at hl 1 rfl) ?_
    refine lv_iconst (v := nI 1) hx hb dX7_counted_12 (by decide) ?_
    refine n_isub (n := 0) hx hb dX7_counted_13 (by omega) ?_
    refine k_V (As := [.int (nI 0)]) (rest := []) S hK (c_X7_whereMany l E o z w (nI 0) hI) gX7_counted_X7_whereMany rfl hd_X7_whereMany ⟨rfl, rfl⟩ ⟨Nat.le_of_ble_eq_true rfl, Nat.le_of_ble_eq_true rfl⟩ (k_recv hK hP.1 rfl) hP rfl hl.1 rfl (Nat.le_of_ble_eq_true rfl) dX7_counted_14 ⟨Nat.le_of_ble_eq_true rfl, Nat.le_of_ble_eq_true rfl⟩ ?_
    exact k_iret hx hb hr hlk dX7_counted_17 (rfl)
  · have hl : lv_has ls 2 [(0, .ref o), (1, .int (nI 2))] := hl
    refine lv_iload_n hx hb dX7_counted_0 rfl (lv_at hl 1 rfl) ?_
    refine lv_if_le (tgt := 18) hx hb dX7_counted_1 (by decide) (fun h => absurd h (by decide)) (fun c1 => ?_)
    refine lv_iload_n hx hb dX7_counted_4 rfl (lv_at hl 1 rfl) ?_
    refine lv_bipush (v := nI 6) hx hb dX7_counted_5 (by decide) ?_
    refine n_ige (tgt := 18) hx hb dX7_counted_7 (by decide) (by omega) (by omega) (fun h => absurd h (by decide)) (fun c7 => ?_)
    refine lv_aload_n hx hb dX7_counted_10 rfl (lv_at hl 0 rfl) ?_
    refine lv_iload_n hx hb dX7_counted_11 rfl (lv_at hl 1 rfl) ?_
    refine lv_iconst (v := nI 1) hx hb dX7_counted_12 (by decide) ?_
    refine n_isub (n := 1) hx hb dX7_counted_13 (by omega) ?_
    refine k_V (As := [.int (nI 1)]) (rest := []) S hK (c_X7_whereMany l E o z w (nI 1) hI) gX7_counted_X7_whereMany rfl hd_X7_whereMany ⟨rfl, rfl⟩ ⟨Nat.le_of_ble_eq_true rfl, Nat.le_of_ble_eq_true rfl⟩ (k_recv hK hP.1 rfl) hP rfl hl.1 rfl (Nat.le_of_ble_eq_true rfl) dX7_counted_14 ⟨Nat.le_of_ble_eq_true rfl, Nat.le_of_ble_eq_true rfl⟩ ?_
    exact k_iret hx hb hr hlk dX7_counted_17 (rfl)
  · have hl : lv_has ls 2 [(0, .ref o), (1, .int (nI 3))] := hl
    refine lv_iload_n hx hb dX7_counted_0 rfl (lv_at hl 1 rfl) ?_
    refine lv_if_le (tgt := 18) hx hb dX7_counted_1 (by decide) (fun h => absurd h (by decide)) (fun c1 => ?_)
    refine lv_iload_n hx hb dX7_counted_4 rfl (lv_at hl 1 rfl) ?_
    refine lv_bipush (v := nI 6) hx hb dX7_counted_5 (by decide) ?_
    refine n_ige (tgt := 18) hx hb dX7_counted_7 (by decide) (by omega) (by omega) (fun h => absurd h (by decide)) (fun c7 => ?_)
    refine lv_aload_n hx hb dX7_counted_10 rfl (lv_at hl 0 rfl) ?_
    refine lv_iload_n hx hb dX7_counted_11 rfl (lv_at hl 1 rfl) ?_
    refine lv_iconst (v := nI 1) hx hb dX7_counted_12 (by decide) ?_
    refine n_isub (n := 2) hx hb dX7_counted_13 (by omega) ?_
    refine k_V (As := [.int (nI 2)]) (rest := []) S hK (c_X7_whereMany l E o z w (nI 2) hI) gX7_counted_X7_whereMany rfl hd_X7_whereMany ⟨rfl, rfl⟩ ⟨Nat.le_of_ble_eq_true rfl, Nat.le_of_ble_eq_true rfl⟩ (k_recv hK hP.1 rfl) hP rfl hl.1 rfl (Nat.le_of_ble_eq_true rfl) dX7_counted_14 ⟨Nat.le_of_ble_eq_true rfl, Nat.le_of_ble_eq_true rfl⟩ ?_
    exact k_iret hx hb hr hlk dX7_counted_17 (rfl)
  · have hl : lv_has ls 2 [(0, .ref o), (1, .int (nI 4))] := hl
    refine lv_iload_n hx hb dX7_counted_0 rfl (lv_at hl 1 rfl) ?_
    refine lv_if_le (tgt := 18) hx hb dX7_counted_1 (by decide) (fun h => absurd h (by decide)) (fun c1 => ?_)
    refine lv_iload_n hx hb dX7_counted_4 rfl (lv_at hl 1 rfl) ?_
    refine lv_bipush (v := nI 6) hx hb dX7_counted_5 (by decide) ?_
    refine n_ige (tgt := 18) hx hb dX7_counted_7 (by decide) (by omega) (by omega) (fun h => absurd h (by decide)) (fun c7 => ?_)
    refine lv_aload_n hx hb dX7_counted_10 rfl (lv_at hl 0 rfl) ?_
    refine lv_iload_n hx hb dX7_counted_11 rfl (lv_at hl 1 rfl) ?_
    refine lv_iconst (v := nI 1) hx hb dX7_counted_12 (by decide) ?_
    refine n_isub (n := 3) hx hb dX7_counted_13 (by omega) ?_
    refine k_V (As := [.int (nI 3)]) (rest := []) S hK (c_X7_whereMany l E o z w (nI 3) hI) gX7_counted_X7_whereMany rfl hd_X7_whereMany ⟨rfl, rfl⟩ ⟨Nat.le_of_ble_eq_true rfl, Nat.le_of_ble_eq_true rfl⟩ (k_recv hK hP.1 rfl) hP rfl hl.1 rfl (Nat.le_of_ble_eq_true rfl) dX7_counted_14 ⟨Nat.le_of_ble_eq_true rfl, Nat.le_of_ble_eq_true rfl⟩ ?_
    exact k_iret hx hb hr hlk dX7_counted_17 (rfl)
  · have hl : lv_has ls 2 [(0, .ref o), (1, .int (nI 5))] := hl
    refine lv_iload_n hx hb dX7_counted_0 rfl (lv_at hl 1 rfl) ?_
    refine lv_if_le (tgt := 18) hx hb dX7_counted_1 (by decide) (fun h => absurd h (by decide)) (fun c1 => ?_)
    refine lv_iload_n hx hb dX7_counted_4 rfl (lv_at hl 1 rfl) ?_
    refine lv_bipush (v := nI 6) hx hb dX7_counted_5 (by decide) ?_
    refine n_ige (tgt := 18) hx hb dX7_counted_7 (by decide) (by omega) (by omega) (fun h => absurd h (by decide)) (fun c7 => ?_)
    refine lv_aload_n hx hb dX7_counted_10 rfl (lv_at hl 0 rfl) ?_
    refine lv_iload_n hx hb dX7_counted_11 rfl (lv_at hl 1 rfl) ?_
    refine lv_iconst (v := nI 1) hx hb dX7_counted_12 (by decide) ?_
    refine n_isub (n := 4) hx hb dX7_counted_13 (by omega) ?_
    refine k_V (As := [.int (nI 4)]) (rest := []) S hK (c_X7_whereMany l E o z w (nI 4) hI) gX7_counted_X7_whereMany rfl hd_X7_whereMany ⟨rfl, rfl⟩ ⟨Nat.le_of_ble_eq_true rfl, Nat.le_of_ble_eq_true rfl⟩ (k_recv hK hP.1 rfl) hP rfl hl.1 rfl (Nat.le_of_ble_eq_true rfl) dX7_counted_14 ⟨Nat.le_of_ble_eq_true rfl, Nat.le_of_ble_eq_true rfl⟩ ?_
    exact k_iret hx hb hr hlk dX7_counted_17 (rfl)
  · have hl : lv_has ls 2 [(0, .ref o), (1, .int (nI 6))] := hl
    refine lv_iload_n hx hb dX7_counted_0 rfl (lv_at hl 1 rfl) ?_
    refine lv_if_le (tgt := 18) hx hb dX7_counted_1 (by decide) (fun h => absurd h (by decide)) (fun c1 => ?_)
    refine lv_iload_n hx hb dX7_counted_4 rfl (lv_at hl 1 rfl) ?_
    refine lv_bipush (v := nI 6) hx hb dX7_counted_5 (by decide) ?_
    refine n_ige (tgt := 18) hx hb dX7_counted_7 (by decide) (by omega) (by omega) (fun c7 => ?_) (fun h => absurd h (by decide))
    refine lv_iload_n hx hb dX7_counted_18 rfl (lv_at hl 1 rfl) ?_
    refine lv_lookup (off := 40) (tgt := 59) hx hb dX7_counted_19 (by decide) (by decide) (by decide) ?_
    refine lv_aload_n hx hb dX7_counted_59 rfl (lv_at hl 0 rfl) ?_
    refine k_V (As := []) (rest := []) S hK (c_X7_heldMany l E o z w hI) gX7_counted_X7_heldMany rfl hd_X7_heldMany ⟨rfl, rfl⟩ ⟨Nat.le_of_ble_eq_true rfl, Nat.le_of_ble_eq_true rfl⟩ (k_recv hK hP.1 rfl) hP rfl hl.1 rfl (Nat.le_of_ble_eq_true rfl) dX7_counted_60 ⟨Nat.le_of_ble_eq_true rfl, Nat.le_of_ble_eq_true rfl⟩ ?_
    exact k_iret hx hb hr hlk dX7_counted_63 (rfl)
  · have hl : lv_has ls 2 [(0, .ref o), (1, .int (nI 7))] := hl
    refine lv_iload_n hx hb dX7_counted_0 rfl (lv_at hl 1 rfl) ?_
    refine lv_if_le (tgt := 18) hx hb dX7_counted_1 (by decide) (fun h => absurd h (by decide)) (fun c1 => ?_)
    refine lv_iload_n hx hb dX7_counted_4 rfl (lv_at hl 1 rfl) ?_
    refine lv_bipush (v := nI 6) hx hb dX7_counted_5 (by decide) ?_
    refine n_ige (tgt := 18) hx hb dX7_counted_7 (by decide) (by omega) (by omega) (fun c7 => ?_) (fun h => absurd h (by decide))
    refine lv_iload_n hx hb dX7_counted_18 rfl (lv_at hl 1 rfl) ?_
    refine lv_lookup (off := 50) (tgt := 69) hx hb dX7_counted_19 (by decide) (by decide) (by decide) ?_
    refine lv_aload_n hx hb dX7_counted_69 rfl (lv_at hl 0 rfl) ?_
    refine k_get S hK hP.1 rfl (fun _ h => List.mem_cons_of_mem _ (List.mem_append_right _ (h))) 0 (by decide) (List.mem_cons_of_mem _ (List.mem_append_left _ (List.mem_of_getElem? (i := 0) rfl))) rfl (v := .ref (o + 1)) rfl dX7_counted_70 ?_
    refine lv_iload_n hx hb dX7_counted_73 rfl (lv_at hl 1 rfl) ?_
    refine lv_bipush (v := nI 6) hx hb dX7_counted_74 (by decide) ?_
    refine n_isub (n := 1) hx hb dX7_counted_76 (by omega) ?_
    refine k_iald hx hb hK hP.2.1 (by omega) (by decide) (v := z 1) rfl dX7_counted_77 ?_
    exact k_iret hx hb hr hlk dX7_counted_78 (rfl)
  · have hl : lv_has ls 2 [(0, .ref o), (1, .int (nI 8))] := hl
    refine lv_iload_n hx hb dX7_counted_0 rfl (lv_at hl 1 rfl) ?_
    refine lv_if_le (tgt := 18) hx hb dX7_counted_1 (by decide) (fun h => absurd h (by decide)) (fun c1 => ?_)
    refine lv_iload_n hx hb dX7_counted_4 rfl (lv_at hl 1 rfl) ?_
    refine lv_bipush (v := nI 6) hx hb dX7_counted_5 (by decide) ?_
    refine n_ige (tgt := 18) hx hb dX7_counted_7 (by decide) (by omega) (by omega) (fun c7 => ?_) (fun h => absurd h (by decide))
    refine lv_iload_n hx hb dX7_counted_18 rfl (lv_at hl 1 rfl) ?_
    refine lv_lookup (off := 50) (tgt := 69) hx hb dX7_counted_19 (by decide) (by decide) (by decide) ?_
    refine lv_aload_n hx hb dX7_counted_69 rfl (lv_at hl 0 rfl) ?_
    refine k_get S hK hP.1 rfl (fun _ h => List.mem_cons_of_mem _ (List.mem_append_right _ (h))) 0 (by decide) (List.mem_cons_of_mem _ (List.mem_append_left _ (List.mem_of_getElem? (i := 0) rfl))) rfl (v := .ref (o + 1)) rfl dX7_counted_70 ?_
    refine lv_iload_n hx hb dX7_counted_73 rfl (lv_at hl 1 rfl) ?_
    refine lv_bipush (v := nI 6) hx hb dX7_counted_74 (by decide) ?_
    refine n_isub (n := 2) hx hb dX7_counted_76 (by omega) ?_
    refine k_iald hx hb hK hP.2.1 (by omega) (by decide) (v := z 2) rfl dX7_counted_77 ?_
    exact k_iret hx hb hr hlk dX7_counted_78 (rfl)
  · have hl : lv_has ls 2 [(0, .ref o), (1, .int (nI 9))] := hl
    refine lv_iload_n hx hb dX7_counted_0 rfl (lv_at hl 1 rfl) ?_
    refine lv_if_le (tgt := 18) hx hb dX7_counted_1 (by decide) (fun h => absurd h (by decide)) (fun c1 => ?_)
    refine lv_iload_n hx hb dX7_counted_4 rfl (lv_at hl 1 rfl) ?_
    refine lv_bipush (v := nI 6) hx hb dX7_counted_5 (by decide) ?_
    refine n_ige (tgt := 18) hx hb dX7_counted_7 (by decide) (by omega) (by omega) (fun c7 => ?_) (fun h => absurd h (by decide))
    refine lv_iload_n hx hb dX7_counted_18 rfl (lv_at hl 1 rfl) ?_
    refine lv_lookup (off := 50) (tgt := 69) hx hb dX7_counted_19 (by decide) (by decide) (by decide) ?_
    refine lv_aload_n hx hb dX7_counted_69 rfl (lv_at hl 0 rfl) ?_
    refine k_get S hK hP.1 rfl (fun _ h => List.mem_cons_of_mem _ (List.mem_append_right _ (h))) 0 (by decide) (List.mem_cons_of_mem _ (List.mem_append_left _ (List.mem_of_getElem? (i := 0) rfl))) rfl (v := .ref (o + 1)) rfl dX7_counted_70 ?_
    refine lv_iload_n hx hb dX7_counted_73 rfl (lv_at hl 1 rfl) ?_
    refine lv_bipush (v := nI 6) hx hb dX7_counted_74 (by decide) ?_
    refine n_isub (n := 3) hx hb dX7_counted_76 (by omega) ?_
    refine k_iald hx hb hK hP.2.1 (by omega) (by decide) (v := z 3) rfl dX7_counted_77 ?_
    exact k_iret hx hb hr hlk dX7_counted_78 (rfl)
  · have hl : lv_has ls 2 [(0, .ref o), (1, .int (nI 10))] := hl
    refine lv_iload_n hx hb dX7_counted_0 rfl (lv_at hl 1 rfl) ?_
    refine lv_if_le (tgt := 18) hx hb dX7_counted_1 (by decide) (fun h => absurd h (by decide)) (fun c1 => ?_)
    refine lv_iload_n hx hb dX7_counted_4 rfl (lv_at hl 1 rfl) ?_
    refine lv_bipush (v := nI 6) hx hb dX7_counted_5 (by decide) ?_
    refine n_ige (tgt := 18) hx hb dX7_counted_7 (by decide) (by omega) (by omega) (fun c7 => ?_) (fun h => absurd h (by decide))
    refine lv_iload_n hx hb dX7_counted_18 rfl (lv_at hl 1 rfl) ?_
    refine lv_lookup (off := 50) (tgt := 69) hx hb dX7_counted_19 (by decide) (by decide) (by decide) ?_
    refine lv_aload_n hx hb dX7_counted_69 rfl (lv_at hl 0 rfl) ?_
    refine k_get S hK hP.1 rfl (fun _ h => List.mem_cons_of_mem _ (List.mem_append_right _ (h))) 0 (by decide) (List.mem_cons_of_mem _ (List.mem_append_left _ (List.mem_of_getElem? (i := 0) rfl))) rfl (v := .ref (o + 1)) rfl dX7_counted_70 ?_
    refine lv_iload_n hx hb dX7_counted_73 rfl (lv_at hl 1 rfl) ?_
    refine lv_bipush (v := nI 6) hx hb dX7_counted_74 (by decide) ?_
    refine n_isub (n := 4) hx hb dX7_counted_76 (by omega) ?_
    refine k_iald hx hb hK hP.2.1 (by omega) (by decide) (v := z 4) rfl dX7_counted_77 ?_
    exact k_iret hx hb hr hlk dX7_counted_78 (rfl)
  · have hl : lv_has ls 2 [(0, .ref o), (1, .int (nI 11))] := hl
    refine lv_iload_n hx hb dX7_counted_0 rfl (lv_at hl 1 rfl) ?_
    refine lv_if_le (tgt := 18) hx hb dX7_counted_1 (by decide) (fun h => absurd h (by decide)) (fun c1 => ?_)
    refine lv_iload_n hx hb dX7_counted_4 rfl (lv_at hl 1 rfl) ?_
    refine lv_bipush (v := nI 6) hx hb dX7_counted_5 (by decide) ?_
    refine n_ige (tgt := 18) hx hb dX7_counted_7 (by decide) (by omega) (by omega) (fun c7 => ?_) (fun h => absurd h (by decide))
    refine lv_iload_n hx hb dX7_counted_18 rfl (lv_at hl 1 rfl) ?_
    refine lv_lookup (off := 50) (tgt := 69) hx hb dX7_counted_19 (by decide) (by decide) (by decide) ?_
    refine lv_aload_n hx hb dX7_counted_69 rfl (lv_at hl 0 rfl) ?_
    refine k_get S hK hP.1 rfl (fun _ h => List.mem_cons_of_mem _ (List.mem_append_right _ (h))) 0 (by decide) (List.mem_cons_of_mem _ (List.mem_append_left _ (List.mem_of_getElem? (i := 0) rfl))) rfl (v := .ref (o + 1)) rfl dX7_counted_70 ?_
    refine lv_iload_n hx hb dX7_counted_73 rfl (lv_at hl 1 rfl) ?_
    refine lv_bipush (v := nI 6) hx hb dX7_counted_74 (by decide) ?_
    refine n_isub (n := 5) hx hb dX7_counted_76 (by omega) ?_
    refine k_iald hx hb hK hP.2.1 (by omega) (by decide) (v := z 5) rfl dX7_counted_77 ?_
    exact k_iret hx hb hr hlk dX7_counted_78 (rfl)
  · have hl : lv_has ls 2 [(0, .ref o), (1, .int (nI 12))] := hl
    refine lv_iload_n hx hb dX7_counted_0 rfl (lv_at hl 1 rfl) ?_
    refine lv_if_le (tgt := 18) hx hb dX7_counted_1 (by decide) (fun h => absurd h (by decide)) (fun c1 => ?_)
    refine lv_iload_n hx hb dX7_counted_4 rfl (lv_at hl 1 rfl) ?_
    refine lv_bipush (v := nI 6) hx hb dX7_counted_5 (by decide) ?_
    refine n_ige (tgt := 18) hx hb dX7_counted_7 (by decide) (by omega) (by omega) (fun c7 => ?_) (fun h => absurd h (by decide))
    refine lv_iload_n hx hb dX7_counted_18 rfl (lv_at hl 1 rfl) ?_
    refine lv_lookup (off := 50) (tgt := 69) hx hb dX7_counted_19 (by decide) (by decide) (by decide) ?_
    refine lv_aload_n hx hb dX7_counted_69 rfl (lv_at hl 0 rfl) ?_
    refine k_get S hK hP.1 rfl (fun _ h => List.mem_cons_of_mem _ (List.mem_append_right _ (h))) 0 (by decide) (List.mem_cons_of_mem _ (List.mem_append_left _ (List.mem_of_getElem? (i := 0) rfl))) rfl (v := .ref (o + 1)) rfl dX7_counted_70 ?_
    refine lv_iload_n hx hb dX7_counted_73 rfl (lv_at hl 1 rfl) ?_
    refine lv_bipush (v := nI 6) hx hb dX7_counted_74 (by decide) ?_
    refine n_isub (n := 6) hx hb dX7_counted_76 (by omega) ?_
    refine k_iald hx hb hK hP.2.1 (by omega) (by decide) (v := z 6) rfl dX7_counted_77 ?_
    exact k_iret hx hb hr hlk dX7_counted_78 (rfl)
  · have hl : lv_has ls 2 [(0, .ref o), (1, .int (nI 13))] := hl
    refine lv_iload_n hx hb dX7_counted_0 rfl (lv_at hl 1 rfl) ?_
    refine lv_if_le (tgt := 18) hx hb dX7_counted_1 (by decide) (fun h => absurd h (by decide)) (fun c1 => ?_)
    refine lv_iload_n hx hb dX7_counted_4 rfl (lv_at hl 1 rfl) ?_
    refine lv_bipush (v := nI 6) hx hb dX7_counted_5 (by decide) ?_
    refine n_ige (tgt := 18) hx hb dX7_counted_7 (by decide) (by omega) (by omega) (fun c7 => ?_) (fun h => absurd h (by decide))
    refine lv_iload_n hx hb dX7_counted_18 rfl (lv_at hl 1 rfl) ?_
    refine lv_lookup (off := 45) (tgt := 64) hx hb dX7_counted_19 (by decide) (by decide) (by decide) ?_
    refine lv_aload_n hx hb dX7_counted_64 rfl (lv_at hl 0 rfl) ?_
    refine k_get S hK hP.1 rfl (fun _ h => List.mem_cons_of_mem _ (List.mem_append_right _ (h))) 3 (by decide) (List.mem_cons_of_mem _ (List.mem_append_left _ (List.mem_of_getElem? (i := 1) rfl))) rfl (v := .int (q_sm w)) rfl dX7_counted_65 ?_
    exact k_iret hx hb hr hlk dX7_counted_68 (rfl)
def rm_X7_unitOf : Room := { frames := 4, cells := 0, slots := 0, locals := 90 }
theorem hd_X7_unitOf : k_hd1 yX7_unitOf RX7 2 := by decide +kernel
set_option maxHeartbeats 4000000 in
set_option maxRecDepth 100000 in
theorem c_X7_unitOf (l : Launch) (E : ke_E) (o : Nat) (z : Nat → Int32) (w : md_w) (u : Nat) (k : Nat) (hI : iv z) (hu : u < cn z) (hk : k < 14) : Met l yX7_unitOf wsX7_unitOf rm_X7_unitOf (kp E [.ref o, .int (nI u), .int (nI k)] (md E o z w)) (qp (some (.int (unV z u k)))) 0 0 nof := by
  refine k_hd (cc := cX7_unitOf) (maxL := 4) (ret := (some .int)) (by decide) rfl (Nat.le_of_ble_eq_true rfl) ?_
  intro p e s m below meth c ls S hr hlk hnm hK hP hl
  have hx := S.1
  have hb := S.2.1
  have hts := S.2.2.2.2
  have hP : md E o z w s.heap := hP
  have hl : lv_has ls 4 [(0, .ref o), (1, .int (nI u)), (2, .int (nI k))] := hl
  have hcn := iv_c hI
  rcases (by omega : k = 0 ∨ k = 1 ∨ k = 2 ∨ k = 3 ∨ k = 4 ∨ k = 5 ∨ k = 6 ∨ k = 7 ∨ k = 8 ∨ k = 9 ∨ k = 10 ∨ k = 11 ∨ k = 12 ∨ k = 13) with rfl | rfl | rfl | rfl | rfl | rfl | rfl | rfl | rfl | rfl | rfl | rfl | rfl | rfl
  · have hl : lv_has ls 4 [(0, .ref o), (1, .int (nI u)), (2, .int (nI 0))] := hl
    refine lv_iload_n hx hb dX7_unitOf_0 rfl (lv_at hl 1 rfl) ?_
    refine k_S (As := [.int (nI u)]) (rest := []) S hK (c_X7_at l E u) gX7_unitOf_X7_at rfl hd_X7_at ⟨rfl, rfl⟩ ⟨Nat.le_of_ble_eq_true rfl, Nat.le_of_ble_eq_true rfl⟩ trivial rfl hl.1 rfl (Nat.le_of_ble_eq_true rfl) dX7_unitOf_1 ⟨Nat.le_of_ble_eq_true rfl, Nat.le_of_ble_eq_true rfl⟩ ?_
    refine lv_istore_n (lv' := [(3, .int (nI (13*u + 62))), (0, .ref o), (1, .int (nI u)), (2, .int (nI 0))]) hx hb dX7_unitOf_4 rfl hl (by decide) rfl (fun ls hl => ?_)
    refine lv_iload_n hx hb dX7_unitOf_5 rfl (lv_at hl 3 rfl) ?_
    refine lv_bipush (v := nI 6) hx hb dX7_unitOf_6 (by decide) ?_
    refine n_ige (tgt := 20) hx hb dX7_unitOf_8 (by decide) (by omega) (by omega) (fun h => absurd h (by decide)) (fun c8 => ?_)
    refine lv_aload_n hx hb dX7_unitOf_11 rfl (lv_at hl 1 rfl) ?_
    refine k_get S hK hP.1 rfl (fun _ h => List.mem_cons_of_mem _ (List.mem_append_right _ (h))) 0 (by decide) (List.mem_cons_of_mem _ (List.mem_append_left _ (List.mem_append_left _ (List.mem_of_getElem? (i := 0) rfl)))) rfl (v := .ref (o + 1)) rfl dX7_unitOf_12 ?_
    refine lv_iload_n hx hb dX7_unitOf_15 rfl (lv_at hl 0 rfl) ?_
    refine lv_iload_n hx hb dX7_unitOf_16 rfl (lv_at hl 3 rfl) ?_
    refine n_iadd (n := 13*u + 62) hx hb dX7_unitOf_17 (by omega) ?_
    have hq1 := iv_upl hI hu
    refine k_iald hx hb hK hP.2.1 (by omega) (by decide) (v := nI (up z u)) (iv_up hI hu) dX7_unitOf_18 ?_
    exact k_iret hx hb hr hlk dX7_unitOf_19 (rfl)
  · have hl : lv_has ls 4 [(0, .ref o), (1, .int (nI u)), (2, .int (nI 1))] := hl
    refine lv_iload_n hx hb dX7_unitOf_0 rfl (lv_at hl 1 rfl) ?_
    refine k_S (As := [.int (nI u)]) (rest := []) S hK (c_X7_at l E u) gX7_unitOf_X7_at rfl hd_X7_at ⟨rfl, rfl⟩ ⟨Nat.le_of_ble_eq_true rfl, Nat.le_of_ble_eq_true rfl⟩ trivial rfl hl.1 rfl (Nat.le_of_ble_eq_true rfl) dX7_unitOf_1 ⟨Nat.le_of_ble_eq_true rfl, Nat.le_of_ble_eq_true rfl⟩ ?_
    refine lv_istore_n (lv' := [(3, .int (nI (13*u + 62))), (0, .ref o), (1, .int (nI u)), (2, .int (nI 1))]) hx hb dX7_unitOf_4 rfl hl (by decide) rfl (fun ls hl => ?_)
    refine lv_iload_n hx hb dX7_unitOf_5 rfl (lv_at hl 3 rfl) ?_
    refine lv_bipush (v := nI 6) hx hb dX7_unitOf_6 (by decide) ?_
    refine n_ige (tgt := 20) hx hb dX7_unitOf_8 (by decide) (by omega) (by omega) (fun h => absurd h (by decide)) (fun c8 => ?_)
    refine lv_aload_n hx hb dX7_unitOf_11 rfl (lv_at hl 1 rfl) ?_
    refine k_get S hK hP.1 rfl (fun _ h => List.mem_cons_of_mem _ (List.mem_append_right _ (h))) 0 (by decide) (List.mem_cons_of_mem _ (List.mem_append_left _ (List.mem_append_left _ (List.mem_of_getElem? (i := 0) rfl)))) rfl (v := .ref (o + 1)) rfl dX7_unitOf_12 ?_
    refine lv_iload_n hx hb dX7_unitOf_15 rfl (lv_at hl 0 rfl) ?_
    refine lv_iload_n hx hb dX7_unitOf_16 rfl (lv_at hl 3 rfl) ?_
    refine n_iadd (n := 13*u + 63) hx hb dX7_unitOf_17 (by omega) ?_
    have hq1 := iv_url hI hu
    refine k_iald hx hb hK hP.2.1 (by omega) (by decide) (v := nI (ur z u)) (iv_ur hI hu) dX7_unitOf_18 ?_
    exact k_iret hx hb hr hlk dX7_unitOf_19 (rfl)
  · have hl : lv_has ls 4 [(0, .ref o), (1, .int (nI u)), (2, .int (nI 2))] := hl
    refine lv_iload_n hx hb dX7_unitOf_0 rfl (lv_at hl 1 rfl) ?_
    refine k_S (As := [.int (nI u)]) (rest := []) S hK (c_X7_at l E u) gX7_unitOf_X7_at rfl hd_X7_at ⟨rfl, rfl⟩ ⟨Nat.le_of_ble_eq_true rfl, Nat.le_of_ble_eq_true rfl⟩ trivial rfl hl.1 rfl (Nat.le_of_ble_eq_true rfl) dX7_unitOf_1 ⟨Nat.le_of_ble_eq_true rfl, Nat.le_of_ble_eq_true rfl⟩ ?_
    refine lv_istore_n (lv' := [(3, .int (nI (13*u + 62))), (0, .ref o), (1, .int (nI u)), (2, .int (nI 2))]) hx hb dX7_unitOf_4 rfl hl (by decide) rfl (fun ls hl => ?_)
    refine lv_iload_n hx hb dX7_unitOf_5 rfl (lv_at hl 3 rfl) ?_
    refine lv_bipush (v := nI 6) hx hb dX7_unitOf_6 (by decide) ?_
    refine n_ige (tgt := 20) hx hb dX7_unitOf_8 (by decide) (by omega) (by omega) (fun h => absurd h (by decide)) (fun c8 => ?_)
    refine lv_aload_n hx hb dX7_unitOf_11 rfl (lv_at hl 1 rfl) ?_
    refine k_get S hK hP.1 rfl (fun _ h => List.mem_cons_of_mem _ (List.mem_append_right _ (h))) 0 (by decide) (List.mem_cons_of_mem _ (List.mem_append_left _ (List.mem_append_left _ (List.mem_of_getElem? (i := 0) rfl)))) rfl (v := .ref (o + 1)) rfl dX7_unitOf_12 ?_
    refine lv_iload_n hx hb dX7_unitOf_15 rfl (lv_at hl 0 rfl) ?_
    refine lv_iload_n hx hb dX7_unitOf_16 rfl (lv_at hl 3 rfl) ?_
    refine n_iadd (n := 13*u + 64) hx hb dX7_unitOf_17 (by omega) ?_
    refine k_iald hx hb hK hP.2.1 (by omega) (by decide) (v := z (13*u + 64)) rfl dX7_unitOf_18 ?_
    exact k_iret hx hb hr hlk dX7_unitOf_19 (rfl)
  · have hl : lv_has ls 4 [(0, .ref o), (1, .int (nI u)), (2, .int (nI 3))] := hl
    refine lv_iload_n hx hb dX7_unitOf_0 rfl (lv_at hl 1 rfl) ?_
    refine k_S (As := [.int (nI u)]) (rest := []) S hK (c_X7_at l E u) gX7_unitOf_X7_at rfl hd_X7_at ⟨rfl, rfl⟩ ⟨Nat.le_of_ble_eq_true rfl, Nat.le_of_ble_eq_true rfl⟩ trivial rfl hl.1 rfl (Nat.le_of_ble_eq_true rfl) dX7_unitOf_1 ⟨Nat.le_of_ble_eq_true rfl, Nat.le_of_ble_eq_true rfl⟩ ?_
    refine lv_istore_n (lv' := [(3, .int (nI (13*u + 62))), (0, .ref o), (1, .int (nI u)), (2, .int (nI 3))]) hx hb dX7_unitOf_4 rfl hl (by decide) rfl (fun ls hl => ?_)
    refine lv_iload_n hx hb dX7_unitOf_5 rfl (lv_at hl 3 rfl) ?_
    refine lv_bipush (v := nI 6) hx hb dX7_unitOf_6 (by decide) ?_
    refine n_ige (tgt := 20) hx hb dX7_unitOf_8 (by decide) (by omega) (by omega) (fun h => absurd h (by decide)) (fun c8 => ?_)
    refine lv_aload_n hx hb dX7_unitOf_11 rfl (lv_at hl 1 rfl) ?_
    refine k_get S hK hP.1 rfl (fun _ h => List.mem_cons_of_mem _ (List.mem_append_right _ (h))) 0 (by decide) (List.mem_cons_of_mem _ (List.mem_append_left _ (List.mem_append_left _ (List.mem_of_getElem? (i := 0) rfl)))) rfl (v := .ref (o + 1)) rfl dX7_unitOf_12 ?_
    refine lv_iload_n hx hb dX7_unitOf_15 rfl (lv_at hl 0 rfl) ?_
    refine lv_iload_n hx hb dX7_unitOf_16 rfl (lv_at hl 3 rfl) ?_
    refine n_iadd (n := 13*u + 65) hx hb dX7_unitOf_17 (by omega) ?_
    refine k_iald hx hb hK hP.2.1 (by omega) (by decide) (v := z (13*u + 65)) rfl dX7_unitOf_18 ?_
    exact k_iret hx hb hr hlk dX7_unitOf_19 (rfl)
  · have hl : lv_has ls 4 [(0, .ref o), (1, .int (nI u)), (2, .int (nI 4))] := hl
    refine lv_iload_n hx hb dX7_unitOf_0 rfl (lv_at hl 1 rfl) ?_
    refine k_S (As := [.int (nI u)]) (rest := []) S hK (c_X7_at l E u) gX7_unitOf_X7_at rfl hd_X7_at ⟨rfl, rfl⟩ ⟨Nat.le_of_ble_eq_true rfl, Nat.le_of_ble_eq_true rfl⟩ trivial rfl hl.1 rfl (Nat.le_of_ble_eq_true rfl) dX7_unitOf_1 ⟨Nat.le_of_ble_eq_true rfl, Nat.le_of_ble_eq_true rfl⟩ ?_
    refine lv_istore_n (lv' := [(3, .int (nI (13*u + 62))), (0, .ref o), (1, .int (nI u)), (2, .int (nI 4))]) hx hb dX7_unitOf_4 rfl hl (by decide) rfl (fun ls hl => ?_)
    refine lv_iload_n hx hb dX7_unitOf_5 rfl (lv_at hl 3 rfl) ?_
    refine lv_bipush (v := nI 6) hx hb dX7_unitOf_6 (by decide) ?_
    refine n_ige (tgt := 20) hx hb dX7_unitOf_8 (by decide) (by omega) (by omega) (fun h => absurd h (by decide)) (fun c8 => ?_)
    refine lv_aload_n hx hb dX7_unitOf_11 rfl (lv_at hl 1 rfl) ?_
    refine k_get S hK hP.1 rfl (fun _ h => List.mem_cons_of_mem _ (List.mem_append_right _ (h))) 0 (by decide) (List.mem_cons_of_mem _ (List.mem_append_left _ (List.mem_append_left _ (List.mem_of_getElem? (i := 0) rfl)))) rfl (v := .ref (o + 1)) rfl dX7_unitOf_12 ?_
    refine lv_iload_n hx hb dX7_unitOf_15 rfl (lv_at hl 0 rfl) ?_
    refine lv_iload_n hx hb dX7_unitOf_16 rfl (lv_at hl 3 rfl) ?_
    refine n_iadd (n := 13*u + 66) hx hb dX7_unitOf_17 (by omega) ?_
    refine k_iald hx hb hK hP.2.1 (by omega) (by decide) (v := z (13*u + 66)) rfl dX7_unitOf_18 ?_
    exact k_iret hx hb hr hlk dX7_unitOf_19 (rfl)
  · have hl : lv_has ls 4 [(0, .ref o), (1, .int (nI u)), (2, .int (nI 5))] := hl
    refine lv_iload_n hx hb dX7_unitOf_0 rfl (lv_at hl 1 rfl) ?_
    refine k_S (As := [.int (nI u)]) (rest := []) S hK (c_X7_at l E u) gX7_unitOf_X7_at rfl hd_X7_at ⟨rfl, rfl⟩ ⟨Nat.le_of_ble_eq_true rfl, Nat.le_of_ble_eq_true rfl⟩ trivial rfl hl.1 rfl (Nat.le_of_ble_eq_true rfl) dX7_unitOf_1 ⟨Nat.le_of_ble_eq_true rfl, Nat.le_of_ble_eq_true rfl⟩ ?_
    refine lv_istore_n (lv' := [(3, .int (nI (13*u + 62))), (0, .ref o), (1, .int (nI u)), (2, .int (nI 5))]) hx hb dX7_unitOf_4 rfl hl (by decide) rfl (fun ls hl => ?_)
    refine lv_iload_n hx hb dX7_unitOf_5 rfl (lv_at hl 3 rfl) ?_
    refine lv_bipush (v := nI 6) hx hb dX7_unitOf_6 (by decide) ?_
    refine n_ige (tgt := 20) hx hb dX7_unitOf_8 (by decide) (by omega) (by omega) (fun h => absurd h (by decide)) (fun c8 => ?_)
    refine lv_aload_n hx hb dX7_unitOf_11 rfl (lv_at hl 1 rfl) ?_
    refine k_get S hK hP.1 rfl (fun _ h => List.mem_cons_of_mem _ (List.mem_append_right _ (h))) 0 (by decide) (List.mem_cons_of_mem _ (List.mem_append_left _ (List.mem_append_left _ (List.mem_of_getElem? (i := 0) rfl)))) rfl (v := .ref (o + 1)) rfl dX7_unitOf_12 ?_
    refine lv_iload_n hx hb dX7_unitOf_15 rfl (lv_at hl 0 rfl) ?_
    refine lv_iload_n hx hb dX7_unitOf_16 rfl (lv_at hl 3 rfl) ?_
    refine n_iadd (n := 13*u + 67) hx hb dX7_unitOf_17 (by omega) ?_
    refine k_iald hx hb hK hP.2.1 (by omega) (by decide) (v := z (13*u + 67)) rfl dX7_unitOf_18 ?_
    exact k_iret hx hb hr hlk dX7_unitOf_19 (rfl)
  · have hl : lv_has ls 4 [(0, .ref o), (1, .int (nI u)), (2, .int (nI 6))] := hl
    refine lv_iload_n hx hb dX7_unitOf_0 rfl (lv_at hl 1 rfl) ?_
    refine k_S (As := [.int (nI u)]) (rest := []) S hK (c_X7_at l E u) gX7_unitOf_X7_at rfl hd_X7_at ⟨rfl, rfl⟩ ⟨Nat.le_of_ble_eq_true rfl, Nat.le_of_ble_eq_true rfl⟩ trivial rfl hl.1 rfl (Nat.le_of_ble_eq_true rfl) dX7_unitOf_1 ⟨Nat.le_of_ble_eq_true rfl, Nat.le_of_ble_eq_true rfl⟩ ?_
    refine lv_istore_n (lv' := [(3, .int (nI (13*u + 62))), (0, .ref o), (1, .int (nI u)), (2, .int (nI 6))]) hx hb dX7_unitOf_4 rfl hl (by decide) rfl (fun ls hl => ?_)
    refine lv_iload_n hx hb dX7_unitOf_5 rfl (lv_at hl 3 rfl) ?_
    refine lv_bipush (v := nI 6) hx hb dX7_unitOf_6 (by decide) ?_
    refine n_ige (tgt := 20) hx hb dX7_unitOf_8 (by decide) (by omega) (by omega) (fun c8 => ?_) (fun h => absurd h (by decide))
    refine lv_iload_n hx hb dX7_unitOf_20 rfl (lv_at hl 3 rfl) ?_
    refine lv_tableIn (off := 43) (tgt := 64) hx hb dX7_unitOf_21 (by decide) (by decide) (by decide) (by decide) ?_
    refine lv_aload_n hx hb dX7_unitOf_64 rfl (lv_at hl 1 rfl) ?_
    refine lv_iload_n hx hb dX7_unitOf_65 rfl (lv_at hl 2 rfl) ?_
    refine k_V (As := [.int (nI u)]) (rest := []) S hK (c_X7_gradeTold l E o z w u hI hu) gX7_unitOf_X7_gradeTold rfl hd_X7_gradeTold ⟨rfl, rfl⟩ ⟨Nat.le_of_ble_eq_true rfl, Nat.le_of_ble_eq_true rfl⟩ (k_recv hK hP.1 rfl) hP rfl hl.1 rfl (Nat.le_of_ble_eq_true rfl) dX7_unitOf_66 ⟨Nat.le_of_ble_eq_true rfl, Nat.le_of_ble_eq_true rfl⟩ ?_
    exact k_iret hx hb hr hlk dX7_unitOf_69 (rfl)
  · have hl : lv_has ls 4 [(0, .ref o), (1, .int (nI u)), (2, .int (nI 7))] := hl
    refine lv_iload_n hx hb dX7_unitOf_0 rfl (lv_at hl 1 rfl) ?_
    refine k_S (As := [.int (nI u)]) (rest := []) S hK (c_X7_at l E u) gX7_unitOf_X7_at rfl hd_X7_at ⟨rfl, rfl⟩ ⟨Nat.le_of_ble_eq_true rfl, Nat.le_of_ble_eq_true rfl⟩ trivial rfl hl.1 rfl (Nat.le_of_ble_eq_true rfl) dX7_unitOf_1 ⟨Nat.le_of_ble_eq_true rfl, Nat.le_of_ble_eq_true rfl⟩ ?_
    refine lv_istore_n (lv' := [(3, .int (nI (13*u + 62))), (0, .ref o), (1, .int (nI u)), (2, .int (nI 7))]) hx hb dX7_unitOf_4 rfl hl (by decide) rfl (fun ls hl => ?_)
    refine lv_iload_n hx hb dX7_unitOf_5 rfl (lv_at hl 3 rfl) ?_
    refine lv_bipush (v := nI 6) hx hb dX7_unitOf_6 (by decide) ?_
    refine n_ige (tgt := 20) hx hb dX7_unitOf_8 (by decide) (by omega) (by omega) (fun c8 => ?_) (fun h => absurd h (by decide))
    refine lv_iload_n hx hb dX7_unitOf_20 rfl (lv_at hl 3 rfl) ?_
    refine lv_tableIn (off := 49) (tgt := 70) hx hb dX7_unitOf_21 (by decide) (by decide) (by decide) (by decide) ?_
    refine lv_aload_n hx hb dX7_unitOf_70 rfl (lv_at hl 1 rfl) ?_
    refine k_get S hK hP.1 rfl (fun _ h => List.mem_cons_of_mem _ (List.mem_append_right _ (h))) 0 (by decide) (List.mem_cons_of_mem _ (List.mem_append_left _ (List.mem_append_left _ (List.mem_of_getElem? (i := 0) rfl)))) rfl (v := .ref (o + 1)) rfl dX7_unitOf_71 ?_
    refine lv_iload_n hx hb dX7_unitOf_74 rfl (lv_at hl 0 rfl) ?_
    refine lv_bipush (v := nI 6) hx hb dX7_unitOf_75 (by decide) ?_
    refine n_iadd (n := 13*u + 68) hx hb dX7_unitOf_77 (by omega) ?_
    refine k_iald hx hb hK hP.2.1 (by omega) (by decide) (v := z (13*u + 68)) rfl dX7_unitOf_78 ?_
    exact k_iret hx hb hr hlk dX7_unitOf_79 (rfl)
  · have hl : lv_has ls 4 [(0, .ref o), (1, .int (nI u)), (2, .int (nI 8))] := hl
    refine lv_iload_n hx hb dX7_unitOf_0 rfl (lv_at hl 1 rfl) ?_
    refine k_S (As := [.int (nI u)]) (rest := []) S hK (c_X7_at l E u) gX7_unitOf_X7_at rfl hd_X7_at ⟨rfl, rfl⟩ ⟨Nat.le_of_ble_eq_true rfl, Nat.le_of_ble_eq_true rfl⟩ trivial rfl hl.1 rfl (Nat.le_of_ble_eq_true rfl) dX7_unitOf_1 ⟨Nat.le_of_ble_eq_true rfl, Nat.le_of_ble_eq_true rfl⟩ ?_
    refine lv_istore_n (lv' := [(3, .int (nI (13*u + 62))), (0, .ref o), (1, .int (nI u)), (2, .int (nI 8))]) hx hb dX7_unitOf_4 rfl hl (by decide) rfl (fun ls hl => ?_)
    refine lv_iload_n hx hb dX7_unitOf_5 rfl (lv_at hl 3 rfl) ?_
    refine lv_bipush (v := nI 6) hx hb dX7_unitOf_6 (by decide) ?_
    refine n_ige (tgt := 20) hx hb dX7_unitOf_8 (by decide) (by omega) (by omega) (fun c8 => ?_) (fun h => absurd h (by decide))
    refine lv_iload_n hx hb dX7_unitOf_20 rfl (lv_at hl 3 rfl) ?_
    refine lv_tableIn (off := 59) (tgt := 80) hx hb dX7_unitOf_21 (by decide) (by decide) (by decide) (by decide) ?_
    refine lv_aload_n hx hb dX7_unitOf_80 rfl (lv_at hl 1 rfl) ?_
    refine lv_iload_n hx hb dX7_unitOf_81 rfl (lv_at hl 2 rfl) ?_
    refine k_V (As := [.int (nI u)]) (rest := []) S hK (c_X7_isHeld l E o z w u hI hu) gX7_unitOf_X7_isHeld rfl hd_X7_isHeld ⟨rfl, rfl⟩ ⟨Nat.le_of_ble_eq_true rfl, Nat.le_of_ble_eq_true rfl⟩ (k_recv hK hP.1 rfl) hP rfl hl.1 rfl (Nat.le_of_ble_eq_true rfl) dX7_unitOf_82 ⟨Nat.le_of_ble_eq_true rfl, Nat.le_of_ble_eq_true rfl⟩ ?_
    refine b_eq (tgt := 92) hx hb dX7_unitOf_85 (by decide) (fun c85 => ?_) (fun c85 => ?_)
    · refine lv_iconst (v := nI 0) hx hb dX7_unitOf_92 (by decide) ?_
      exact k_iret hx hb hr hlk dX7_unitOf_93 (bI_f c85)
    · refine lv_iconst (v := nI 1) hx hb dX7_unitOf_88 (by decide) ?_
      refine lv_goto (tgt := 93) hx hb dX7_unitOf_89 (by decide) ?_
      exact k_iret hx hb hr hlk dX7_unitOf_93 (bI_t c85)
  · have hl : lv_has ls 4 [(0, .ref o), (1, .int (nI u)), (2, .int (nI 9))] := hl
    refine lv_iload_n hx hb dX7_unitOf_0 rfl (lv_at hl 1 rfl) ?_
    refine k_S (As := [.int (nI u)]) (rest := []) S hK (c_X7_at l E u) gX7_unitOf_X7_at rfl hd_X7_at ⟨rfl, rfl⟩ ⟨Nat.le_of_ble_eq_true rfl, Nat.le_of_ble_eq_true rfl⟩ trivial rfl hl.1 rfl (Nat.le_of_ble_eq_true rfl) dX7_unitOf_1 ⟨Nat.le_of_ble_eq_true rfl, Nat.le_of_ble_eq_true rfl⟩ ?_
    refine lv_istore_n (lv' := [(3, .int (nI (13*u + 62))), (0, .ref o), (1, .int (nI u)), (2, .int (nI 9))]) hx hb dX7_unitOf_4 rfl hl (by decide) rfl (fun ls hl => ?_)
    refine lv_iload_n hx hb dX7_unitOf_5 rfl (lv_at hl 3 rfl) ?_
    refine lv_bipush (v := nI 6) hx hb dX7_unitOf_6 (by decide) ?_
    refine n_ige (tgt := 20) hx hb dX7_unitOf_8 (by decide) (by omega) (by omega) (fun c8 => ?_) (fun h => absurd h (by decide))
    refine lv_iload_n hx hb dX7_unitOf_20 rfl (lv_at hl 3 rfl) ?_
    refine lv_tableIn (off := 73) (tgt := 94) hx hb dX7_unitOf_21 (by decide) (by decide) (by decide) (by decide) ?_
    refine lv_aload_n hx hb dX7_unitOf_94 rfl (lv_at hl 1 rfl) ?_
    refine k_get S hK hP.1 rfl (fun _ h => List.mem_cons_of_mem _ (List.mem_append_right _ (h))) 0 (by decide) (List.mem_cons_of_mem _ (List.mem_append_left _ (List.mem_append_left _ (List.mem_of_getElem? (i := 0) rfl)))) rfl (v := .ref (o + 1)) rfl dX7_unitOf_95 ?_
    refine lv_iload_n hx hb dX7_unitOf_98 rfl (lv_at hl 0 rfl) ?_
    refine lv_bipush (v := nI 7) hx hb dX7_unitOf_99 (by decide) ?_
    refine n_iadd (n := 13*u + 69) hx hb dX7_unitOf_101 (by omega) ?_
    refine k_iald hx hb hK hP.2.1 (by omega) (by decide) (v := z (13*u + 69)) rfl dX7_unitOf_102 ?_
    exact k_iret hx hb hr hlk dX7_unitOf_103 (rfl)
  · have hl : lv_has ls 4 [(0, .ref o), (1, .int (nI u)), (2, .int (nI 10))] := hl
    refine lv_iload_n hx hb dX7_unitOf_0 rfl (lv_at hl 1 rfl) ?_
    refine k_S (As := [.int (nI u)]) (rest := []) S hK (c_X7_at l E u) gX7_unitOf_X7_at rfl hd_X7_at ⟨rfl, rfl⟩ ⟨Nat.le_of_ble_eq_true rfl, Nat.le_of_ble_eq_true rfl⟩ trivial rfl hl.1 rfl (Nat.le_of_ble_eq_true rfl) dX7_unitOf_1 ⟨Nat.le_of_ble_eq_true rfl, Nat.le_of_ble_eq_true rfl⟩ ?_
    refine lv_istore_n (lv' := [(3, .int (nI (13*u + 62))), (0, .ref o), (1, .int (nI u)), (2, .int (nI 10))]) hx hb dX7_unitOf_4 rfl hl (by decide) rfl (fun ls hl => ?_)
    refine lv_iload_n hx hb dX7_unitOf_5 rfl (lv_at hl 3 rfl) ?_
    refine lv_bipush (v := nI 6) hx hb dX7_unitOf_6 (by decide) ?_
    refine n_ige (tgt := 20) hx hb dX7_unitOf_8 (by decide) (by omega) (by omega) (fun c8 => ?_) (fun h => absurd h (by decide))
    refine lv_iload_n hx hb dX7_unitOf_20 rfl (lv_at hl 3 rfl) ?_
    refine lv_tableIn (off := 83) (tgt := 104) hx hb dX7_unitOf_21 (by decide) (by decide) (by decide) (by decide) ?_
    refine lv_aload_n hx hb dX7_unitOf_104 rfl (lv_at hl 1 rfl) ?_
    refine k_get S hK hP.1 rfl (fun _ h => List.mem_cons_of_mem _ (List.mem_append_right _ (h))) 0 (by decide) (List.mem_cons_of_mem _ (List.mem_append_left _ (List.mem_append_left _ (List.mem_of_getElem? (i := 0) rfl)))) rfl (v := .ref (o + 1)) rfl dX7_unitOf_105 ?_
    refine lv_iload_n hx hb dX7_unitOf_108 rfl (lv_at hl 0 rfl) ?_
    refine lv_bipush (v := nI 8) hx hb dX7_unitOf_109 (by decide) ?_
    refine n_iadd (n := 13*u + 70) hx hb dX7_unitOf_111 (by omega) ?_
    refine k_iald hx hb hK hP.2.1 (by omega) (by decide) (v := z (13*u + 70)) rfl dX7_unitOf_112 ?_
    exact k_iret hx hb hr hlk dX7_unitOf_113 (rfl)
  · have hl : lv_has ls 4 [(0, .ref o), (1, .int (nI u)), (2, .int (nI 11))] := hl
    refine lv_iload_n hx hb dX7_unitOf_0 rfl (lv_at hl 1 rfl) ?_
    refine k_S (As := [.int (nI u)]) (rest := []) S hK (c_X7_at l E u) gX7_unitOf_X7_at rfl hd_X7_at ⟨rfl, rfl⟩ ⟨Nat.le_of_ble_eq_true rfl, Nat.le_of_ble_eq_true rfl⟩ trivial rfl hl.1 rfl (Nat.le_of_ble_eq_true rfl) dX7_unitOf_1 ⟨Nat.le_of_ble_eq_true rfl, Nat.le_of_ble_eq_true rfl⟩ ?_
    refine lv_istore_n (lv' := [(3, .int (nI (13*u + 62))), (0, .ref o), (1, .int (nI u)), (2, .int (nI 11))]) hx hb dX7_unitOf_4 rfl hl (by decide) rfl (fun ls hl => ?_)
    refine lv_iload_n hx hb dX7_unitOf_5 rfl (lv_at hl 3 rfl) ?_
    refine lv_bipush (v := nI 6) hx hb dX7_unitOf_6 (by decide) ?_
    refine n_ige (tgt := 20) hx hb dX7_unitOf_8 (by decide) (by omega) (by omega) (fun c8 => ?_) (fun h => absurd h (by decide))
    refine lv_iload_n hx hb dX7_unitOf_20 rfl (lv_at hl 3 rfl) ?_
    refine lv_tableIn (off := 93) (tgt := 114) hx hb dX7_unitOf_21 (by decide) (by decide) (by decide) (by decide) ?_
    refine lv_aload_n hx hb dX7_unitOf_114 rfl (lv_at hl 1 rfl) ?_
    refine k_get S hK hP.1 rfl (fun _ h => List.mem_cons_of_mem _ (List.mem_append_right _ (h))) 0 (by decide) (List.mem_cons_of_mem _ (List.mem_append_left _ (List.mem_append_left _ (List.mem_of_getElem? (i := 0) rfl)))) rfl (v := .ref (o + 1)) rfl dX7_unitOf_115 ?_
    refine lv_iload_n hx hb dX7_unitOf_118 rfl (lv_at hl 0 rfl) ?_
    refine lv_bipush (v := nI 10) hx hb dX7_unitOf_119 (by decide) ?_
    refine n_iadd (n := 13*u + 72) hx hb dX7_unitOf_121 (by omega) ?_
    refine k_iald hx hb hK hP.2.1 (by omega) (by decide) (v := z (13*u + 72)) rfl dX7_unitOf_122 ?_
    exact k_iret hx hb hr hlk dX7_unitOf_123 (rfl)
  · have hl : lv_has ls 4 [(0, .ref o), (1, .int (nI u)), (2, .int (nI 12))] := hl
    refine lv_iload_n hx hb dX7_unitOf_0 rfl (lv_at hl 1 rfl) ?_
    refine k_S (As := [.int (nI u)]) (rest := []) S hK (c_X7_at l E u) gX7_unitOf_X7_at rfl hd_X7_at ⟨rfl, rfl⟩ ⟨Nat.le_of_ble_eq_true rfl, Nat.le_of_ble_eq_true rfl⟩ trivial rfl hl.1 rfl (Nat.le_of_ble_eq_true rfl) dX7_unitOf_1 ⟨Nat.le_of_ble_eq_true rfl, Nat.le_of_ble_eq_true rfl⟩ ?_
    refine lv_istore_n (lv' := [(3, .int (nI (13*u + 62))), (0, .ref o), (1, .int (nI u)), (2, .int (nI 12))]) hx hb dX7_unitOf_4 rfl hl (by decide) rfl (fun ls hl => ?_)
    refine lv_iload_n hx hb dX7_unitOf_5 rfl (lv_at hl 3 rfl) ?_
    refine lv_bipush (v := nI 6) hx hb dX7_unitOf_6 (by decide) ?_
    refine n_ige (tgt := 20) hx hb dX7_unitOf_8 (by decide) (by omega) (by omega) (fun c8 => ?_) (fun h => absurd h (by decide))
    refine lv_iload_n hx hb dX7_unitOf_20 rfl (lv_at hl 3 rfl) ?_
    refine lv_tableIn (off := 103) (tgt := 124) hx hb dX7_unitOf_21 (by decide) (by decide) (by decide) (by decide) ?_
    refine lv_aload_n hx hb dX7_unitOf_124 rfl (lv_at hl 1 rfl) ?_
    refine k_get S hK hP.1 rfl (fun _ h => List.mem_cons_of_mem _ (List.mem_append_right _ (h))) 0 (by decide) (List.mem_cons_of_mem _ (List.mem_append_left _ (List.mem_append_left _ (List.mem_of_getElem? (i := 0) rfl)))) rfl (v := .ref (o + 1)) rfl dX7_unitOf_125 ?_
    refine lv_iload_n hx hb dX7_unitOf_128 rfl (lv_at hl 0 rfl) ?_
    refine lv_bipush (v := nI 11) hx hb dX7_unitOf_129 (by decide) ?_
    refine n_iadd (n := 13*u + 73) hx hb dX7_unitOf_131 (by omega) ?_
    refine k_iald hx hb hK hP.2.1 (by omega) (by decide) (v := z (13*u + 73)) rfl dX7_unitOf_132 ?_
    exact k_iret hx hb hr hlk dX7_unitOf_133 (rfl)
  · have hl : lv_has ls 4 [(0, .ref o), (1, .int (nI u)), (2, .int (nI 13))] := hl
    refine lv_iload_n hx hb dX7_unitOf_0 rfl (lv_at hl 1 rfl) ?_
    refine k_S (As := [.int (nI u)]) (rest := []) S hK (c_X7_at l E u) gX7_unitOf_X7_at rfl hd_X7_at ⟨rfl, rfl⟩ ⟨Nat.le_of_ble_eq_true rfl, Nat.le_of_ble_eq_true rfl⟩ trivial rfl hl.1 rfl (Nat.le_of_ble_eq_true rfl) dX7_unitOf_1 ⟨Nat.le_of_ble_eq_true rfl, Nat.le_of_ble_eq_true rfl⟩ ?_
    refine lv_istore_n (lv' := [(3, .int (nI (13*u + 62))), (0, .ref o), (1, .int (nI u)), (2, .int (nI 13))]) hx hb dX7_unitOf_4 rfl hl (by decide) rfl (fun ls hl => ?_)
    refine lv_iload_n hx hb dX7_unitOf_5 rfl (lv_at hl 3 rfl) ?_
    refine lv_bipush (v := nI 6) hx hb dX7_unitOf_6 (by decide) ?_
    refine n_ige (tgt := 20) hx hb dX7_unitOf_8 (by decide) (by omega) (by omega) (fun c8 => ?_) (fun h => absurd h (by decide))
    refine lv_iload_n hx hb dX7_unitOf_20 rfl (lv_at hl 3 rfl) ?_
    refine lv_tableOut (tgt := 134) hx hb dX7_unitOf_21 (by decide) (by decide) ?_
    refine lv_aload_n hx hb dX7_unitOf_134 rfl (lv_at hl 1 rfl) ?_
    refine k_get S hK hP.1 rfl (fun _ h => List.mem_cons_of_mem _ (List.mem_append_right _ (h))) 0 (by decide) (List.mem_cons_of_mem _ (List.mem_append_left _ (List.mem_append_left _ (List.mem_of_getElem? (i := 0) rfl)))) rfl (v := .ref (o + 1)) rfl dX7_unitOf_135 ?_
    refine lv_iload_n hx hb dX7_unitOf_138 rfl (lv_at hl 0 rfl) ?_
    refine lv_bipush (v := nI 12) hx hb dX7_unitOf_139 (by decide) ?_
    refine n_iadd (n := 13*u + 74) hx hb dX7_unitOf_141 (by omega) ?_
    refine k_iald hx hb hK hP.2.1 (by omega) (by decide) (v := z (13*u + 74)) rfl dX7_unitOf_142 ?_
    exact k_iret hx hb hr hlk dX7_unitOf_143 (rfl)
def rm_X7_goodsOf : Room := { frames := 2, cells := 0, slots := 0, locals := 46 }
theorem hd_X7_goodsOf : k_hd1 yX7_goodsOf RX7 2 := by decide +kernel
set_option maxHeartbeats 4000000 in
set_option maxRecDepth 100000 in
theorem c_X7_goodsOf (l : Launch) (E : ke_E) (o : Nat) (z : Nat → Int32) (w : md_w) (q : Nat) (k : Nat) (hI : iv z) (hq6 : q < 6) (hk : k < 6) : Met l yX7_goodsOf wsX7_goodsOf rm_X7_goodsOf (kp E [.ref o, .int (nI q), .int (nI k)] (md E o z w)) (qp (some (.int (gdV z q k)))) 0 0 nof := by
  refine k_hd (cc := cX7_goodsOf) (maxL := 3) (ret := (some .int)) (by decide) rfl (Nat.le_of_ble_eq_true rfl) ?_
  intro p e s m below meth c ls S hr hlk hnm hK hP hl
  have hx := S.1
  have hb := S.2.1
  have hts := S.2.2.2.2
  have hP : md E o z w s.heap := hP
  have hl : lv_has ls 3 [(0, .ref o), (1, .int (nI q)), (2, .int (nI k))] := hl
  have hcn := iv_c hI
  rcases (by omega : k = 0 ∨ k = 1 ∨ k = 2 ∨ k = 3 ∨ k = 4 ∨ k = 5) with rfl | rfl | rfl | rfl | rfl | rfl
  · have hl : lv_has ls 3 [(0, .ref o), (1, .int (nI q)), (2, .int (nI 0))] := hl
    refine lv_iload_n hx hb dX7_goodsOf_0 rfl (lv_at hl 2 rfl) ?_
    refine lv_iconst (v := nI 3) hx hb dX7_goodsOf_1 (by decide) ?_
    refine n_ige (tgt := 21) hx hb dX7_goodsOf_2 (by decide) (by omega) (by omega) (fun h => absurd h (by decide)) (fun c2 => ?_)
    refine lv_aload_n hx hb dX7_goodsOf_5 rfl (lv_at hl 0 rfl) ?_
    refine k_get S hK hP.1 rfl (fun _ h => List.mem_cons_of_mem _ (List.mem_append_right _ (h))) 0 (by decide) (List.mem_cons_of_mem _ (List.mem_append_left _ (List.mem_of_getElem? (i := 0) rfl))) rfl (v := .ref (o + 1)) rfl dX7_goodsOf_6 ?_
    refine lv_bipush (v := nI 12) hx hb dX7_goodsOf_9 (by decide) ?_
    refine lv_iconst (v := nI 3) hx hb dX7_goodsOf_11 (by decide) ?_
    refine lv_iload_n hx hb dX7_goodsOf_12 rfl (lv_at hl 1 rfl) ?_
    refine n_imul (n := 3*q) hx hb dX7_goodsOf_13 (by omega) ?_
    refine n_iadd (n := 3*q + 12) hx hb dX7_goodsOf_14 (by omega) ?_
    refine lv_iload_n hx hb dX7_goodsOf_15 rfl (lv_at hl 2 rfl) ?_
    refine n_iadd (n := 3*q + 12) hx hb dX7_goodsOf_16 (by omega) ?_
    refine k_iald hx hb hK hP.2.1 (by omega) (by decide) (v := z (3*q + 12)) rfl dX7_goodsOf_17 ?_
    refine lv_goto (tgt := 27) hx hb dX7_goodsOf_18 (by decide) ?_
    exact k_iret hx hb hr hlk dX7_goodsOf_27 (rfl)
  · have hl : lv_has ls 3 [(0, .ref o), (1, .int (nI q)), (2, .int (nI 1))] := hl
    refine lv_iload_n hx hb dX7_goodsOf_0 rfl (lv_at hl 2 rfl) ?_
    refine lv_iconst (v := nI 3) hx hb dX7_goodsOf_1 (by decide) ?_
    refine n_ige (tgt := 21) hx hb dX7_goodsOf_2 (by decide) (by omega) (by omega) (fun h => absurd h (by decide)) (fun c2 => ?_)
    refine lv_aload_n hx hb dX7_goodsOf_5 rfl (lv_at hl 0 rfl) ?_
    refine k_get S hK hP.1 rfl (fun _ h => List.mem_cons_of_mem _ (List.mem_append_right _ (h))) 0 (by decide) (List.mem_cons_of_mem _ (List.mem_append_left _ (List.mem_of_getElem? (i := 0) rfl))) rfl (v := .ref (o + 1)) rfl dX7_goodsOf_6 ?_
    refine lv_bipush (v := nI 12) hx hb dX7_goodsOf_9 (by decide) ?_
    refine lv_iconst (v := nI 3) hx hb dX7_goodsOf_11 (by decide) ?_
    refine lv_iload_n hx hb dX7_goodsOf_12 rfl (lv_at hl 1 rfl) ?_
    refine n_imul (n := 3*q) hx hb dX7_goodsOf_13 (by omega) ?_
    refine n_iadd (n := 3*q + 12) hx hb dX7_goodsOf_14 (by omega) ?_
    refine lv_iload_n hx hb dX7_goodsOf_15 rfl (lv_at hl 2 rfl) ?_
    refine n_iadd (n := 3*q + 13) hx hb dX7_goodsOf_16 (by omega) ?_
    have hq1 := iv_pvl hI hq6
    refine k_iald hx hb hK hP.2.1 (by omega) (by decide) (v := nI (pv z q)) (iv_pv hI hq6) dX7_goodsOf_17 ?_
    refine lv_goto (tgt := 27) hx hb dX7_goodsOf_18 (by decide) ?_
    exact k_iret hx hb hr hlk dX7_goodsOf_27 (rfl)
  · have hl : lv_has ls 3 [(0, .ref o), (1, .int (nI q)), (2, .int (nI 2))] := hl
    refine lv_iload_n hx hb dX7_goodsOf_0 rfl (lv_at hl 2 rfl) ?_
    refine lv_iconst (v := nI 3) hx hb dX7_goodsOf_1 (by decide) ?_
    refine n_ige (tgt := 21) hx hb dX7_goodsOf_2 (by decide) (by omega) (by omega) (fun h => absurd h (by decide)) (fun c2 => ?_)
    refine lv_aload_n hx hb dX7_goodsOf_5 rfl (lv_at hl 0 rfl) ?_
    refine k_get S hK hP.1 rfl (fun _ h => List.mem_cons_of_mem _ (List.mem_append_right _ (h))) 0 (by decide) (List.mem_cons_of_mem _ (List.mem_append_left _ (List.mem_of_getElem? (i := 0) rfl))) rfl (v := .ref (o + 1)) rfl dX7_goodsOf_6 ?_
    refine lv_bipush (v := nI 12) hx hb dX7_goodsOf_9 (by decide) ?_
    refine lv_iconst (v := nI 3) hx hb dX7_goodsOf_11 (by decide) ?_
    refine lv_iload_n hx hb dX7_goodsOf_12 rfl (lv_at hl 1 rfl) ?_
    refine n_imul (n := 3*q) hx hb dX7_goodsOf_13 (by omega) ?_
    refine n_iadd (n := 3*q + 12) hx hb dX7_goodsOf_14 (by omega) ?_
    refine lv_iload_n hx hb dX7_goodsOf_15 rfl (lv_at hl 2 rfl) ?_
    refine n_iadd (n := 3*q + 14) hx hb dX7_goodsOf_16 (by omega) ?_
    refine k_iald hx hb hK hP.2.1 (by omega) (by decide) (v := z (3*q + 14)) rfl dX7_goodsOf_17 ?_
    refine lv_goto (tgt := 27) hx hb dX7_goodsOf_18 (by decide) ?_
    exact k_iret hx hb hr hlk dX7_goodsOf_27 (rfl)
  · have hl : lv_has ls 3 [(0, .ref o), (1, .int (nI q)), (2, .int (nI 3))] := hl
    refine lv_iload_n hx hb dX7_goodsOf_0 rfl (lv_at hl 2 rfl) ?_
    refine lv_iconst (v := nI 3) hx hb dX7_goodsOf_1 (by decide) ?_
    refine n_ige (tgt := 21) hx hb dX7_goodsOf_2 (by decide) (by omega) (by omega) (fun c2 => ?_) (fun h => absurd h (by decide))
    refine lv_aload_n hx hb dX7_goodsOf_21 rfl (lv_at hl 0 rfl) ?_
    refine lv_iload_n hx hb dX7_goodsOf_22 rfl (lv_at hl 1 rfl) ?_
    refine lv_iload_n hx hb dX7_goodsOf_23 rfl (lv_at hl 2 rfl) ?_
    refine k_V (As := [.int (nI q), .int (nI 3)]) (rest := []) S hK (c_X7_ofProduct_3 l E o z w q hI hq6) gX7_goodsOf_X7_ofProduct rfl hd_X7_ofProduct ⟨rfl, rfl⟩ ⟨Nat.le_of_ble_eq_true rfl, Nat.le_of_ble_eq_true rfl⟩ (k_recv hK hP.1 rfl) hP rfl hl.1 rfl (Nat.le_of_ble_eq_true rfl) dX7_goodsOf_24 ⟨Nat.le_of_ble_eq_true rfl, Nat.le_of_ble_eq_true rfl⟩ ?_
    exact k_iret hx hb hr hlk dX7_goodsOf_27 (rfl)
  · have hl : lv_has ls 3 [(0, .ref o), (1, .int (nI q)), (2, .int (nI 4))] := hl
    refine lv_iload_n hx hb dX7_goodsOf_0 rfl (lv_at hl 2 rfl) ?_
    refine lv_iconst (v := nI 3) hx hb dX7_goodsOf_1 (by decide) ?_
    refine n_ige (tgt := 21) hx hb dX7_goodsOf_2 (by decide) (by omega) (by omega) (fun c2 => ?_) (fun h => absurd h (by decide))
    refine lv_aload_n hx hb dX7_goodsOf_21 rfl (lv_at hl 0 rfl) ?_
    refine lv_iload_n hx hb dX7_goodsOf_22 rfl (lv_at hl 1 rfl) ?_
    refine lv_iload_n hx hb dX7_goodsOf_23 rfl (lv_at hl 2 rfl) ?_
    refine k_V (As := [.int (nI q), .int (nI 4)]) (rest := []) S hK (c_X7_ofProduct_4 l E o z w q hI hq6) gX7_goodsOf_X7_ofProduct rfl hd_X7_ofProduct ⟨rfl, rfl⟩ ⟨Nat.le_of_ble_eq_true rfl, Nat.le_of_ble_eq_true rfl⟩ (k_recv hK hP.1 rfl) hP rfl hl.1 rfl (Nat.le_of_ble_eq_true rfl) dX7_goodsOf_24 ⟨Nat.le_of_ble_eq_true rfl, Nat.le_of_ble_eq_true rfl⟩ ?_
    exact k_iret hx hb hr hlk dX7_goodsOf_27 (rfl)
  · have hl : lv_has ls 3 [(0, .ref o), (1, .int (nI q)), (2, .int (nI 5))] := hl
    refine lv_iload_n hx hb dX7_goodsOf_0 rfl (lv_at hl 2 rfl) ?_
    refine lv_iconst (v := nI 3) hx hb dX7_goodsOf_1 (by decide) ?_
    refine n_ige (tgt := 21) hx hb dX7_goodsOf_2 (by decide) (by omega) (by omega) (fun c2 => ?_) (fun h => absurd h (by decide))
    refine lv_aload_n hx hb dX7_goodsOf_21 rfl (lv_at hl 0 rfl) ?_
    refine lv_iload_n hx hb dX7_goodsOf_22 rfl (lv_at hl 1 rfl) ?_
    refine lv_iload_n hx hb dX7_goodsOf_23 rfl (lv_at hl 2 rfl) ?_
    refine k_V (As := [.int (nI q), .int (nI 5)]) (rest := []) S hK (c_X7_ofProduct_5 l E o z w q hI hq6) gX7_goodsOf_X7_ofProduct rfl hd_X7_ofProduct ⟨rfl, rfl⟩ ⟨Nat.le_of_ble_eq_true rfl, Nat.le_of_ble_eq_true rfl⟩ (k_recv hK hP.1 rfl) hP rfl hl.1 rfl (Nat.le_of_ble_eq_true rfl) dX7_goodsOf_24 ⟨Nat.le_of_ble_eq_true rfl, Nat.le_of_ble_eq_true rfl⟩ ?_
    exact k_iret hx hb hr hlk dX7_goodsOf_27 (rfl)
def rm_X7_vendorOf : Room := { frames := 3, cells := 0, slots := 0, locals := 66 }
theorem hd_X7_vendorOf : k_hd1 yX7_vendorOf RX7 2 := by decide +kernel
set_option maxHeartbeats 4000000 in
set_option maxRecDepth 100000 in
theorem c_X7_vendorOf (l : Launch) (E : ke_E) (o : Nat) (z : Nat → Int32) (w : md_w) (v : Nat) (k : Nat) (hI : iv z) (hv4 : v < 4) (hk : k < 10) : Met l yX7_vendorOf wsX7_vendorOf rm_X7_vendorOf (kp E [.ref o, .int (nI v), .int (nI k)] (md E o z w)) (qp (some (.int (veV z v k)))) 0 0 nof := by
  refine k_hd (cc := cX7_vendorOf) (maxL := 3) (ret := (some .int)) (by decide) rfl (Nat.le_of_ble_eq_true rfl) ?_
  intro p e s m below meth c ls S hr hlk hnm hK hP hl
  have hx := S.1
  have hb := S.2.1
  have hts := S.2.2.2.2
  have hP : md E o z w s.heap := hP
  have hl : lv_has ls 3 [(0, .ref o), (1, .int (nI v)), (2, .int (nI k))] := hl
  have hcn := iv_c hI
  rcases (by omega : k = 0 ∨ k = 1 ∨ k = 2 ∨ k = 3 ∨ k = 4 ∨ k = 5 ∨ k = 6 ∨ k = 7 ∨ k = 8 ∨ k = 9) with rfl | rfl | rfl | rfl | rfl | rfl | rfl | rfl | rfl | rfl
  · have hl : lv_has ls 3 [(0, .ref o), (1, .int (nI v)), (2, .int (nI 0))] := hl
    refine lv_iload_n hx hb dX7_vendorOf_0 rfl (lv_at hl 2 rfl) ?_
    refine lv_iconst (v := nI 4) hx hb dX7_vendorOf_1 (by decide) ?_
    refine n_ige (tgt := 17) hx hb dX7_vendorOf_2 (by decide) (by omega) (by omega) (fun h => absurd h (by decide)) (fun c2 => ?_)
    refine lv_aload_n hx hb dX7_vendorOf_5 rfl (lv_at hl 0 rfl) ?_
    refine k_get S hK hP.1 rfl (fun _ h => List.mem_cons_of_mem _ (List.mem_append_right _ (h))) 0 (by decide) (List.mem_cons_of_mem _ (List.mem_append_left _ (List.mem_of_getElem? (i := 0) rfl))) rfl (v := .ref (o + 1)) rfl dX7_vendorOf_6 ?_
    refine lv_iload_n hx hb dX7_vendorOf_9 rfl (lv_at hl 1 rfl) ?_
    refine k_S (As := [.int (nI v)]) (rest := [.ref (o + 1)]) S hK (c_X7_seller l E v) gX7_vendorOf_X7_seller rfl hd_X7_seller ⟨rfl, rfl⟩ ⟨Nat.le_of_ble_eq_true rfl, Nat.le_of_ble_eq_true rfl⟩ trivial rfl hl.1 rfl (Nat.le_of_ble_eq_true rfl) dX7_vendorOf_10 ⟨Nat.le_of_ble_eq_true rfl, Nat.le_of_ble_eq_true rfl⟩ ?_
    refine lv_iload_n hx hb dX7_vendorOf_13 rfl (lv_at hl 2 rfl) ?_
    refine n_iadd (n := 8*v + 30) hx hb dX7_vendorOf_14 (by omega) ?_
    refine k_iald hx hb hK hP.2.1 (by omega) (by decide) (v := z (8*v + 30)) rfl dX7_vendorOf_15 ?_
    exact k_iret hx hb hr hlk dX7_vendorOf_16 (rfl)
  · have hl : lv_has ls 3 [(0, .ref o), (1, .int (nI v)), (2, .int (nI 1))] := hl
    refine lv_iload_n hx hb dX7_vendorOf_0 rfl (lv_at hl 2 rfl) ?_
    refine lv_iconst (v := nI 4) hx hb dX7_vendorOf_1 (by decide) ?_
    refine n_ige (tgt := 17) hx hb dX7_vendorOf_2 (by decide) (by omega) (by omega) (fun h => absurd h (by decide)) (fun c2 => ?_)
    refine lv_aload_n hx hb dX7_vendorOf_5 rfl (lv_at hl 0 rfl) ?_
    refine k_get S hK hP.1 rfl (fun _ h => List.mem_cons_of_mem _ (List.mem_append_right _ (h))) 0 (by decide) (List.mem_cons_of_mem _ (List.mem_append_left _ (List.mem_of_getElem? (i := 0) rfl))) rfl (v := .ref (o + 1)) rfl dX7_vendorOf_6 ?_
    refine lv_iload_n hx hb dX7_vendorOf_9 rfl (lv_at hl 1 rfl) ?_
    refine k_S (As := [.int (nI v)]) (rest := [.ref (o + 1)]) S hK (c_X7_seller l E v) gX7_vendorOf_X7_seller rfl hd_X7_seller ⟨rfl, rfl⟩ ⟨Nat.le_of_ble_eq_true rfl, Nat.le_of_ble_eq_true rfl⟩ trivial rfl hl.1 rfl (Nat.le_of_ble_eq_true rfl) dX7_vendorOf_10 ⟨Nat.le_of_ble_eq_true rfl, Nat.le_of_ble_eq_true rfl⟩ ?_
    refine lv_iload_n hx hb dX7_vendorOf_13 rfl (lv_at hl 2 rfl) ?_
    refine n_iadd (n := 8*v + 31) hx hb dX7_vendorOf_14 (by omega) ?_
    refine k_iald hx hb hK hP.2.1 (by omega) (by decide) (v := z (8*v + 31)) rfl dX7_vendorOf_15 ?_
    exact k_iret hx hb hr hlk dX7_vendorOf_16 (rfl)
  · have hl : lv_has ls 3 [(0, .ref o), (1, .int (nI v)), (2, .int (nI 2))] := hl
    refine lv_iload_n hx hb dX7_vendorOf_0 rfl (lv_at hl 2 rfl) ?_
    refine lv_iconst (v := nI 4) hx hb dX7_vendorOf_1 (by decide) ?_
    refine n_ige (tgt := 17) hx hb dX7_vendorOf_2 (by decide) (by omega) (by omega) (fun h => absurd h (by decide)) (fun c2 => ?_)
    refine lv_aload_n hx hb dX7_vendorOf_5 rfl (lv_at hl 0 rfl) ?_
    refine k_get S hK hP.1 rfl (fun _ h => List.mem_cons_of_mem _ (List.mem_append_right _ (h))) 0 (by decide) (List.mem_cons_of_mem _ (List.mem_append_left _ (List.mem_of_getElem? (i := 0) rfl))) rfl (v := .ref (o + 1)) rfl dX7_vendorOf_6 ?_
    refine lv_iload_n hx hb dX7_vendorOf_9 rfl (lv_at hl 1 rfl) ?_
    refine k_S (As := [.int (nI v)]) (rest := [.ref (o + 1)]) S hK (c_X7_seller l E v) gX7_vendorOf_X7_seller rfl hd_X7_seller ⟨rfl, rfl⟩ ⟨Nat.le_of_ble_eq_true rfl, Nat.le_of_ble_eq_true rfl⟩ trivial rfl hl.1 rfl (Nat.le_of_ble_eq_true rfl) dX7_vendorOf_10 ⟨Nat.le_of_ble_eq_true rfl, Nat.le_of_ble_eq_true rfl⟩ ?_
    refine lv_iload_n hx hb dX7_vendorOf_13 rfl (lv_at hl 2 rfl) ?_
    refine n_iadd (n := 8*v + 32) hx hb dX7_vendorOf_14 (by omega) ?_
    refine k_iald hx hb hK hP.2.1 (by omega) (by decide) (v := z (8*v + 32)) rfl dX7_vendorOf_15 ?_
    exact k_iret hx hb hr hlk dX7_vendorOf_16 (rfl)
  · have hl : lv_has ls 3 [(0, .ref o), (1, .int (nI v)), (2, .int (nI 3))] := hl
    refine lv_iload_n hx hb dX7_vendorOf_0 rfl (lv_at hl 2 rfl) ?_
    refine lv_iconst (v := nI 4) hx hb dX7_vendorOf_1 (by decide) ?_
    refine n_ige (tgt := 17) hx hb dX7_vendorOf_2 (by decide) (by omega) (by omega) (fun h => absurd h (by decide)) (fun c2 => ?_)
    refine lv_aload_n hx hb dX7_vendorOf_5 rfl (lv_at hl 0 rfl) ?_
    refine k_get S hK hP.1 rfl (fun _ h => List.mem_cons_of_mem _ (List.mem_append_right _ (h))) 0 (by decide) (List.mem_cons_of_mem _ (List.mem_append_left _ (List.mem_of_getElem? (i := 0) rfl))) rfl (v := .ref (o + 1)) rfl dX7_vendorOf_6 ?_
    refine lv_iload_n hx hb dX7_vendorOf_9 rfl (lv_at hl 1 rfl) ?_
    refine k_S (As := [.int (nI v)]) (rest := [.ref (o + 1)]) S hK (c_X7_seller l E v) gX7_vendorOf_X7_seller rfl hd_X7_seller ⟨rfl, rfl⟩ ⟨Nat.le_of_ble_eq_true rfl, Nat.le_of_ble_eq_true rfl⟩ trivial rfl hl.1 rfl (Nat.le_of_ble_eq_true rfl) dX7_vendorOf_10 ⟨Nat.le_of_ble_eq_true rfl, Nat.le_of_ble_eq_true rfl⟩ ?_
    refine lv_iload_n hx hb dX7_vendorOf_13 rfl (lv_at hl 2 rfl) ?_
    refine n_iadd (n := 8*v + 33) hx hb dX7_vendorOf_14 (by omega) ?_
    refine k_iald hx hb hK hP.2.1 (by omega) (by decide) (v := z (8*v + 33)) rfl dX7_vendorOf_15 ?_
    exact k_iret hx hb hr hlk dX7_vendorOf_16 (rfl)
  · have hl : lv_has ls 3 [(0, .ref o), (1, .int (nI v)), (2, .int (nI 4))] := hl
    refine lv_iload_n hx hb dX7_vendorOf_0 rfl (lv_at hl 2 rfl) ?_
    refine lv_iconst (v := nI 4) hx hb dX7_vendorOf_1 (by decide) ?_
    refine n_ige (tgt := 17) hx hb dX7_vendorOf_2 (by decide) (by omega) (by omega) (fun c2 => ?_) (fun h => absurd h (by decide))
    refine lv_iload_n hx hb dX7_vendorOf_17 rfl (lv_at hl 2 rfl) ?_
    refine lv_bipush (v := nI 6) hx hb dX7_vendorOf_18 (by decide) ?_
    refine n_ige (tgt := 41) hx hb dX7_vendorOf_20 (by decide) (by omega) (by omega) (fun h => absurd h (by decide)) (fun c20 => ?_)
    refine lv_aload_n hx hb dX7_vendorOf_23 rfl (lv_at hl 0 rfl) ?_
    refine lv_iload_n hx hb dX7_vendorOf_24 rfl (lv_at hl 1 rfl) ?_
    refine lv_iload_n hx hb dX7_vendorOf_25 rfl (lv_at hl 2 rfl) ?_
    refine lv_iconst (v := nI 5) hx hb dX7_vendorOf_26 (by decide) ?_
    refine n_ine (tgt := 34) hx hb dX7_vendorOf_27 (by decide) (by omega) (by omega) (fun c27 => ?_) (fun h => absurd h (by decide))
    refine lv_iconst (v := nI 0) hx hb dX7_vendorOf_34 (by decide) ?_
    refine k_V (As := [.int (nI v), .int (nI 0)]) (rest := []) S hK (c_X7_claimsOn_0 l E o z w v hI hv4) gX7_vendorOf_X7_claimsOn rfl hd_X7_claimsOn ⟨rfl, rfl⟩ ⟨Nat.le_of_ble_eq_true rfl, Nat.le_of_ble_eq_true rfl⟩ (k_recv hK hP.1 rfl) hP rfl hl.1 rfl (Nat.le_of_ble_eq_true rfl) dX7_vendorOf_35 ⟨Nat.le_of_ble_eq_true rfl, Nat.le_of_ble_eq_true rfl⟩ ?_
    refine lv_goto (tgt := 54) hx hb dX7_vendorOf_38 (by decide) ?_
    exact k_iret hx hb hr hlk dX7_vendorOf_54 (rfl)
  · have hl : lv_has ls 3 [(0, .ref o), (1, .int (nI v)), (2, .int (nI 5))] := hl
    refine lv_iload_n hx hb dX7_vendorOf_0 rfl (lv_at hl 2 rfl) ?_
    refine lv_iconst (v := nI 4) hx hb dX7_vendorOf_1 (by decide) ?_
    refine n_ige (tgt := 17) hx hb dX7_vendorOf_2 (by decide) (by omega) (by omega) (fun c2 => ?_) (fun h => absurd h (by decide))
    refine lv_iload_n hx hb dX7_vendorOf_17 rfl (lv_at hl 2 rfl) ?_
    refine lv_bipush (v := nI 6) hx hb dX7_vendorOf_18 (by decide) ?_
    refine n_ige (tgt := 41) hx hb dX7_vendorOf_20 (by decide) (by omega) (by omega) (fun h => absurd h (by decide)) (fun c20 => ?_)
    refine lv_aload_n hx hb dX7_vendorOf_23 rfl (lv_at hl 0 rfl) ?_
    refine lv_iload_n hx hb dX7_vendorOf_24 rfl (lv_at hl 1 rfl) ?_
    refine lv_iload_n hx hb dX7_vendorOf_25 rfl (lv_at hl 2 rfl) ?_
    refine lv_iconst (v := nI 5) hx hb dX7_vendorOf_26 (by decide) ?_
    refine n_ine (tgt := 34) hx hb dX7_vendorOf_27 (by decide) (by omega) (by omega) (fun h => absurd h (by decide)) (fun c27 => ?_)
    refine lv_iconst (v := nI 1) hx hb dX7_vendorOf_30 (by decide) ?_
    refine lv_goto (tgt := 35) hx hb dX7_vendorOf_31 (by decide) ?_
    refine k_V (As := [.int (nI v), .int (nI 1)]) (rest := []) S hK (c_X7_claimsOn_1 l E o z w v hI hv4) gX7_vendorOf_X7_claimsOn rfl hd_X7_claimsOn ⟨rfl, rfl⟩ ⟨Nat.le_of_ble_eq_true rfl, Nat.le_of_ble_eq_true rfl⟩ (k_recv hK hP.1 rfl) hP rfl hl.1 rfl (Nat.le_of_ble_eq_true rfl) dX7_vendorOf_35 ⟨Nat.le_of_ble_eq_true rfl, Nat.le_of_ble_eq_true rfl⟩ ?_
    refine lv_goto (tgt := 54) hx hb dX7_vendorOf_38 (by decide) ?_
    exact k_iret hx hb hr hlk dX7_vendorOf_54 (rfl)
  · have hl : lv_has ls 3 [(0, .ref o), (1, .int (nI v)), (2, .int (nI 6))] := hl
    refine lv_iload_n hx hb dX7_vendorOf_0 rfl (lv_at hl 2 rfl) ?_
    refine lv_iconst (v := nI 4) hx hb dX7_vendorOf_1 (by decide) ?_
    refine n_ige (tgt := 17) hx hb dX7_vendorOf_2 (by decide) (by omega) (by omega) (fun c2 => ?_) (fun h => absurd h (by decide))
    refine lv_iload_n hx hb dX7_vendorOf_17 rfl (lv_at hl 2 rfl) ?_
    refine lv_bipush (v := nI 6) hx hb dX7_vendorOf_18 (by decide) ?_
    refine n_ige (tgt := 41) hx hb dX7_vendorOf_20 (by decide) (by omega) (by omega) (fun c20 => ?_) (fun h => absurd h (by decide))
    refine lv_aload_n hx hb dX7_vendorOf_41 rfl (lv_at hl 0 rfl) ?_
    refine k_get S hK hP.1 rfl (fun _ h => List.mem_cons_of_mem _ (List.mem_append_right _ (h))) 0 (by decide) (List.mem_cons_of_mem _ (List.mem_append_left _ (List.mem_of_getElem? (i := 0) rfl))) rfl (v := .ref (o + 1)) rfl dX7_vendorOf_42 ?_
    refine lv_iload_n hx hb dX7_vendorOf_45 rfl (lv_at hl 1 rfl) ?_
    refine k_S (As := [.int (nI v)]) (rest := [.ref (o + 1)]) S hK (c_X7_seller l E v) gX7_vendorOf_X7_seller rfl hd_X7_seller ⟨rfl, rfl⟩ ⟨Nat.le_of_ble_eq_true rfl, Nat.le_of_ble_eq_true rfl⟩ trivial rfl hl.1 rfl (Nat.le_of_ble_eq_true rfl) dX7_vendorOf_46 ⟨Nat.le_of_ble_eq_true rfl, Nat.le_of_ble_eq_true rfl⟩ ?_
    refine lv_iload_n hx hb dX7_vendorOf_49 rfl (lv_at hl 2 rfl) ?_
    refine n_iadd (n := 8*v + 36) hx hb dX7_vendorOf_50 (by omega) ?_
    refine lv_iconst (v := nI 2) hx hb dX7_vendorOf_51 (by decide) ?_
    refine n_isub (n := 8*v + 34) hx hb dX7_vendorOf_52 (by omega) ?_
    refine k_iald hx hb hK hP.2.1 (by omega) (by decide) (v := z (8*v + 34)) rfl dX7_vendorOf_53 ?_
    exact k_iret hx hb hr hlk dX7_vendorOf_54 (rfl)
  · have hl : lv_has ls 3 [(0, .ref o), (1, .int (nI v)), (2, .int (nI 7))] := hl
    refine lv_iload_n hx hb dX7_vendorOf_0 rfl (lv_at hl 2 rfl) ?_
    refine lv_iconst (v := nI 4) hx hb dX7_vendorOf_1 (by decide) ?_
    refine n_ige (tgt := 17) hx hb dX7_vendorOf_2 (by decide) (by omega) (by omega) (fun c2 => ?_) (fun h => absurd h (by decide))
    refine lv_iload_n hx hb dX7_vendorOf_17 rfl (lv_at hl 2 rfl) ?_
    refine lv_bipush (v := nI 6) hx hb dX7_vendorOf_18 (by decide) ?_
    refine n_ige (tgt := 41) hx hb dX7_vendorOf_20 (by decide) (by omega) (by omega) (fun c20 => ?_) (fun h => absurd h (by decide))
    refine lv_aload_n hx hb dX7_vendorOf_41 rfl (lv_at hl 0 rfl) ?_
    refine k_get S hK hP.1 rfl (fun _ h => List.mem_cons_of_mem _ (List.mem_append_right _ (h))) 0 (by decide) (List.mem_cons_of_mem _ (List.mem_append_left _ (List.mem_of_getElem? (i := 0) rfl))) rfl (v := .ref (o + 1)) rfl dX7_vendorOf_42 ?_
    refine lv_iload_n hx hb dX7_vendorOf_45 rfl (lv_at hl 1 rfl) ?_
    refine k_S (As := [.int (nI v)]) (rest := [.ref (o + 1)]) S hK (c_X7_seller l E v) gX7_vendorOf_X7_seller rfl hd_X7_seller ⟨rfl, rfl⟩ ⟨Nat.le_of_ble_eq_true rfl, Nat.le_of_ble_eq_true rfl⟩ trivial rfl hl.1 rfl (Nat.le_of_ble_eq_true rfl) dX7_vendorOf_46 ⟨Nat.le_of_ble_eq_true rfl, Nat.le_of_ble_eq_true rfl⟩ ?_
    refine lv_iload_n hx hb dX7_vendorOf_49 rfl (lv_at hl 2 rfl) ?_
    refine n_iadd (n := 8*v + 37) hx hb dX7_vendorOf_50 (by omega) ?_
    refine lv_iconst (v := nI 2) hx hb dX7_vendorOf_51 (by decide) ?_
    refine n_isub (n := 8*v + 35) hx hb dX7_vendorOf_52 (by omega) ?_
    refine k_iald hx hb hK hP.2.1 (by omega) (by decide) (v := z (8*v + 35)) rfl dX7_vendorOf_53 ?_
    exact k_iret hx hb hr hlk dX7_vendorOf_54 (rfl)
  · have hl : lv_has ls 3 [(0, .ref o), (1, .int (nI v)), (2, .int (nI 8))] := hl
    refine lv_iload_n hx hb dX7_vendorOf_0 rfl (lv_at hl 2 rfl) ?_
    refine lv_iconst (v := nI 4) hx hb dX7_vendorOf_1 (by decide) ?_
    refine n_ige (tgt := 17) hx hb dX7_vendorOf_2 (by decide) (by omega) (by omega) (fun c2 => ?_) (fun h => absurd h (by decide))
    refine lv_iload_n hx hb dX7_vendorOf_17 rfl (lv_at hl 2 rfl) ?_
    refine lv_bipush (v := nI 6) hx hb dX7_vendorOf_18 (by decide) ?_
    refine n_ige (tgt := 41) hx hb dX7_vendorOf_20 (by decide) (by omega) (by omega) (fun c20 => ?_) (fun h => absurd h (by decide))
    refine lv_aload_n hx hb dX7_vendorOf_41 rfl (lv_at hl 0 rfl) ?_
    refine k_get S hK hP.1 rfl (fun _ h => List.mem_cons_of_mem _ (List.mem_append_right _ (h))) 0 (by decide) (List.mem_cons_of_mem _ (List.mem_append_left _ (List.mem_of_getElem? (i := 0) rfl))) rfl (v := .ref (o + 1)) rfl dX7_vendorOf_42 ?_
    refine lv_iload_n hx hb dX7_vendorOf_45 rfl (lv_at hl 1 rfl) ?_
    refine k_S (As := [.int (nI v)]) (rest := [.ref (o + 1)]) S hK (c_X7_seller l E v) gX7_vendorOf_X7_seller rfl hd_X7_seller ⟨rfl, rfl⟩ ⟨Nat.le_of_ble_eq_true rfl, Nat.le_of_ble_eq_true rfl⟩ trivial rfl hl.1 rfl (Nat.le_of_ble_eq_true rfl) dX7_vendorOf_46 ⟨Nat.le_of_ble_eq_true rfl, Nat.le_of_ble_eq_true rfl⟩ ?_
    refine lv_iload_n hx hb dX7_vendorOf_49 rfl (lv_at hl 2 rfl) ?_
    refine n_iadd (n := 8*v + 38) hx hb dX7_vendorOf_50 (by omega) ?_
    refine lv_iconst (v := nI 2) hx hb dX7_vendorOf_51 (by decide) ?_
    refine n_isub (n := 8*v + 36) hx hb dX7_vendorOf_52 (by omega) ?_
    refine k_iald hx hb hK hP.2.1 (by omega) (by decide) (v := z (8*v + 36)) rfl dX7_vendorOf_53 ?_
    exact k_iret hx hb hr hlk dX7_vendorOf_54 (rfl)
  · have hl : lv_has ls 3 [(0, .ref o), (1, .int (nI v)), (2, .int (nI 9))] := hl
    refine lv_iload_n hx hb dX7_vendorOf_0 rfl (lv_at hl 2 rfl) ?_
    refine lv_iconst (v := nI 4) hx hb dX7_vendorOf_1 (by decide) ?_
    refine n_ige (tgt := 17) hx hb dX7_vendorOf_2 (by decide) (by omega) (by omega) (fun c2 => ?_) (fun h => absurd h (by decide))
    refine lv_iload_n hx hb dX7_vendorOf_17 rfl (lv_at hl 2 rfl) ?_
    refine lv_bipush (v := nI 6) hx hb dX7_vendorOf_18 (by decide) ?_
    refine n_ige (tgt := 41) hx hb dX7_vendorOf_20 (by decide) (by omega) (by omega) (fun c20 => ?_) (fun h => absurd h (by decide))
    refine lv_aload_n hx hb dX7_vendorOf_41 rfl (lv_at hl 0 rfl) ?_
    refine k_get S hK hP.1 rfl (fun _ h => List.mem_cons_of_mem _ (List.mem_append_right _ (h))) 0 (by decide) (List.mem_cons_of_mem _ (List.mem_append_left _ (List.mem_of_getElem? (i := 0) rfl))) rfl (v := .ref (o + 1)) rfl dX7_vendorOf_42 ?_
    refine lv_iload_n hx hb dX7_vendorOf_45 rfl (lv_at hl 1 rfl) ?_
    refine k_S (As := [.int (nI v)]) (rest := [.ref (o + 1)]) S hK (c_X7_seller l E v) gX7_vendorOf_X7_seller rfl hd_X7_seller ⟨rfl, rfl⟩ ⟨Nat.le_of_ble_eq_true rfl, Nat.le_of_ble_eq_true rfl⟩ trivial rfl hl.1 rfl (Nat.le_of_ble_eq_true rfl) dX7_vendorOf_46 ⟨Nat.le_of_ble_eq_true rfl, Nat.le_of_ble_eq_true rfl⟩ ?_
    refine lv_iload_n hx hb dX7_vendorOf_49 rfl (lv_at hl 2 rfl) ?_
    refine n_iadd (n := 8*v + 39) hx hb dX7_vendorOf_50 (by omega) ?_
    refine lv_iconst (v := nI 2) hx hb dX7_vendorOf_51 (by decide) ?_
    refine n_isub (n := 8*v + 37) hx hb dX7_vendorOf_52 (by omega) ?_
    refine k_iald hx hb hK hP.2.1 (by omega) (by decide) (v := z (8*v + 37)) rfl dX7_vendorOf_53 ?_
    exact k_iret hx hb hr hlk dX7_vendorOf_54 (rfl)
def rm_X7_repairedOf : Room := { frames := 3, cells := 0, slots := 0, locals := 69 }
theorem hd_X7_repairedOf : k_hd1 yX7_repairedOf RX7 2 := by decide +kernel
set_option maxHeartbeats 4000000 in
set_option maxRecDepth 100000 in
theorem c_X7_repairedOf (l : Launch) (E : ke_E) (o : Nat) (z : Nat → Int32) (w : md_w) (u : Nat) (k : Nat) (hI : iv z) (hu : u < cn z) (hk : k < 3) : Met l yX7_repairedOf wsX7_repairedOf rm_X7_repairedOf (kp E [.ref o, .int (nI u), .int (nI k)] (md E o z w)) (qp (some (.int (rpV z u k)))) 0 0 nof := by
  refine k_hd (cc := cX7_repairedOf) (maxL := 4) (ret := (some .int)) (by decide) rfl (Nat.le_of_ble_eq_true rfl) ?_
  intro p e s m below meth c ls S hr hlk hnm hK hP hl
  have hx := S.1
  have hb := S.2.1
  have hts := S.2.2.2.2
  have hP : md E o z w s.heap := hP
  have hl : lv_has ls 4 [(0, .ref o), (1, .int (nI u)), (2, .int (nI k))] := hl
  have hcn := iv_c hI
  rcases (by omega : k = 0 ∨ k = 1 ∨ k = 2) with rfl | rfl | rfl
  · have hl : lv_has ls 4 [(0, .ref o), (1, .int (nI u)), (2, .int (nI 0))] := hl
    refine lv_aload_n hx hb dX7_repairedOf_0 rfl (lv_at hl 0 rfl) ?_
    refine lv_iload_n hx hb dX7_repairedOf_1 rfl (lv_at hl 1 rfl) ?_
    refine k_V (As := [.int (nI u)]) (rest := []) S hK (c_X7_isTested l E o z w u hI hu) gX7_repairedOf_X7_isTested rfl hd_X7_isTested ⟨rfl, rfl⟩ ⟨Nat.le_of_ble_eq_true rfl, Nat.le_of_ble_eq_true rfl⟩ (k_recv hK hP.1 rfl) hP rfl hl.1 rfl (Nat.le_of_ble_eq_true rfl) dX7_repairedOf_2 ⟨Nat.le_of_ble_eq_true rfl, Nat.le_of_ble_eq_true rfl⟩ ?_
    refine b_ne (tgt := 10) hx hb dX7_repairedOf_5 (by decide) (fun c5 => ?_) (fun c5 => ?_)
    · refine lv_aload_n hx hb dX7_repairedOf_10 rfl (lv_at hl 0 rfl) ?_
      refine lv_iload_n hx hb dX7_repairedOf_11 rfl (lv_at hl 1 rfl) ?_
      refine lv_iconst (v := nI 1) hx hb dX7_repairedOf_12 (by decide) ?_
      refine k_V (As := [.int (nI u), .int (nI 1)]) (rest := []) S hK (c_X7_gradeOf l E o z w u (nI 1) hI hu) gX7_repairedOf_X7_gradeOf rfl hd_X7_gradeOf ⟨rfl, rfl⟩ ⟨Nat.le_of_ble_eq_true rfl, Nat.le_of_ble_eq_true rfl⟩ (k_recv hK hP.1 rfl) hP rfl hl.1 rfl (Nat.le_of_ble_eq_true rfl) dX7_repairedOf_13 ⟨Nat.le_of_ble_eq_true rfl, Nat.le_of_ble_eq_true rfl⟩ ?_
      refine lv_istore_n (lv' := [(3, .int (gr z u (nI 1))), (0, .ref o), (1, .int (nI u)), (2, .int (nI 0))]) hx hb dX7_repairedOf_16 rfl hl (by decide) rfl (fun ls hl => ?_)
      refine lv_iload_n hx hb dX7_repairedOf_17 rfl (lv_at hl 3 rfl) ?_
      refine lv_if_ne (tgt := 25) hx hb dX7_repairedOf_18 (by decide) (fun h => absurd h (by decide)) (fun c18 => ?_)
      refine lv_iload_n hx hb dX7_repairedOf_21 rfl (lv_at hl 0 rfl) ?_
      refine lv_goto (tgt := 52) hx hb dX7_repairedOf_22 (by decide) ?_
      exact k_iret hx hb hr hlk dX7_repairedOf_52 (iF_t c5)
    · refine lv_iconst (v := (-1)) hx hb dX7_repairedOf_8 (by decide) ?_
      exact k_iret hx hb hr hlk dX7_repairedOf_9 (iF_f c5)
  · have hl : lv_has ls 4 [(0, .ref o), (1, .int (nI u)), (2, .int (nI 1))] := hl
    refine lv_aload_n hx hb dX7_repairedOf_0 rfl (lv_at hl 0 rfl) ?_
    refine lv_iload_n hx hb dX7_repairedOf_1 rfl (lv_at hl 1 rfl) ?_
    refine k_V (As := [.int (nI u)]) (rest := []) S hK (c_X7_isTested l E o z w u hI hu) gX7_repairedOf_X7_isTested rfl hd_X7_isTested ⟨rfl, rfl⟩ ⟨Nat.le_of_ble_eq_true rfl, Nat.le_of_ble_eq_true rfl⟩ (k_recv hK hP.1 rfl) hP rfl hl.1 rfl (Nat.le_of_ble_eq_true rfl) dX7_repairedOf_2 ⟨Nat.le_of_ble_eq_true rfl, Nat.le_of_ble_eq_true rfl⟩ ?_
    refine b_ne (tgt := 10) hx hb dX7_repairedOf_5 (by decide) (fun c5 => ?_) (fun c5 => ?_)
    · refine lv_aload_n hx hb dX7_repairedOf_10 rfl (lv_at hl 0 rfl) ?_
      refine lv_iload_n hx hb dX7_repairedOf_11 rfl (lv_at hl 1 rfl) ?_
      refine lv_iconst (v := nI 1) hx hb dX7_repairedOf_12 (by decide) ?_
      refine k_V (As := [.int (nI u), .int (nI 1)]) (rest := []) S hK (c_X7_gradeOf l E o z w u (nI 1) hI hu) gX7_repairedOf_X7_gradeOf rfl hd_X7_gradeOf ⟨rfl, rfl⟩ ⟨Nat.le_of_ble_eq_true rfl, Nat.le_of_ble_eq_true rfl⟩ (k_recv hK hP.1 rfl) hP rfl hl.1 rfl (Nat.le_of_ble_eq_true rfl) dX7_repairedOf_13 ⟨Nat.le_of_ble_eq_true rfl, Nat.le_of_ble_eq_true rfl⟩ ?_
      refine lv_istore_n (lv' := [(3, .int (gr z u (nI 1))), (0, .ref o), (1, .int (nI u)), (2, .int (nI 1))]) hx hb dX7_repairedOf_16 rfl hl (by decide) rfl (fun ls hl => ?_)
      refine lv_iload_n hx hb dX7_repairedOf_17 rfl (lv_at hl 3 rfl) ?_
      refine lv_if_ne (tgt := 25) hx hb dX7_repairedOf_18 (by decide) (fun c18 => ?_) (fun h => absurd h (by decide))
      refine lv_iload_n hx hb dX7_repairedOf_25 rfl (lv_at hl 3 rfl) ?_
      refine lv_iconst (v := nI 1) hx hb dX7_repairedOf_26 (by decide) ?_
      refine n_ine (tgt := 46) hx hb dX7_repairedOf_27 (by decide) (by omega) (by omega) (fun h => absurd h (by decide)) (fun c27 => ?_)
      refine lv_aload_n hx hb dX7_repairedOf_30 rfl (lv_at hl 1 rfl) ?_
      refine lv_iload_n hx hb dX7_repairedOf_31 rfl (lv_at hl 2 rfl) ?_
      refine k_V (As := [.int (nI u)]) (rest := []) S hK (c_X7_points l E o z w u hI hu) gX7_repairedOf_X7_points rfl hd_X7_points ⟨rfl, rfl⟩ ⟨Nat.le_of_ble_eq_true rfl, Nat.le_of_ble_eq_true rfl⟩ (k_recv hK hP.1 rfl) hP rfl hl.1 rfl (Nat.le_of_ble_eq_true rfl) dX7_repairedOf_32 ⟨Nat.le_of_ble_eq_true rfl, Nat.le_of_ble_eq_true rfl⟩ ?_
      refine lv_aload_n hx hb dX7_repairedOf_35 rfl (lv_at hl 1 rfl) ?_
      refine k_get S hK hP.1 rfl (fun _ h => List.mem_cons_of_mem _ (List.mem_append_right _ (h))) 0 (by decide) (List.mem_cons_of_mem _ (List.mem_append_left _ (List.mem_append_left _ (List.mem_of_getElem? (i := 0) rfl)))) rfl (v := .ref (o + 1)) rfl dX7_repairedOf_36 ?_
      refine lv_bipush (v := nI 11) hx hb dX7_repairedOf_39 (by decide) ?_
      refine k_iald hx hb hK hP.2.1 (by omega) (by decide) (v := z 11) rfl dX7_repairedOf_41 ?_
      refine lv_imul hx hb dX7_repairedOf_42 ?_
      refine lv_goto (tgt := 52) hx hb dX7_repairedOf_43 (by decide) ?_
      exact k_iret hx hb hr hlk dX7_repairedOf_52 (iF_t c5)
    · refine lv_iconst (v := (-1)) hx hb dX7_repairedOf_8 (by decide) ?_
      exact k_iret hx hb hr hlk dX7_repairedOf_9 (iF_f c5)
  · have hl : lv_has ls 4 [(0, .ref o), (1, .int (nI u)), (2, .int (nI 2))] := hl
    refine lv_aload_n hx hb dX7_repairedOf_0 rfl (lv_at hl 0 rfl) ?_
    refine lv_iload_n hx hb dX7_repairedOf_1 rfl (lv_at hl 1 rfl) ?_
    refine k_V (As := [.int (nI u)]) (rest := []) S hK (c_X7_isTested l E o z w u hI hu) gX7_repairedOf_X7_isTested rfl hd_X7_isTested ⟨rfl, rfl⟩ ⟨Nat.le_of_ble_eq_true rfl, Nat.le_of_ble_eq_true rfl⟩ (k_recv hK hP.1 rfl) hP rfl hl.1 rfl (Nat.le_of_ble_eq_true rfl) dX7_repairedOf_2 ⟨Nat.le_of_ble_eq_true rfl, Nat.le_of_ble_eq_true rfl⟩ ?_
    refine b_ne (tgt := 10) hx hb dX7_repairedOf_5 (by decide) (fun c5 => ?_) (fun c5 => ?_)
    · refine lv_aload_n hx hb dX7_repairedOf_10 rfl (lv_at hl 0 rfl) ?_
      refine lv_iload_n hx hb dX7_repairedOf_11 rfl (lv_at hl 1 rfl) ?_
      refine lv_iconst (v := nI 1) hx hb dX7_repairedOf_12 (by decide) ?_
      refine k_V (As := [.int (nI u), .int (nI 1)]) (rest := []) S hK (c_X7_gradeOf l E o z w u (nI 1) hI hu) gX7_repairedOf_X7_gradeOf rfl hd_X7_gradeOf ⟨rfl, rfl⟩ ⟨Nat.le_of_ble_eq_true rfl, Nat.le_of_ble_eq_true rfl⟩ (k_recv hK hP.1 rfl) hP rfl hl.1 rfl (Nat.le_of_ble_eq_true rfl) dX7_repairedOf_13 ⟨Nat.le_of_ble_eq_true rfl, Nat.le_of_ble_eq_true rfl⟩ ?_
      refine lv_istore_n (lv' := [(3, .int (gr z u (nI 1))), (0, .ref o), (1, .int (nI u)), (2, .int (nI 2))]) hx hb dX7_repairedOf_16 rfl hl (by decide) rfl (fun ls hl => ?_)
      refine lv_iload_n hx hb dX7_repairedOf_17 rfl (lv_at hl 3 rfl) ?_
      refine lv_if_ne (tgt := 25) hx hb dX7_repairedOf_18 (by decide) (fun c18 => ?_) (fun h => absurd h (by decide))
      refine lv_iload_n hx hb dX7_repairedOf_25 rfl (lv_at hl 3 rfl) ?_
      refine lv_iconst (v := nI 1) hx hb dX7_repairedOf_26 (by decide) ?_
      refine n_ine (tgt := 46) hx hb dX7_repairedOf_27 (by decide) (by omega) (by omega) (fun c27 => ?_) (fun h => absurd h (by decide))
      refine lv_aload_n hx hb dX7_repairedOf_46 rfl (lv_at hl 1 rfl) ?_
      refine lv_iload_n hx hb dX7_repairedOf_47 rfl (lv_at hl 2 rfl) ?_
      refine lv_iload_n hx hb dX7_repairedOf_48 rfl (lv_at hl 0 rfl) ?_
      refine k_V (As := [.int (nI u), .int (gr z u (nI 1))]) (rest := []) S hK (c_X7_price l E o z w u (gr z u (nI 1)) hI hu) gX7_repairedOf_X7_price rfl hd_X7_price ⟨rfl, rfl⟩ ⟨Nat.le_of_ble_eq_true rfl, Nat.le_of_ble_eq_true rfl⟩ (k_recv hK hP.1 rfl) hP rfl hl.1 rfl (Nat.le_of_ble_eq_true rfl) dX7_repairedOf_49 ⟨Nat.le_of_ble_eq_true rfl, Nat.le_of_ble_eq_true rfl⟩ ?_
      exact k_iret hx hb hr hlk dX7_repairedOf_52 (iF_t c5)
    · refine lv_iconst (v := (-1)) hx hb dX7_repairedOf_8 (by decide) ?_
      exact k_iret hx hb hr hlk dX7_repairedOf_9 (iF_f c5)
def rm_X7_routeOf : Room := { frames := 4, cells := 0, slots := 0, locals := 92 }
theorem hd_X7_routeOf : k_hd1 yX7_routeOf RX7 1 := by decide +kernel
set_option maxHeartbeats 4000000 in
set_option maxRecDepth 100000 in
theorem c_X7_routeOf (l : Launch) (E : ke_E) (o : Nat) (z : Nat → Int32) (w : md_w) (u : Nat) (hI : iv z) (hu : u < cn z) : Met l yX7_routeOf wsX7_routeOf rm_X7_routeOf (kp E [.ref o, .int (nI u)] (md E o z w)) (qp (some (.int (rt z u 5).1))) 0 0 nof := by
  refine k_hd (cc := cX7_routeOf) (maxL := 7) (ret := (some .int)) (by decide) rfl (Nat.le_of_ble_eq_true rfl) ?_
  intro p e s m below meth c ls S hr hlk hnm hK hP hl
  have hx := S.1
  have hb := S.2.1
  have hts := S.2.2.2.2
  have hP : md E o z w s.heap := hP
  have hl : lv_has ls 7 [(0, .ref o), (1, .int (nI u))] := hl
  have hcn := iv_c hI
  have J7 : ∀ (n_ : Nat), ∀ (r : Nat), 1 ≤ r → r ≤ 5 → 5 < r + n_ → ∀ (ls : Array Slot), lv_has ls 7 [(0, .ref o), (1, .int (nI u)), (2, .int (rt z u r).1), (3, .int (rt z u r).2), (4, .int (nI r))] → W p l e (headSpec wsX7_routeOf rm_X7_routeOf).room s m ([.ref o, .int (nI u)] : List Value).toArray below meth c s.heap [] 0 0 (MQ below (qp (some (.int (rt z u 5).1))) ([.ref o, .int (nI u)] : List Value).toArray s 0 0 nof) (F0 m 7 ls []) := by
    intro n_
    induction n_ with
    | zero =>
      intro r hr1 hr5 hn_ _ _
      exact absurd hn_ (by omega)
    | succ n_ ih =>
      intro r hr1 hr5 hn_ ls hl
      rcases (by omega : r = 1 ∨ r = 2 ∨ r = 3 ∨ r = 4 ∨ r = 5) with rfl | rfl | rfl | rfl | rfl
      · have hl : lv_has ls 7 [(0, .ref o), (1, .int (nI u)), (2, .int (rt z u 1).1), (3, .int (rt z u 1).2), (4, .int (nI 1))] := hl
        refine lv_iload hx hb dX7_routeOf_7 (lv_at hl 4 rfl) ?_
        refine lv_iconst (v := nI 5) hx hb dX7_routeOf_9 (by decide) ?_
        refine n_ige (tgt := 102) hx hb dX7_routeOf_10 (by decide) (by omega) (by omega) (fun h => absurd h (by decide)) (fun c10 => ?_)
        refine lv_aload_n hx hb dX7_routeOf_13 rfl (lv_at hl 0 rfl) ?_
        refine lv_iload_n hx hb dX7_routeOf_14 rfl (lv_at hl 1 rfl) ?_
        refine lv_iload hx hb dX7_routeOf_15 (lv_at hl 4 rfl) ?_
        refine k_V (As := [.int (nI u), .int (nI 1)]) (rest := []) S hK (c_X7_why_1 l E o z w u hI hu) gX7_routeOf_X7_why rfl hd_X7_why ⟨rfl, rfl⟩ ⟨Nat.le_of_ble_eq_true rfl, Nat.le_of_ble_eq_true rfl⟩ (k_recv hK hP.1 rfl) hP rfl hl.1 rfl (Nat.le_of_ble_eq_true rfl) dX7_routeOf_17 ⟨Nat.le_of_ble_eq_true rfl, Nat.le_of_ble_eq_true rfl⟩ ?_
        refine lv_if_ne (tgt := 96) hx hb dX7_routeOf_20 (by decide) (fun c20 => ?_) (fun c20 => ?_)
        · refine lv_iinc (v := nI 2) (lv' := [(4, .int (nI 2)), (0, .ref o), (1, .int (nI u)), (2, .int (rt z u 1).1), (3, .int (rt z u 1).2)]) hx hb dX7_routeOf_96 hl (k := 4) rfl (by decide) (by decide) rfl (fun ls hl => ?_)
          refine lv_goto (tgt := 7) hx hb dX7_routeOf_99 (by decide) ?_
          have hl : lv_has ls 7 [(0, .ref o), (1, .int (nI u)), (2, .int (rt z u 2).1), (3, .int (rt z u 2).2), (4, .int (nI 2))] := by
            have h9 := lv_sub (l' := [(0, .ref o), (1, .int (nI u)), (2, .int (rt z u 1).1), (3, .int (rt z u 1).2), (4, .int (nI 2))]) hl [1, 2, 3, 4, 0] rfl
            rw [show (.int (rt z u 2).1 : Value) = .int (rt z u 1).1 from congrArg Value.int (congrArg Prod.fst (iF_f (fun h => c20 h.1)))]
            rw [show (.int (rt z u 2).2 : Value) = .int (rt z u 1).2 from congrArg Value.int (congrArg Prod.snd (iF_f (fun h => c20 h.1)))]
            exact h9
          exact ih 2 (by omega) (by omega) (by omega) _ hl
        · refine lv_iload hx hb dX7_routeOf_23 (lv_at hl 4 rfl) ?_
          refine lv_iconst (v := nI 1) hx hb dX7_routeOf_25 (by decide) ?_
          refine n_ine (tgt := 45) hx hb dX7_routeOf_26 (by decide) (by omega) (by omega) (fun h => absurd h (by decide)) (fun c26 => ?_)
          refine lv_aload_n hx hb dX7_routeOf_29 rfl (lv_at hl 0 rfl) ?_
          refine lv_iload_n hx hb dX7_routeOf_30 rfl (lv_at hl 1 rfl) ?_
          refine lv_iconst (v := nI 2) hx hb dX7_routeOf_31 (by decide) ?_
          refine k_V (As := [.int (nI u), .int (nI 2)]) (rest := []) S hK (c_X7_repairedOf l E o z w u 2 hI hu (by omega)) gX7_routeOf_X7_repairedOf rfl hd_X7_repairedOf ⟨rfl, rfl⟩ ⟨Nat.le_of_ble_eq_true rfl, Nat.le_of_ble_eq_true rfl⟩ (k_recv hK hP.1 rfl) hP rfl hl.1 rfl (Nat.le_of_ble_eq_true rfl) dX7_routeOf_32 ⟨Nat.le_of_ble_eq_true rfl, Nat.le_of_ble_eq_true rfl⟩ ?_
          refine lv_aload_n hx hb dX7_routeOf_35 rfl (lv_at hl 0 rfl) ?_
          refine lv_iload_n hx hb dX7_routeOf_36 rfl (lv_at hl 1 rfl) ?_
          refine lv_iconst (v := nI 1) hx hb dX7_routeOf_37 (by decide) ?_
          refine k_V (As := [.int (nI u), .int (nI 1)]) (rest := [.int (rpV z u 2)]) S hK (c_X7_repairedOf l E o z w u 1 hI hu (by omega)) gX7_routeOf_X7_repairedOf rfl hd_X7_repairedOf ⟨rfl, rfl⟩ ⟨Nat.le_of_ble_eq_true rfl, Nat.le_of_ble_eq_true rfl⟩ (k_recv hK hP.1 rfl) hP rfl hl.1 rfl (Nat.le_of_ble_eq_true rfl) dX7_routeOf_38 ⟨Nat.le_of_ble_eq_true rfl, Nat.le_of_ble_eq_true rfl⟩ ?_
          refine lv_isub hx hb dX7_routeOf_41 ?_
          refine lv_goto (tgt := 52) hx hb dX7_routeOf_42 (by decide) ?_
          refine lv_istore (lv' := [(5, .int ((rpV z u 2) - (rpV z u 1))), (0, .ref o), (1, .int (nI u)), (2, .int (rt z u 1).1), (3, .int (rt z u 1).2), (4, .int (nI 1))]) hx hb dX7_routeOf_52 hl (by decide) rfl (fun ls hl => ?_)
          refine lv_iload_n hx hb dX7_routeOf_54 rfl (lv_at hl 3 rfl) ?_
          refine lv_iconst (v := (-1)) hx hb dX7_routeOf_55 (by decide) ?_
          refine lv_icmp_eq (tgt := 65) hx hb dX7_routeOf_56 (by decide) (fun c56 => ?_) (fun c56 => ?_)
          · refine lv_iconst (v := nI 1) hx hb dX7_routeOf_65 (by decide) ?_
            refine lv_goto (tgt := 70) hx hb dX7_routeOf_66 (by decide) ?_
            refine lv_istore (lv' := [(6, .int (nI 1)), (5, .int ((rpV z u 2) - (rpV z u 1))), (0, .ref o), (1, .int (nI u)), (2, .int (rt z u 1).1), (3, .int (rt z u 1).2), (4, .int (nI 1))]) hx hb dX7_routeOf_70 hl (by decide) rfl (fun ls hl => ?_)
            refine lv_iload hx hb dX7_routeOf_72 (lv_at hl 0 rfl) ?_
            refine lv_if_eq (tgt := 82) hx hb dX7_routeOf_74 (by decide) (fun h => absurd h (by decide)) (fun c74 => ?_)
            refine lv_iload hx hb dX7_routeOf_77 (lv_at hl 6 rfl) ?_
            refine lv_goto (tgt := 83) hx hb dX7_routeOf_79 (by decide) ?_
            refine lv_istore_n (lv' := [(2, .int (nI 1)), (6, .int (nI 1)), (5, .int ((rpV z u 2) - (rpV z u 1))), (0, .ref o), (1, .int (nI u)), (3, .int (rt z u 1).2), (4, .int (nI 1))]) hx hb dX7_routeOf_83 rfl hl (by decide) rfl (fun ls hl => ?_)
            refine lv_iload hx hb dX7_routeOf_84 (lv_at hl 1 rfl) ?_
            refine lv_if_eq (tgt := 94) hx hb dX7_routeOf_86 (by decide) (fun h => absurd h (by decide)) (fun c86 => ?_)
            refine lv_iload hx hb dX7_routeOf_89 (lv_at hl 2 rfl) ?_
            refine lv_goto (tgt := 95) hx hb dX7_routeOf_91 (by decide) ?_
            refine lv_istore_n (lv' := [(3, .int ((rpV z u 2) - (rpV z u 1))), (2, .int (nI 1)), (6, .int (nI 1)), (5, .int ((rpV z u 2) - (rpV z u 1))), (0, .ref o), (1, .int (nI u)), (4, .int (nI 1))]) hx hb dX7_routeOf_95 rfl hl (by decide) rfl (fun ls hl => ?_)
            refine lv_iinc (v := nI 2) (lv' := [(4, .int (nI 2)), (3, .int ((rpV z u 2) - (rpV z u 1))), (2, .int (nI 1)), (6, .int (nI 1)), (5, .int ((rpV z u 2) - (rpV z u 1))), (0, .ref o), (1, .int (nI u))]) hx hb dX7_routeOf_96 hl (k := 6) rfl (by decide) (by decide) rfl (fun ls hl => ?_)
            refine lv_goto (tgt := 7) hx hb dX7_routeOf_99 (by decide) ?_
            have hl : lv_has ls 7 [(0, .ref o), (1, .int (nI u)), (2, .int (rt z u 2).1), (3, .int (rt z u 2).2), (4, .int (nI 2))] := by
              have h9 := lv_sub (l' := [(0, .ref o), (1, .int (nI u)), (2, .int (nI 1)), (3, .int ((rpV z u 2) - (rpV z u 1))), (4, .int (nI 2))]) hl [5, 6, 2, 1, 0] rfl
              rw [show (.int (rt z u 2).1 : Value) = .int (nI 1) from congrArg Value.int (congrArg Prod.fst (iF_t ⟨c20, Or.inl c56⟩))]
              rw [show (.int (rt z u 2).2 : Value) = .int ((rpV z u 2) - (rpV z u 1)) from congrArg Value.int ((congrArg Prod.snd (iF_t ⟨c20, Or.inl c56⟩)).trans (show mon z u 1 = _ from iF_t rfl))]
              exact h9
            exact ih 2 (by omega) (by omega) (by omega) _ hl
          · refine lv_iload hx hb dX7_routeOf_59 (lv_at hl 0 rfl) ?_
            refine lv_iload_n hx hb dX7_routeOf_61 rfl (lv_at hl 4 rfl) ?_
            refine lv_icmp_le (tgt := 69) hx hb dX7_routeOf_62 (by decide) (fun c62 => ?_) (fun c62 => ?_)
            · refine lv_iconst (v := nI 0) hx hb dX7_routeOf_69 (by decide) ?_
              refine lv_istore (lv' := [(6, .int (nI 0)), (5, .int ((rpV z u 2) - (rpV z u 1))), (0, .ref o), (1, .int (nI u)), (2, .int (rt z u 1).1), (3, .int (rt z u 1).2), (4, .int (nI 1))]) hx hb dX7_routeOf_70 hl (by decide) rfl (fun ls hl => ?_)
              refine lv_iload hx hb dX7_routeOf_72 (lv_at hl 0 rfl) ?_
              refine lv_if_eq (tgt := 82) hx hb dX7_routeOf_74 (by decide) (fun c74 => ?_) (fun h => absurd h (by decide))
              refine lv_iload_n hx hb dX7_routeOf_82 rfl (lv_at hl 4 rfl) ?_
              refine lv_istore_n (lv' := [(2, .int (rt z u 1).1), (6, .int (nI 0)), (5, .int ((rpV z u 2) - (rpV z u 1))), (0, .ref o), (1, .int (nI u)), (3, .int (rt z u 1).2), (4, .int (nI 1))]) hx hb dX7_routeOf_83 rfl hl (by decide) rfl (fun ls hl => ?_)
              refine lv_iload hx hb dX7_routeOf_84 (lv_at hl 1 rfl) ?_
              refine lv_if_eq (tgt := 94) hx hb dX7_routeOf_86 (by decide) (fun c86 => ?_) (fun h => absurd h (by decide))
              refine lv_iload_n hx hb dX7_routeOf_94 rfl (lv_at hl 5 rfl) ?_
              refine lv_istore_n (lv' := [(3, .int (rt z u 1).2), (2, .int (rt z u 1).1), (6, .int (nI 0)), (5, .int ((rpV z u 2) - (rpV z u 1))), (0, .ref o), (1, .int (nI u)), (4, .int (nI 1))]) hx hb dX7_routeOf_95 rfl hl (by decide) rfl (fun ls hl => ?_)
              refine lv_iinc (v := nI 2) (lv' := [(4, .int (nI 2)), (3, .int (rt z u 1).2), (2, .int (rt z u 1).1), (6, .int (nI 0)), (5, .int ((rpV z u 2) - (rpV z u 1))), (0, .ref o), (1, .int (nI u))]) hx hb dX7_routeOf_96 hl (k := 6) rfl (by decide) (by decide) rfl (fun ls hl => ?_)
              refine lv_goto (tgt := 7) hx hb dX7_routeOf_99 (by decide) ?_
              have hl : lv_has ls 7 [(0, .ref o), (1, .int (nI u)), (2, .int (rt z u 2).1), (3, .int (rt z u 2).2), (4, .int (nI 2))] := by
                have h9 := lv_sub (l' := [(0, .ref o), (1, .int (nI u)), (2, .int (rt z u 1).1), (3, .int (rt z u 1).2), (4, .int (nI 2))]) hl [5, 6, 2, 1, 0] rfl
                rw [show (.int (rt z u 2).1 : Value) = .int (rt z u 1).1 from congrArg Value.int (congrArg Prod.fst (iF_f (fun h => h.2.elim c56 (fun q => q (by rw [(show mon z u 1 = _ from iF_t rfl)]; exact c62)))))]
                rw [show (.int (rt z u 2).2 : Value) = .int (rt z u 1).2 from congrArg Value.int (congrArg Prod.snd (iF_f (fun h => h.2.elim c56 (fun q => q (by rw [(show mon z u 1 = _ from iF_t rfl)]; exact c62)))))]
                exact h9
              exact ih 2 (by omega) (by omega) (by omega) _ hl
            · refine lv_iconst (v := nI 1) hx hb dX7_routeOf_65 (by decide) ?_
              refine lv_goto (tgt := 70) hx hb dX7_routeOf_66 (by decide) ?_
              refine lv_istore (lv' := [(6, .int (nI 1)), (5, .int ((rpV z u 2) - (rpV z u 1))), (0, .ref o), (1, .int (nI u)), (2, .int (rt z u 1).1), (3, .int (rt z u 1).2), (4, .int (nI 1))]) hx hb dX7_routeOf_70 hl (by decide) rfl (fun ls hl => ?_)
              refine lv_iload hx hb dX7_routeOf_72 (lv_at hl 0 rfl) ?_
              refine lv_if_eq (tgt := 82) hx hb dX7_routeOf_74 (by decide) (fun h => absurd h (by decide)) (fun c74 => ?_)
              refine lv_iload hx hb dX7_routeOf_77 (lv_at hl 6 rfl) ?_
              refine lv_goto (tgt := 83) hx hb dX7_routeOf_79 (by decide) ?_
              refine lv_istore_n (lv' := [(2, .int (nI 1)), (6, .int (nI 1)), (5, .int ((rpV z u 2) - (rpV z u 1))), (0, .ref o), (1, .int (nI u)), (3, .int (rt z u 1).2), (4, .int (nI 1))]) hx hb dX7_routeOf_83 rfl hl (by decide) rfl (fun ls hl => ?_)
              refine lv_iload hx hb dX7_routeOf_84 (lv_at hl 1 rfl) ?_
              refine lv_if_eq (tgt := 94) hx hb dX7_routeOf_86 (by decide) (fun h => absurd h (by decide)) (fun c86 => ?_)
              refine lv_iload hx hb dX7_routeOf_89 (lv_at hl 2 rfl) ?_
              refine lv_goto (tgt := 95) hx hb dX7_routeOf_91 (by decide) ?_
              refine lv_istore_n (lv' := [(3, .int ((rpV z u 2) - (rpV z u 1))), (2, .int (nI 1)), (6, .int (nI 1)), (5, .int ((rpV z u 2) - (rpV z u 1))), (0, .ref o), (1, .int (nI u)), (4, .int (nI 1))]) hx hb dX7_routeOf_95 rfl hl (by decide) rfl (fun ls hl => ?_)
              refine lv_iinc (v := nI 2) (lv' := [(4, .int (nI 2)), (3, .int ((rpV z u 2) - (rpV z u 1))), (2, .int (nI 1)), (6, .int (nI 1)), (5, .int ((rpV z u 2) - (rpV z u 1))), (0, .ref o), (1, .int (nI u))]) hx hb dX7_routeOf_96 hl (k := 6) rfl (by decide) (by decide) rfl (fun ls hl => ?_)
              refine lv_goto (tgt := 7) hx hb dX7_routeOf_99 (by decide) ?_
              have hl : lv_has ls 7 [(0, .ref o), (1, .int (nI u)), (2, .int (rt z u 2).1), (3, .int (rt z u 2).2), (4, .int (nI 2))] := by
                have h9 := lv_sub (l' := [(0, .ref o), (1, .int (nI u)), (2, .int (nI 1)), (3, .int ((rpV z u 2) - (rpV z u 1))), (4, .int (nI 2))]) hl [5, 6, 2, 1, 0] rfl
                rw [show (.int (rt z u 2).1 : Value) = .int (nI 1) from congrArg Value.int (congrArg Prod.fst (iF_t ⟨c20, Or.inr (by rw [(show mon z u 1 = _ from iF_t rfl)]; exact c62)⟩))]
                rw [show (.int (rt z u 2).2 : Value) = .int ((rpV z u 2) - (rpV z u 1)) from congrArg Value.int ((congrArg Prod.snd (iF_t ⟨c20, Or.inr (by rw [(show mon z u 1 = _ from iF_t rfl)]; exact c62)⟩)).trans (show mon z u 1 = _ from iF_t rfl))]
                exact h9
              exact ih 2 (by omega) (by omega) (by omega) _ hl
      · have hl : lv_has ls 7 [(0, .ref o), (1, .int (nI u)), (2, .int (rt z u 2).1), (3, .int (rt z u 2).2), (4, .int (nI 2))] := hl
        refine lv_iload hx hb dX7_routeOf_7 (lv_at hl 4 rfl) ?_
        refine lv_iconst (v := nI 5) hx hb dX7_routeOf_9 (by decide) ?_
        refine n_ige (tgt := 102) hx hb dX7_routeOf_10 (by decide) (by omega) (by omega) (fun h => absurd h (by decide)) (fun c10 => ?_)
        refine lv_aload_n hx hb dX7_routeOf_13 rfl (lv_at hl 0 rfl) ?_
        refine lv_iload_n hx hb dX7_routeOf_14 rfl (lv_at hl 1 rfl) ?_
        refine lv_iload hx hb dX7_routeOf_15 (lv_at hl 4 rfl) ?_
        refine k_V (As := [.int (nI u), .int (nI 2)]) (rest := []) S hK (c_X7_why_2 l E o z w u hI hu) gX7_routeOf_X7_why rfl hd_X7_why ⟨rfl, rfl⟩ ⟨Nat.le_of_ble_eq_true rfl, Nat.le_of_ble_eq_true rfl⟩ (k_recv hK hP.1 rfl) hP rfl hl.1 rfl (Nat.le_of_ble_eq_true rfl) dX7_routeOf_17 ⟨Nat.le_of_ble_eq_true rfl, Nat.le_of_ble_eq_true rfl⟩ ?_
        refine lv_if_ne (tgt := 96) hx hb dX7_routeOf_20 (by decide) (fun c20 => ?_) (fun c20 => ?_)
        · refine lv_iinc (v := nI 3) (lv' := [(4, .int (nI 3)), (0, .ref o), (1, .int (nI u)), (2, .int (rt z u 2).1), (3, .int (rt z u 2).2)]) hx hb dX7_routeOf_96 hl (k := 4) rfl (by decide) (by decide) rfl (fun ls hl => ?_)
          refine lv_goto (tgt := 7) hx hb dX7_routeOf_99 (by decide) ?_
          have hl : lv_has ls 7 [(0, .ref o), (1, .int (nI u)), (2, .int (rt z u 3).1), (3, .int (rt z u 3).2), (4, .int (nI 3))] := by
            have h9 := lv_sub (l' := [(0, .ref o), (1, .int (nI u)), (2, .int (rt z u 2).1), (3, .int (rt z u 2).2), (4, .int (nI 3))]) hl [1, 2, 3, 4, 0] rfl
            rw [show (.int (rt z u 3).1 : Value) = .int (rt z u 2).1 from congrArg Value.int (congrArg Prod.fst (iF_f (fun h => c20 h.1)))]
            rw [show (.int (rt z u 3).2 : Value) = .int (rt z u 2).2 from congrArg Value.int (congrArg Prod.snd (iF_f (fun h => c20 h.1)))]
            exact h9
          exact ih 3 (by omega) (by omega) (by omega) _ hl
        · refine lv_iload hx hb dX7_routeOf_23 (lv_at hl 4 rfl) ?_
          refine lv_iconst (v := nI 1) hx hb dX7_routeOf_25 (by decide) ?_
          refine n_ine (tgt := 45) hx hb dX7_routeOf_26 (by decide) (by omega) (by omega) (fun c26 => ?_) (fun h => absurd h (by decide))
          refine lv_aload_n hx hb dX7_routeOf_45 rfl (lv_at hl 0 rfl) ?_
          refine lv_iload_n hx hb dX7_routeOf_46 rfl (lv_at hl 1 rfl) ?_
          refine lv_iload hx hb dX7_routeOf_47 (lv_at hl 4 rfl) ?_
          refine k_V (As := [.int (nI u), .int (nI 2)]) (rest := []) S hK (c_X7_brings l E o z w u 2 hI hu c10) gX7_routeOf_X7_brings rfl hd_X7_brings ⟨rfl, rfl⟩ ⟨Nat.le_of_ble_eq_true rfl, Nat.le_of_ble_eq_true rfl⟩ (k_recv hK hP.1 rfl) hP rfl hl.1 rfl (Nat.le_of_ble_eq_true rfl) dX7_routeOf_49 ⟨Nat.le_of_ble_eq_true rfl, Nat.le_of_ble_eq_true rfl⟩ ?_
          refine lv_istore (lv' := [(5, .int (brg z u 2)), (0, .ref o), (1, .int (nI u)), (2, .int (rt z u 2).1), (3, .int (rt z u 2).2), (4, .int (nI 2))]) hx hb dX7_routeOf_52 hl (by decide) rfl (fun ls hl => ?_)
          refine lv_iload_n hx hb dX7_routeOf_54 rfl (lv_at hl 3 rfl) ?_
          refine lv_iconst (v := (-1)) hx hb dX7_routeOf_55 (by decide) ?_
          refine lv_icmp_eq (tgt := 65) hx hb dX7_routeOf_56 (by decide) (fun c56 => ?_) (fun c56 => ?_)
          · refine lv_iconst (v := nI 1) hx hb dX7_routeOf_65 (by decide) ?_
            refine lv_goto (tgt := 70) hx hb dX7_routeOf_66 (by decide) ?_
            refine lv_istore (lv' := [(6, .int (nI 1)), (5, .int (brg z u 2)), (0, .ref o), (1, .int (nI u)), (2, .int (rt z u 2).1), (3, .int (rt z u 2).2), (4, .int (nI 2))]) hx hb dX7_routeOf_70 hl (by decide) rfl (fun ls hl => ?_)
            refine lv_iload hx hb dX7_routeOf_72 (lv_at hl 0 rfl) ?_
            refine lv_if_eq (tgt := 82) hx hb dX7_routeOf_74 (by decide) (fun h => absurd h (by decide)) (fun c74 => ?_)
            refine lv_iload hx hb dX7_routeOf_77 (lv_at hl 6 rfl) ?_
            refine lv_goto (tgt := 83) hx hb dX7_routeOf_79 (by decide) ?_
            refine lv_istore_n (lv' := [(2, .int (nI 2)), (6, .int (nI 1)), (5, .int (brg z u 2)), (0, .ref o), (1, .int (nI u)), (3, .int (rt z u 2).2), (4, .int (nI 2))]) hx hb dX7_routeOf_83 rfl hl (by decide) rfl (fun ls hl => ?_)
            refine lv_iload hx hb dX7_routeOf_84 (lv_at hl 1 rfl) ?_
            refine lv_if_eq (tgt := 94) hx hb dX7_routeOf_86 (by decide) (fun h => absurd h (by decide)) (fun c86 => ?_)
            refine lv_iload hx hb dX7_routeOf_89 (lv_at hl 2 rfl) ?_
            refine lv_goto (tgt := 95) hx hb dX7_routeOf_91 (by decide) ?_
            refine lv_istore_n (lv' := [(3, .int (brg z u 2)), (2, .int (nI 2)), (6, .int (nI 1)), (5, .int (brg z u 2)), (0, .ref o), (1, .int (nI u)), (4, .int (nI 2))]) hx hb dX7_routeOf_95 rfl hl (by decide) rfl (fun ls hl => ?_)
            refine lv_iinc (v := nI 3) (lv' := [(4, .int (nI 3)), (3, .int (brg z u 2)), (2, .int (nI 2)), (6, .int (nI 1)), (5, .int (brg z u 2)), (0, .ref o), (1, .int (nI u))]) hx hb dX7_routeOf_96 hl (k := 6) rfl (by decide) (by decide) rfl (fun ls hl => ?_)
            refine lv_goto (tgt := 7) hx hb dX7_routeOf_99 (by decide) ?_
            have hl : lv_has ls 7 [(0, .ref o), (1, .int (nI u)), (2, .int (rt z u 3).1), (3, .int (rt z u 3).2), (4, .int (nI 3))] := by
              have h9 := lv_sub (l' := [(0, .ref o), (1, .int (nI u)), (2, .int (nI 2)), (3, .int (brg z u 2)), (4, .int (nI 3))]) hl [5, 6, 2, 1, 0] rfl
              rw [show (.int (rt z u 3).1 : Value) = .int (nI 2) from congrArg Value.int (congrArg Prod.fst (iF_t ⟨c20, Or.inl c56⟩))]
              rw [show (.int (rt z u 3).2 : Value) = .int (brg z u 2) from congrArg Value.int ((congrArg Prod.snd (iF_t ⟨c20, Or.inl c56⟩)).trans (show mon z u 2 = _ from iF_f (by decide)))]
              exact h9
            exact ih 3 (by omega) (by omega) (by omega) _ hl
          · refine lv_iload hx hb dX7_routeOf_59 (lv_at hl 0 rfl) ?_
            refine lv_iload_n hx hb dX7_routeOf_61 rfl (lv_at hl 4 rfl) ?_
            refine lv_icmp_le (tgt := 69) hx hb dX7_routeOf_62 (by decide) (fun c62 => ?_) (fun c62 => ?_)
            · refine lv_iconst (v := nI 0) hx hb dX7_routeOf_69 (by decide) ?_
              refine lv_istore (lv' := [(6, .int (nI 0)), (5, .int (brg z u 2)), (0, .ref o), (1, .int (nI u)), (2, .int (rt z u 2).1), (3, .int (rt z u 2).2), (4, .int (nI 2))]) hx hb dX7_routeOf_70 hl (by decide) rfl (fun ls hl => ?_)
              refine lv_iload hx hb dX7_routeOf_72 (lv_at hl 0 rfl) ?_
              refine lv_if_eq (tgt := 82) hx hb dX7_routeOf_74 (by decide) (fun c74 => ?_) (fun h => absurd h (by decide))
              refine lv_iload_n hx hb dX7_routeOf_82 rfl (lv_at hl 4 rfl) ?_
              refine lv_istore_n (lv' := [(2, .int (rt z u 2).1), (6, .int (nI 0)), (5, .int (brg z u 2)), (0, .ref o), (1, .int (nI u)), (3, .int (rt z u 2).2), (4, .int (nI 2))]) hx hb dX7_routeOf_83 rfl hl (by decide) rfl (fun ls hl => ?_)
              refine lv_iload hx hb dX7_routeOf_84 (lv_at hl 1 rfl) ?_
              refine lv_if_eq (tgt := 94) hx hb dX7_routeOf_86 (by decide) (fun c86 => ?_) (fun h => absurd h (by decide))
              refine lv_iload_n hx hb dX7_routeOf_94 rfl (lv_at hl 5 rfl) ?_
              refine lv_istore_n (lv' := [(3, .int (rt z u 2).2), (2, .int (rt z u 2).1), (6, .int (nI 0)), (5, .int (brg z u 2)), (0, .ref o), (1, .int (nI u)), (4, .int (nI 2))]) hx hb dX7_routeOf_95 rfl hl (by decide) rfl (fun ls hl => ?_)
              refine lv_iinc (v := nI 3) (lv' := [(4, .int (nI 3)), (3, .int (rt z u 2).2), (2, .int (rt z u 2).1), (6, .int (nI 0)), (5, .int (brg z u 2)), (0, .ref o), (1, .int (nI u))]) hx hb dX7_routeOf_96 hl (k := 6) rfl (by decide) (by decide) rfl (fun ls hl => ?_)
              refine lv_goto (tgt := 7) hx hb dX7_routeOf_99 (by decide) ?_
              have hl : lv_has ls 7 [(0, .ref o), (1, .int (nI u)), (2, .int (rt z u 3).1), (3, .int (rt z u 3).2), (4, .int (nI 3))] := by
                have h9 := lv_sub (l' := [(0, .ref o), (1, .int (nI u)), (2, .int (rt z u 2).1), (3, .int (rt z u 2).2), (4, .int (nI 3))]) hl [5, 6, 2, 1, 0] rfl
                rw [show (.int (rt z u 3).1 : Value) = .int (rt z u 2).1 from congrArg Value.int (congrArg Prod.fst (iF_f (fun h => h.2.elim c56 (fun q => q (by rw [(show mon z u 2 = _ from iF_f (by decide))]; exact c62)))))]
                rw [show (.int (rt z u 3).2 : Value) = .int (rt z u 2).2 from congrArg Value.int (congrArg Prod.snd (iF_f (fun h => h.2.elim c56 (fun q => q (by rw [(show mon z u 2 = _ from iF_f (by decide))]; exact c62)))))]
                exact h9
              exact ih 3 (by omega) (by omega) (by omega) _ hl
            · refine lv_iconst (v := nI 1) hx hb dX7_routeOf_65 (by decide) ?_
              refine lv_goto (tgt := 70) hx hb dX7_routeOf_66 (by decide) ?_
              refine lv_istore (lv' := [(6, .int (nI 1)), (5, .int (brg z u 2)), (0, .ref o), (1, .int (nI u)), (2, .int (rt z u 2).1), (3, .int (rt z u 2).2), (4, .int (nI 2))]) hx hb dX7_routeOf_70 hl (by decide) rfl (fun ls hl => ?_)
              refine lv_iload hx hb dX7_routeOf_72 (lv_at hl 0 rfl) ?_
              refine lv_if_eq (tgt := 82) hx hb dX7_routeOf_74 (by decide) (fun h => absurd h (by decide)) (fun c74 => ?_)
              refine lv_iload hx hb dX7_routeOf_77 (lv_at hl 6 rfl) ?_
              refine lv_goto (tgt := 83) hx hb dX7_routeOf_79 (by decide) ?_
              refine lv_istore_n (lv' := [(2, .int (nI 2)), (6, .int (nI 1)), (5, .int (brg z u 2)), (0, .ref o), (1, .int (nI u)), (3, .int (rt z u 2).2), (4, .int (nI 2))]) hx hb dX7_routeOf_83 rfl hl (by decide) rfl (fun ls hl => ?_)
              refine lv_iload hx hb dX7_routeOf_84 (lv_at hl 1 rfl) ?_
              refine lv_if_eq (tgt := 94) hx hb dX7_routeOf_86 (by decide) (fun h => absurd h (by decide)) (fun c86 => ?_)
              refine lv_iload hx hb dX7_routeOf_89 (lv_at hl 2 rfl) ?_
              refine lv_goto (tgt := 95) hx hb dX7_routeOf_91 (by decide) ?_
              refine lv_istore_n (lv' := [(3, .int (brg z u 2)), (2, .int (nI 2)), (6, .int (nI 1)), (5, .int (brg z u 2)), (0, .ref o), (1, .int (nI u)), (4, .int (nI 2))]) hx hb dX7_routeOf_95 rfl hl (by decide) rfl (fun ls hl => ?_)
              refine lv_iinc (v := nI 3) (lv' := [(4, .int (nI 3)), (3, .int (brg z u 2)), (2, .int (nI 2)), (6, .int (nI 1)), (5, .int (brg z u 2)), (0, .ref o), (1, .int (nI u))]) hx hb dX7_routeOf_96 hl (k := 6) rfl (by decide) (by decide) rfl (fun ls hl => ?_)
              refine lv_goto (tgt := 7) hx hb dX7_routeOf_99 (by decide) ?_
              have hl : lv_has ls 7 [(0, .ref o), (1, .int (nI u)), (2, .int (rt z u 3).1), (3, .int (rt z u 3).2), (4, .int (nI 3))] := by
                have h9 := lv_sub (l' := [(0, .ref o), (1, .int (nI u)), (2, .int (nI 2)), (3, .int (brg z u 2)), (4, .int (nI 3))]) hl [5, 6, 2, 1, 0] rfl
                rw [show (.int (rt z u 3).1 : Value) = .int (nI 2) from congrArg Value.int (congrArg Prod.fst (iF_t ⟨c20, Or.inr (by rw [(show mon z u 2 = _ from iF_f (by decide))]; exact c62)⟩))]
                rw [show (.int (rt z u 3).2 : Value) = .int (brg z u 2) from congrArg Value.int ((congrArg Prod.snd (iF_t ⟨c20, Or.inr (by rw [(show mon z u 2 = _ from iF_f (by decide))]; exact c62)⟩)).trans (show mon z u 2 = _ from iF_f (by decide)))]
                exact h9
              exact ih 3 (by omega) (by omega) (by omega) _ hl
      · have hl : lv_has ls 7 [(0, .ref o), (1, .int (nI u)), (2, .int (rt z u 3).1), (3, .int (rt z u 3).2), (4, .int (nI 3))] := hl
        refine lv_iload hx hb dX7_routeOf_7 (lv_at hl 4 rfl) ?_
        refine lv_iconst (v := nI 5) hx hb dX7_routeOf_9 (by decide) ?_
        refine n_ige (tgt := 102) hx hb dX7_routeOf_10 (by decide) (by omega) (by omega) (fun h => absurd h (by decide)) (fun c10 => ?_)
        refine lv_aload_n hx hb dX7_routeOf_13 rfl (lv_at hl 0 rfl) ?_
        refine lv_iload_n hx hb dX7_routeOf_14 rfl (lv_at hl 1 rfl) ?_
        refine lv_iload hx hb dX7_routeOf_15 (lv_at hl 4 rfl) ?_
        refine k_V (As := [.int (nI u), .int (nI 3)]) (rest := []) S hK (c_X7_why_3 l E o z w u hI hu) gX7_routeOf_X7_why rfl hd_X7_why ⟨rfl, rfl⟩ ⟨Nat.le_of_ble_eq_true rfl, Nat.le_of_ble_eq_true rfl⟩ (k_recv hK hP.1 rfl) hP rfl hl.1 rfl (Nat.le_of_ble_eq_true rfl) dX7_routeOf_17 ⟨Nat.le_of_ble_eq_true rfl, Nat.le_of_ble_eq_true rfl⟩ ?_
        refine lv_if_ne (tgt := 96) hx hb dX7_routeOf_20 (by decide) (fun c20 => ?_) (fun c20 => ?_)
        · refine lv_iinc (v := nI 4) (lv' := [(4, .int (nI 4)), (0, .ref o), (1, .int (nI u)), (2, .int (rt z u 3).1), (3, .int (rt z u 3).2)]) hx hb dX7_routeOf_96 hl (k := 4) rfl (by decide) (by decide) rfl (fun ls hl => ?_)
          refine lv_goto (tgt := 7) hx hb dX7_routeOf_99 (by decide) ?_
          have hl : lv_has ls 7 [(0, .ref o), (1, .int (nI u)), (2, .int (rt z u 4).1), (3, .int (rt z u 4).2), (4, .int (nI 4))] := by
            have h9 := lv_sub (l' := [(0, .ref o), (1, .int (nI u)), (2, .int (rt z u 3).1), (3, .int (rt z u 3).2), (4, .int (nI 4))]) hl [1, 2, 3, 4, 0] rfl
            rw [show (.int (rt z u 4).1 : Value) = .int (rt z u 3).1 from congrArg Value.int (congrArg Prod.fst (iF_f (fun h => c20 h.1)))]
            rw [show (.int (rt z u 4).2 : Value) = .int (rt z u 3).2 from congrArg Value.int (congrArg Prod.snd (iF_f (fun h => c20 h.1)))]
            exact h9
          exact ih 4 (by omega) (by omega) (by omega) _ hl
        · refine lv_iload hx hb dX7_routeOf_23 (lv_at hl 4 rfl) ?_
          refine lv_iconst (v := nI 1) hx hb dX7_routeOf_25 (by decide) ?_
          refine n_ine (tgt := 45) hx hb dX7_routeOf_26 (by decide) (by omega) (by omega) (fun c26 => ?_) (fun h => absurd h (by decide))
          refine lv_aload_n hx hb dX7_routeOf_45 rfl (lv_at hl 0 rfl) ?_
          refine lv_iload_n hx hb dX7_routeOf_46 rfl (lv_at hl 1 rfl) ?_
          refine lv_iload hx hb dX7_routeOf_47 (lv_at hl 4 rfl) ?_
          refine k_V (As := [.int (nI u), .int (nI 3)]) (rest := []) S hK (c_X7_brings l E o z w u 3 hI hu c10) gX7_routeOf_X7_brings rfl hd_X7_brings ⟨rfl, rfl⟩ ⟨Nat.le_of_ble_eq_true rfl, Nat.le_of_ble_eq_true rfl⟩ (k_recv hK hP.1 rfl) hP rfl hl.1 rfl (Nat.le_of_ble_eq_true rfl) dX7_routeOf_49 ⟨Nat.le_of_ble_eq_true rfl, Nat.le_of_ble_eq_true rfl⟩ ?_
          refine lv_istore (lv' := [(5, .int (brg z u 3)), (0, .ref o), (1, .int (nI u)), (2, .int (rt z u 3).1), (3, .int (rt z u 3).2), (4, .int (nI 3))]) hx hb dX7_routeOf_52 hl (by decide) rfl (fun ls hl => ?_)
          refine lv_iload_n hx hb dX7_routeOf_54 rfl (lv_at hl 3 rfl) ?_
          refine lv_iconst (v := (-1)) hx hb dX7_routeOf_55 (by decide) ?_
          refine lv_icmp_eq (tgt := 65) hx hb dX7_routeOf_56 (by decide) (fun c56 => ?_) (fun c56 => ?_)
          · refine lv_iconst (v := nI 1) hx hb dX7_routeOf_65 (by decide) ?_
            refine lv_goto (tgt := 70) hx hb dX7_routeOf_66 (by decide) ?_
            refine lv_istore (lv' := [(6, .int (nI 1)), (5, .int (brg z u 3)), (0, .ref o), (1, .int (nI u)), (2, .int (rt z u 3).1), (3, .int (rt z u 3).2), (4, .int (nI 3))]) hx hb dX7_routeOf_70 hl (by decide) rfl (fun ls hl => ?_)
            refine lv_iload hx hb dX7_routeOf_72 (lv_at hl 0 rfl) ?_
            refine lv_if_eq (tgt := 82) hx hb dX7_routeOf_74 (by decide) (fun h => absurd h (by decide)) (fun c74 => ?_)
            refine lv_iload hx hb dX7_routeOf_77 (lv_at hl 6 rfl) ?_
            refine lv_goto (tgt := 83) hx hb dX7_routeOf_79 (by decide) ?_
            refine lv_istore_n (lv' := [(2, .int (nI 3)), (6, .int (nI 1)), (5, .int (brg z u 3)), (0, .ref o), (1, .int (nI u)), (3, .int (rt z u 3).2), (4, .int (nI 3))]) hx hb dX7_routeOf_83 rfl hl (by decide) rfl (fun ls hl => ?_)
            refine lv_iload hx hb dX7_routeOf_84 (lv_at hl 1 rfl) ?_
            refine lv_if_eq (tgt := 94) hx hb dX7_routeOf_86 (by decide) (fun h => absurd h (by decide)) (fun c86 => ?_)
            refine lv_iload hx hb dX7_routeOf_89 (lv_at hl 2 rfl) ?_
            refine lv_goto (tgt := 95) hx hb dX7_routeOf_91 (by decide) ?_
            refine lv_istore_n (lv' := [(3, .int (brg z u 3)), (2, .int (nI 3)), (6, .int (nI 1)), (5, .int (brg z u 3)), (0, .ref o), (1, .int (nI u)), (4, .int (nI 3))]) hx hb dX7_routeOf_95 rfl hl (by decide) rfl (fun ls hl => ?_)
            refine lv_iinc (v := nI 4) (lv' := [(4, .int (nI 4)), (3, .int (brg z u 3)), (2, .int (nI 3)), (6, .int (nI 1)), (5, .int (brg z u 3)), (0, .ref o), (1, .int (nI u))]) hx hb dX7_routeOf_96 hl (k := 6) rfl (by decide) (by decide) rfl (fun ls hl => ?_)
            refine lv_goto (tgt := 7) hx hb dX7_routeOf_99 (by decide) ?_
            have hl : lv_has ls 7 [(0, .ref o), (1, .int (nI u)), (2, .int (rt z u 4).1), (3, .int (rt z u 4).2), (4, .int (nI 4))] := by
              have h9 := lv_sub (l' := [(0, .ref o), (1, .int (nI u)), (2, .int (nI 3)), (3, .int (brg z u 3)), (4, .int (nI 4))]) hl [5, 6, 2, 1, 0] rfl
              rw [show (.int (rt z u 4).1 : Value) = .int (nI 3) from congrArg Value.int (congrArg Prod.fst (iF_t ⟨c20, Or.inl c56⟩))]
              rw [show (.int (rt z u 4).2 : Value) = .int (brg z u 3) from congrArg Value.int ((congrArg Prod.snd (iF_t ⟨c20, Or.inl c56⟩)).trans (show mon z u 3 = _ from iF_f (by decide)))]
              exact h9
            exact ih 4 (by omega) (by omega) (by omega) _ hl
          · refine lv_iload hx hb dX7_routeOf_59 (lv_at hl 0 rfl) ?_
            refine lv_iload_n hx hb dX7_routeOf_61 rfl (lv_at hl 4 rfl) ?_
            refine lv_icmp_le (tgt := 69) hx hb dX7_routeOf_62 (by decide) (fun c62 => ?_) (fun c62 => ?_)
            · refine lv_iconst (v := nI 0) hx hb dX7_routeOf_69 (by decide) ?_
              refine lv_istore (lv' := [(6, .int (nI 0)), (5, .int (brg z u 3)), (0, .ref o), (1, .int (nI u)), (2, .int (rt z u 3).1), (3, .int (rt z u 3).2), (4, .int (nI 3))]) hx hb dX7_routeOf_70 hl (by decide) rfl (fun ls hl => ?_)
              refine lv_iload hx hb dX7_routeOf_72 (lv_at hl 0 rfl) ?_
              refine lv_if_eq (tgt := 82) hx hb dX7_routeOf_74 (by decide) (fun c74 => ?_) (fun h => absurd h (by decide))
              refine lv_iload_n hx hb dX7_routeOf_82 rfl (lv_at hl 4 rfl) ?_
              refine lv_istore_n (lv' := [(2, .int (rt z u 3).1), (6, .int (nI 0)), (5, .int (brg z u 3)), (0, .ref o), (1, .int (nI u)), (3, .int (rt z u 3).2), (4, .int (nI 3))]) hx hb dX7_routeOf_83 rfl hl (by decide) rfl (fun ls hl => ?_)
              refine lv_iload hx hb dX7_routeOf_84 (lv_at hl 1 rfl) ?_
              refine lv_if_eq (tgt := 94) hx hb dX7_routeOf_86 (by decide) (fun c86 => ?_) (fun h => absurd h (by decide))
              refine lv_iload_n hx hb dX7_routeOf_94 rfl (lv_at hl 5 rfl) ?_
              refine lv_istore_n (lv' := [(3, .int (rt z u 3).2), (2, .int (rt z u 3).1), (6, .int (nI 0)), (5, .int (brg z u 3)), (0, .ref o), (1, .int (nI u)), (4, .int (nI 3))]) hx hb dX7_routeOf_95 rfl hl (by decide) rfl (fun ls hl => ?_)
              refine lv_iinc (v := nI 4) (lv' := [(4, .int (nI 4)), (3, .int (rt z u 3).2), (2, .int (rt z u 3).1), (6, .int (nI 0)), (5, .int (brg z u 3)), (0, .ref o), (1, .int (nI u))]) hx hb dX7_routeOf_96 hl (k := 6) rfl (by decide) (by decide) rfl (fun ls hl => ?_)
              refine lv_goto (tgt := 7) hx hb dX7_routeOf_99 (by decide) ?_
              have hl : lv_has ls 7 [(0, .ref o), (1, .int (nI u)), (2, .int (rt z u 4).1), (3, .int (rt z u 4).2), (4, .int (nI 4))] := by
                have h9 := lv_sub (l' := [(0, .ref o), (1, .int (nI u)), (2, .int (rt z u 3).1), (3, .int (rt z u 3).2), (4, .int (nI 4))]) hl [5, 6, 2, 1, 0] rfl
                rw [show (.int (rt z u 4).1 : Value) = .int (rt z u 3).1 from congrArg Value.int (congrArg Prod.fst (iF_f (fun h => h.2.elim c56 (fun q => q (by rw [(show mon z u 3 = _ from iF_f (by decide))]; exact c62)))))]
                rw [show (.int (rt z u 4).2 : Value) = .int (rt z u 3).2 from congrArg Value.int (congrArg Prod.snd (iF_f (fun h => h.2.elim c56 (fun q => q (by rw [(show mon z u 3 = _ from iF_f (by decide))]; exact c62)))))]
                exact h9
              exact ih 4 (by omega) (by omega) (by omega) _ hl
            · refine lv_iconst (v := nI 1) hx hb dX7_routeOf_65 (by decide) ?_
              refine lv_goto (tgt := 70) hx hb dX7_routeOf_66 (by decide) ?_
              refine lv_istore (lv' := [(6, .int (nI 1)), (5, .int (brg z u 3)), (0, .ref o), (1, .int (nI u)), (2, .int (rt z u 3).1), (3, .int (rt z u 3).2), (4, .int (nI 3))]) hx hb dX7_routeOf_70 hl (by decide) rfl (fun ls hl => ?_)
              refine lv_iload hx hb dX7_routeOf_72 (lv_at hl 0 rfl) ?_
              refine lv_if_eq (tgt := 82) hx hb dX7_routeOf_74 (by decide) (fun h => absurd h (by decide)) (fun c74 => ?_)
              refine lv_iload hx hb dX7_routeOf_77 (lv_at hl 6 rfl) ?_
              refine lv_goto (tgt := 83) hx hb dX7_routeOf_79 (by decide) ?_
              refine lv_istore_n (lv' := [(2, .int (nI 3)), (6, .int (nI 1)), (5, .int (brg z u 3)), (0, .ref o), (1, .int (nI u)), (3, .int (rt z u 3).2), (4, .int (nI 3))]) hx hb dX7_routeOf_83 rfl hl (by decide) rfl (fun ls hl => ?_)
              refine lv_iload hx hb dX7_routeOf_84 (lv_at hl 1 rfl) ?_
              refine lv_if_eq (tgt := 94) hx hb dX7_routeOf_86 (by decide) (fun h => absurd h (by decide)) (fun c86 => ?_)
              refine lv_iload hx hb dX7_routeOf_89 (lv_at hl 2 rfl) ?_
              refine lv_goto (tgt := 95) hx hb dX7_routeOf_91 (by decide) ?_
              refine lv_istore_n (lv' := [(3, .int (brg z u 3)), (2, .int (nI 3)), (6, .int (nI 1)), (5, .int (brg z u 3)), (0, .ref o), (1, .int (nI u)), (4, .int (nI 3))]) hx hb dX7_routeOf_95 rfl hl (by decide) rfl (fun ls hl => ?_)
              refine lv_iinc (v := nI 4) (lv' := [(4, .int (nI 4)), (3, .int (brg z u 3)), (2, .int (nI 3)), (6, .int (nI 1)), (5, .int (brg z u 3)), (0, .ref o), (1, .int (nI u))]) hx hb dX7_routeOf_96 hl (k := 6) rfl (by decide) (by decide) rfl (fun ls hl => ?_)
              refine lv_goto (tgt := 7) hx hb dX7_routeOf_99 (by decide) ?_
              have hl : lv_has ls 7 [(0, .ref o), (1, .int (nI u)), (2, .int (rt z u 4).1), (3, .int (rt z u 4).2), (4, .int (nI 4))] := by
                have h9 := lv_sub (l' := [(0, .ref o), (1, .int (nI u)), (2, .int (nI 3)), (3, .int (brg z u 3)), (4, .int (nI 4))]) hl [5, 6, 2, 1, 0] rfl
                rw [show (.int (rt z u 4).1 : Value) = .int (nI 3) from congrArg Value.int (congrArg Prod.fst (iF_t ⟨c20, Or.inr (by rw [(show mon z u 3 = _ from iF_f (by decide))]; exact c62)⟩))]
                rw [show (.int (rt z u 4).2 : Value) = .int (brg z u 3) from congrArg Value.int ((congrArg Prod.snd (iF_t ⟨c20, Or.inr (by rw [(show mon z u 3 = _ from iF_f (by decide))]; exact c62)⟩)).trans (show mon z u 3 = _ from iF_f (by decide)))]
                exact h9
              exact ih 4 (by omega) (by omega) (by omega) _ hl
      · have hl : lv_has ls 7 [(0, .ref o), (1, .int (nI u)), (2, .int (rt z u 4).1), (3, .int (rt z u 4).2), (4, .int (nI 4))] := hl
        refine lv_iload hx hb dX7_routeOf_7 (lv_at hl 4 rfl) ?_
        refine lv_iconst (v := nI 5) hx hb dX7_routeOf_9 (by decide) ?_
        refine n_ige (tgt := 102) hx hb dX7_routeOf_10 (by decide) (by omega) (by omega) (fun h => absurd h (by decide)) (fun c10 => ?_)
        refine lv_aload_n hx hb dX7_routeOf_13 rfl (lv_at hl 0 rfl) ?_
        refine lv_iload_n hx hb dX7_routeOf_14 rfl (lv_at hl 1 rfl) ?_
        refine lv_iload hx hb dX7_routeOf_15 (lv_at hl 4 rfl) ?_
        refine k_V (As := [.int (nI u), .int (nI 4)]) (rest := []) S hK (c_X7_why_4 l E o z w u hI hu) gX7_routeOf_X7_why rfl hd_X7_why ⟨rfl, rfl⟩ ⟨Nat.le_of_ble_eq_true rfl, Nat.le_of_ble_eq_true rfl⟩ (k_recv hK hP.1 rfl) hP rfl hl.1 rfl (Nat.le_of_ble_eq_true rfl) dX7_routeOf_17 ⟨Nat.le_of_ble_eq_true rfl, Nat.le_of_ble_eq_true rfl⟩ ?_
        refine lv_if_ne (tgt := 96) hx hb dX7_routeOf_20 (by decide) (fun c20 => ?_) (fun c20 => ?_)
        · refine lv_iinc (v := nI 5) (lv' := [(4, .int (nI 5)), (0, .ref o), (1, .int (nI u)), (2, .int (rt z u 4).1), (3, .int (rt z u 4).2)]) hx hb dX7_routeOf_96 hl (k := 4) rfl (by decide) (by decide) rfl (fun ls hl => ?_)
          refine lv_goto (tgt := 7) hx hb dX7_routeOf_99 (by decide) ?_
          have hl : lv_has ls 7 [(0, .ref o), (1, .int (nI u)), (2, .int (rt z u 5).1), (3, .int (rt z u 5).2), (4, .int (nI 5))] := by
            have h9 := lv_sub (l' := [(0, .ref o), (1, .int (nI u)), (2, .int (rt z u 4).1), (3, .int (rt z u 4).2), (4, .int (nI 5))]) hl [1, 2, 3, 4, 0] rfl
            rw [show (.int (rt z u 5).1 : Value) = .int (rt z u 4).1 from congrArg Value.int (congrArg Prod.fst (iF_f (fun h => c20 h.1)))]
            rw [show (.int (rt z u 5).2 : Value) = .int (rt z u 4).2 from congrArg Value.int (congrArg Prod.snd (iF_f (fun h => c20 h.1)))]
            exact h9
          exact ih 5 (by omega) (by omega) (by omega) _ hl
        · refine lv_iload hx hb dX7_routeOf_23 (lv_at hl 4 rfl) ?_
          refine lv_iconst (v := nI 1) hx hb dX7_routeOf_25 (by decide) ?_
          refine n_ine (tgt := 45) hx hb dX7_routeOf_26 (by decide) (by omega) (by omega) (fun c26 => ?_) (fun h => absurd h (by decide))
          refine lv_aload_n hx hb dX7_routeOf_45 rfl (lv_at hl 0 rfl) ?_
          refine lv_iload_n hx hb dX7_routeOf_46 rfl (lv_at hl 1 rfl) ?_
          refine lv_iload hx hb dX7_routeOf_47 (lv_at hl 4 rfl) ?_
          refine k_V (As := [.int (nI u), .int (nI 4)]) (rest := []) S hK (c_X7_brings l E o z w u 4 hI hu c10) gX7_routeOf_X7_brings rfl hd_X7_brings ⟨rfl, rfl⟩ ⟨Nat.le_of_ble_eq_true rfl, Nat.le_of_ble_eq_true rfl⟩ (k_recv hK hP.1 rfl) hP rfl hl.1 rfl (Nat.le_of_ble_eq_true rfl) dX7_routeOf_49 ⟨Nat.le_of_ble_eq_true rfl, Nat.le_of_ble_eq_true rfl⟩ ?_
          refine lv_istore (lv' := [(5, .int (brg z u 4)), (0, .ref o), (1, .int (nI u)), (2, .int (rt z u 4).1), (3, .int (rt z u 4).2), (4, .int (nI 4))]) hx hb dX7_routeOf_52 hl (by decide) rfl (fun ls hl => ?_)
          refine lv_iload_n hx hb dX7_routeOf_54 rfl (lv_at hl 3 rfl) ?_
          refine lv_iconst (v := (-1)) hx hb dX7_routeOf_55 (by decide) ?_
          refine lv_icmp_eq (tgt := 65) hx hb dX7_routeOf_56 (by decide) (fun c56 => ?_) (fun c56 => ?_)
          · refine lv_iconst (v := nI 1) hx hb dX7_routeOf_65 (by decide) ?_
            refine lv_goto (tgt := 70) hx hb dX7_routeOf_66 (by decide) ?_
            refine lv_istore (lv' := [(6, .int (nI 1)), (5, .int (brg z u 4)), (0, .ref o), (1, .int (nI u)), (2, .int (rt z u 4).1), (3, .int (rt z u 4).2), (4, .int (nI 4))]) hx hb dX7_routeOf_70 hl (by decide) rfl (fun ls hl => ?_)
            refine lv_iload hx hb dX7_routeOf_72 (lv_at hl 0 rfl) ?_
            refine lv_if_eq (tgt := 82) hx hb dX7_routeOf_74 (by decide) (fun h => absurd h (by decide)) (fun c74 => ?_)
            refine lv_iload hx hb dX7_routeOf_77 (lv_at hl 6 rfl) ?_
            refine lv_goto (tgt := 83) hx hb dX7_routeOf_79 (by decide) ?_
            refine lv_istore_n (lv' := [(2, .int (nI 4)), (6, .int (nI 1)), (5, .int (brg z u 4)), (0, .ref o), (1, .int (nI u)), (3, .int (rt z u 4).2), (4, .int (nI 4))]) hx hb dX7_routeOf_83 rfl hl (by decide) rfl (fun ls hl => ?_)
            refine lv_iload hx hb dX7_routeOf_84 (lv_at hl 1 rfl) ?_
            refine lv_if_eq (tgt := 94) hx hb dX7_routeOf_86 (by decide) (fun h => absurd h (by decide)) (fun c86 => ?_)
            refine lv_iload hx hb dX7_routeOf_89 (lv_at hl 2 rfl) ?_
            refine lv_goto (tgt := 95) hx hb dX7_routeOf_91 (by decide) ?_
            refine lv_istore_n (lv' := [(3, .int (brg z u 4)), (2, .int (nI 4)), (6, .int (nI 1)), (5, .int (brg z u 4)), (0, .ref o), (1, .int (nI u)), (4, .int (nI 4))]) hx hb dX7_routeOf_95 rfl hl (by decide) rfl (fun ls hl => ?_)
            refine lv_iinc (v := nI 5) (lv' := [(4, .int (nI 5)), (3, .int (brg z u 4)), (2, .int (nI 4)), (6, .int (nI 1)), (5, .int (brg z u 4)), (0, .ref o), (1, .int (nI u))]) hx hb dX7_routeOf_96 hl (k := 6) rfl (by decide) (by decide) rfl (fun ls hl => ?_)
            refine lv_goto (tgt := 7) hx hb dX7_routeOf_99 (by decide) ?_
            have hl : lv_has ls 7 [(0, .ref o), (1, .int (nI u)), (2, .int (rt z u 5).1), (3, .int (rt z u 5).2), (4, .int (nI 5))] := by
              have h9 := lv_sub (l' := [(0, .ref o), (1, .int (nI u)), (2, .int (nI 4)), (3, .int (brg z u 4)), (4, .int (nI 5))]) hl [5, 6, 2, 1, 0] rfl
              rw [show (.int (rt z u 5).1 : Value) = .int (nI 4) from congrArg Value.int (congrArg Prod.fst (iF_t ⟨c20, Or.inl c56⟩))]
              rw [show (.int (rt z u 5).2 : Value) = .int (brg z u 4) from congrArg Value.int ((congrArg Prod.snd (iF_t ⟨c20, Or.inl c56⟩)).trans (show mon z u 4 = _ from iF_f (by decide)))]
              exact h9
            exact ih 5 (by omega) (by omega) (by omega) _ hl
          · refine lv_iload hx hb dX7_routeOf_59 (lv_at hl 0 rfl) ?_
            refine lv_iload_n hx hb dX7_routeOf_61 rfl (lv_at hl 4 rfl) ?_
            refine lv_icmp_le (tgt := 69) hx hb dX7_routeOf_62 (by decide) (fun c62 => ?_) (fun c62 => ?_)
            · refine lv_iconst (v := nI 0) hx hb dX7_routeOf_69 (by decide) ?_
              refine lv_istore (lv' := [(6, .int (nI 0)), (5, .int (brg z u 4)), (0, .ref o), (1, .int (nI u)), (2, .int (rt z u 4).1), (3, .int (rt z u 4).2), (4, .int (nI 4))]) hx hb dX7_routeOf_70 hl (by decide) rfl (fun ls hl => ?_)
              refine lv_iload hx hb dX7_routeOf_72 (lv_at hl 0 rfl) ?_
              refine lv_if_eq (tgt := 82) hx hb dX7_routeOf_74 (by decide) (fun c74 => ?_) (fun h => absurd h (by decide))
              refine lv_iload_n hx hb dX7_routeOf_82 rfl (lv_at hl 4 rfl) ?_
              refine lv_istore_n (lv' := [(2, .int (rt z u 4).1), (6, .int (nI 0)), (5, .int (brg z u 4)), (0, .ref o), (1, .int (nI u)), (3, .int (rt z u 4).2), (4, .int (nI 4))]) hx hb dX7_routeOf_83 rfl hl (by decide) rfl (fun ls hl => ?_)
              refine lv_iload hx hb dX7_routeOf_84 (lv_at hl 1 rfl) ?_
              refine lv_if_eq (tgt := 94) hx hb dX7_routeOf_86 (by decide) (fun c86 => ?_) (fun h => absurd h (by decide))
              refine lv_iload_n hx hb dX7_routeOf_94 rfl (lv_at hl 5 rfl) ?_
              refine lv_istore_n (lv' := [(3, .int (rt z u 4).2), (2, .int (rt z u 4).1), (6, .int (nI 0)), (5, .int (brg z u 4)), (0, .ref o), (1, .int (nI u)), (4, .int (nI 4))]) hx hb dX7_routeOf_95 rfl hl (by decide) rfl (fun ls hl => ?_)
              refine lv_iinc (v := nI 5) (lv' := [(4, .int (nI 5)), (3, .int (rt z u 4).2), (2, .int (rt z u 4).1), (6, .int (nI 0)), (5, .int (brg z u 4)), (0, .ref o), (1, .int (nI u))]) hx hb dX7_routeOf_96 hl (k := 6) rfl (by decide) (by decide) rfl (fun ls hl => ?_)
              refine lv_goto (tgt := 7) hx hb dX7_routeOf_99 (by decide) ?_
              have hl : lv_has ls 7 [(0, .ref o), (1, .int (nI u)), (2, .int (rt z u 5).1), (3, .int (rt z u 5).2), (4, .int (nI 5))] := by
                have h9 := lv_sub (l' := [(0, .ref o), (1, .int (nI u)), (2, .int (rt z u 4).1), (3, .int (rt z u 4).2), (4, .int (nI 5))]) hl [5, 6, 2, 1, 0] rfl
                rw [show (.int (rt z u 5).1 : Value) = .int (rt z u 4).1 from congrArg Value.int (congrArg Prod.fst (iF_f (fun h => h.2.elim c56 (fun q => q (by rw [(show mon z u 4 = _ from iF_f (by decide))]; exact c62)))))]
                rw [show (.int (rt z u 5).2 : Value) = .int (rt z u 4).2 from congrArg Value.int (congrArg Prod.snd (iF_f (fun h => h.2.elim c56 (fun q => q (by rw [(show mon z u 4 = _ from iF_f (by decide))]; exact c62)))))]
                exact h9
              exact ih 5 (by omega) (by omega) (by omega) _ hl
            · refine lv_iconst (v := nI 1) hx hb dX7_routeOf_65 (by decide) ?_
              refine lv_goto (tgt := 70) hx hb dX7_routeOf_66 (by decide) ?_
              refine lv_istore (lv' := [(6, .int (nI 1)), (5, .int (brg z u 4)), (0, .ref o), (1, .int (nI u)), (2, .int (rt z u 4).1), (3, .int (rt z u 4).2), (4, .int (nI 4))]) hx hb dX7_routeOf_70 hl (by decide) rfl (fun ls hl => ?_)
              refine lv_iload hx hb dX7_routeOf_72 (lv_at hl 0 rfl) ?_
              refine lv_if_eq (tgt := 82) hx hb dX7_routeOf_74 (by decide) (fun h => absurd h (by decide)) (fun c74 => ?_)
              refine lv_iload hx hb dX7_routeOf_77 (lv_at hl 6 rfl) ?_
              refine lv_goto (tgt := 83) hx hb dX7_routeOf_79 (by decide) ?_
              refine lv_istore_n (lv' := [(2, .int (nI 4)), (6, .int (nI 1)), (5, .int (brg z u 4)), (0, .ref o), (1, .int (nI u)), (3, .int (rt z u 4).2), (4, .int (nI 4))]) hx hb dX7_routeOf_83 rfl hl (by decide) rfl (fun ls hl => ?_)
              refine lv_iload hx hb dX7_routeOf_84 (lv_at hl 1 rfl) ?_
              refine lv_if_eq (tgt := 94) hx hb dX7_routeOf_86 (by decide) (fun h => absurd h (by decide)) (fun c86 => ?_)
              refine lv_iload hx hb dX7_routeOf_89 (lv_at hl 2 rfl) ?_
              refine lv_goto (tgt := 95) hx hb dX7_routeOf_91 (by decide) ?_
              refine lv_istore_n (lv' := [(3, .int (brg z u 4)), (2, .int (nI 4)), (6, .int (nI 1)), (5, .int (brg z u 4)), (0, .ref o), (1, .int (nI u)), (4, .int (nI 4))]) hx hb dX7_routeOf_95 rfl hl (by decide) rfl (fun ls hl => ?_)
              refine lv_iinc (v := nI 5) (lv' := [(4, .int (nI 5)), (3, .int (brg z u 4)), (2, .int (nI 4)), (6, .int (nI 1)), (5, .int (brg z u 4)), (0, .ref o), (1, .int (nI u))]) hx hb dX7_routeOf_96 hl (k := 6) rfl (by decide) (by decide) rfl (fun ls hl => ?_)
              refine lv_goto (tgt := 7) hx hb dX7_routeOf_99 (by decide) ?_
              have hl : lv_has ls 7 [(0, .ref o), (1, .int (nI u)), (2, .int (rt z u 5).1), (3, .int (rt z u 5).2), (4, .int (nI 5))] := by
                have h9 := lv_sub (l' := [(0, .ref o), (1, .int (nI u)), (2, .int (nI 4)), (3, .int (brg z u 4)), (4, .int (nI 5))]) hl [5, 6, 2, 1, 0] rfl
                rw [show (.int (rt z u 5).1 : Value) = .int (nI 4) from congrArg Value.int (congrArg Prod.fst (iF_t ⟨c20, Or.inr (by rw [(show mon z u 4 = _ from iF_f (by decide))]; exact c62)⟩))]
                rw [show (.int (rt z u 5).2 : Value) = .int (brg z u 4) from congrArg Value.int ((congrArg Prod.snd (iF_t ⟨c20, Or.inr (by rw [(show mon z u 4 = _ from iF_f (by decide))]; exact c62)⟩)).trans (show mon z u 4 = _ from iF_f (by decide)))]
                exact h9
              exact ih 5 (by omega) (by omega) (by omega) _ hl
      · have hl : lv_has ls 7 [(0, .ref o), (1, .int (nI u)), (2, .int (rt z u 5).1), (3, .int (rt z u 5).2), (4, .int (nI 5))] := hl
        refine lv_iload hx hb dX7_routeOf_7 (lv_at hl 4 rfl) ?_
        refine lv_iconst (v := nI 5) hx hb dX7_routeOf_9 (by decide) ?_
        refine n_ige (tgt := 102) hx hb dX7_routeOf_10 (by decide) (by omega) (by omega) (fun c10 => ?_) (fun h => absurd h (by decide))
        refine lv_iload_n hx hb dX7_routeOf_102 rfl (lv_at hl 2 rfl) ?_
        exact k_iret hx hb hr hlk dX7_routeOf_103 (rfl)
  refine lv_iconst (v := (-1)) hx hb dX7_routeOf_0 (by decide) ?_
  refine lv_istore_n (lv' := [(2, .int (-1)), (0, .ref o), (1, .int (nI u))]) hx hb dX7_routeOf_1 rfl hl (by decide) rfl (fun ls hl => ?_)
  refine lv_iconst (v := nI 0) hx hb dX7_routeOf_2 (by decide) ?_
  refine lv_istore_n (lv' := [(3, .int (nI 0)), (2, .int (-1)), (0, .ref o), (1, .int (nI u))]) hx hb dX7_routeOf_3 rfl hl (by decide) rfl (fun ls hl => ?_)
  refine lv_iconst (v := nI 1) hx hb dX7_routeOf_4 (by decide) ?_
  refine lv_istore (lv' := [(4, .int (nI 1)), (3, .int (nI 0)), (2, .int (-1)), (0, .ref o), (1, .int (nI u))]) hx hb dX7_routeOf_5 hl (by decide) rfl (fun ls hl => ?_)
  have hl : lv_has ls 7 [(0, .ref o), (1, .int (nI u)), (2, .int (rt z u 1).1), (3, .int (rt z u 1).2), (4, .int (nI 1))] := by
    have h9 := lv_sub (l' := [(0, .ref o), (1, .int (nI u)), (2, .int (-1)), (3, .int (nI 0)), (4, .int (nI 1))]) hl [3, 4, 2, 1, 0] rfl
    rw [show (.int (rt z u 1).1 : Value) = .int (-1) from congrArg Value.int rfl]
    rw [show (.int (rt z u 1).2 : Value) = .int (nI 0) from congrArg Value.int rfl]
    exact h9
  exact J7 (5 + 1) 1 (by omega) (by omega) (by omega) _ hl
def rm_X7_workAt : Room := { frames := 5, cells := 0, slots := 0, locals := 117 }
theorem hd_X7_workAt : k_hd1 yX7_workAt RX7 1 := by decide +kernel
set_option maxHeartbeats 4000000 in
set_option maxRecDepth 100000 in
theorem c_X7_workAt (l : Launch) (E : ke_E) (o : Nat) (z : Nat → Int32) (w : md_w) (n : Nat) (hI : iv z) (hn : n < 20) : Met l yX7_workAt wsX7_workAt rm_X7_workAt (kp E [.ref o, .int (nI n)] (md E o z w)) (qp (some (.int (oI (wa z n).2)))) 0 0 nof := by
  refine k_hd (cc := cX7_workAt) (maxL := 5) (ret := (some .int)) (by decide) rfl (Nat.le_of_ble_eq_true rfl) ?_
  intro p e s m below meth c ls S hr hlk hnm hK hP hl
  have hx := S.1
  have hb := S.2.1
  have hts := S.2.2.2.2
  have hP : md E o z w s.heap := hP
  have hl : lv_has ls 5 [(0, .ref o), (1, .int (nI n))] := hl
  have hcn := iv_c hI
  have J12 : ∀ (n_ : Nat), ∀ (i : Nat), ∀ (b : Option Nat), i ≤ n → (wa z i).2 = b → n < i + n_ → ∀ (ls : Array Slot), lv_has ls 5 [(0, .ref o), (1, .int (nI n)), (2, .int (wa z i).1), (3, .int (oI b)), (4, .int (nI i))] → W p l e (headSpec wsX7_workAt rm_X7_workAt).room s m ([.ref o, .int (nI n)] : List Value).toArray below meth c s.heap [] 0 0 (MQ below (qp (some (.int (oI (wa z n).2)))) ([.ref o, .int (nI n)] : List Value).toArray s 0 0 nof) (F0 m 12 ls []) := by
    intro n_
    induction n_ with
    | zero =>
      intro i b hi hbb hn_ _ _
      exact absurd hn_ (by omega)
    | succ n_ ih =>
      intro i b hi hbb hn_ ls hl
      refine lv_iload hx hb dX7_workAt_12 (lv_at hl 4 rfl) ?_
      refine lv_iload_n hx hb dX7_workAt_14 rfl (lv_at hl 1 rfl) ?_
      refine n_ige (tgt := 42) hx hb dX7_workAt_15 (by decide) (by omega) (by omega) (fun c15 => ?_) (fun c15 => ?_)
      · refine lv_iload_n hx hb dX7_workAt_42 rfl (lv_at hl 3 rfl) ?_
        exact k_iret hx hb hr hlk dX7_workAt_43 (by rw [show n = i by omega, hbb])
      · rcases b with _ | j
        · have hl : lv_has ls 5 [(0, .ref o), (1, .int (nI n)), (2, .int (wa z i).1), (3, .int (-1)), (4, .int (nI i))] := hl
          refine lv_iload_n hx hb dX7_workAt_18 rfl (lv_at hl 3 rfl) ?_
          refine lv_iconst (v := (-1)) hx hb dX7_workAt_19 (by decide) ?_
          refine lv_icmp_eq (tgt := 42) hx hb dX7_workAt_20 (by decide) (fun c20 => ?_) (fun h => absurd rfl h)
          refine lv_iload_n hx hb dX7_workAt_42 rfl (lv_at hl 3 rfl) ?_
          exact k_iret hx hb hr hlk dX7_workAt_43 (by rw [show n = i + (n - i) by omega, wa_stop hbb, hbb]; rfl)
        · have hl : lv_has ls 5 [(0, .ref o), (1, .int (nI n)), (2, .int (wa z i).1), (3, .int (nI j)), (4, .int (nI i))] := hl
          have hj : j < cn z := wa_lt hbb
          refine lv_iload_n hx hb dX7_workAt_18 rfl (lv_at hl 3 rfl) ?_
          refine lv_iconst (v := (-1)) hx hb dX7_workAt_19 (by decide) ?_
          refine lv_icmp_eq (tgt := 42) hx hb dX7_workAt_20 (by decide) (fun h => absurd h (nI_nm1 (by omega))) (fun c20 => ?_)
          refine lv_iload_n hx hb dX7_workAt_23 rfl (lv_at hl 2 rfl) ?_
          refine lv_iconst (v := nI 1) hx hb dX7_workAt_24 (by decide) ?_
          refine lv_iload_n hx hb dX7_workAt_25 rfl (lv_at hl 3 rfl) ?_
          refine lv_ishl hx hb dX7_workAt_26 ?_
          refine lv_ior hx hb dX7_workAt_27 ?_
          refine lv_istore_n (lv' := [(2, .int ((wa z i).1 ||| ((nI 1) <<< (nI j &&& 31)))), (0, .ref o), (1, .int (nI n)), (3, .int (nI j)), (4, .int (nI i))]) hx hb dX7_workAt_28 rfl hl (by decide) rfl (fun ls hl => ?_)
          refine lv_aload_n hx hb dX7_workAt_29 rfl (lv_at hl 1 rfl) ?_
          refine lv_iload_n hx hb dX7_workAt_30 rfl (lv_at hl 0 rfl) ?_
          refine lv_iconst (v := nI 1) hx hb dX7_workAt_31 (by decide) ?_
          refine k_V (As := [.int ((wa z i).1 ||| ((nI 1) <<< (nI j &&& 31))), .int (nI 1)]) (rest := []) S hK (c_X7_nextWork l E o z w ((wa z i).1 ||| ((nI 1) <<< (nI j &&& 31))) (nI 1) hI) gX7_workAt_X7_nextWork rfl hd_X7_nextWork ⟨rfl, rfl⟩ ⟨Nat.le_of_ble_eq_true rfl, Nat.le_of_ble_eq_true rfl⟩ (k_recv hK hP.1 rfl) hP rfl hl.1 rfl (Nat.le_of_ble_eq_true rfl) dX7_workAt_32 ⟨Nat.le_of_ble_eq_true rfl, Nat.le_of_ble_eq_true rfl⟩ ?_
          refine lv_istore_n (lv' := [(3, .int (oI (nw z ((wa z i).1 ||| ((nI 1) <<< (nI j &&& 31))) (nI 1) (cn z)))), (2, .int ((wa z i).1 ||| ((nI 1) <<< (nI j &&& 31)))), (0, .ref o), (1, .int (nI n)), (4, .int (nI i))]) hx hb dX7_workAt_35 rfl hl (by decide) rfl (fun ls hl => ?_)
          refine lv_iinc (v := nI (i + 1)) (lv' := [(4, .int (nI (i + 1))), (3, .int (oI (nw z ((wa z i).1 ||| ((nI 1) <<< (nI j &&& 31))) (nI 1) (cn z)))), (2, .int ((wa z i).1 ||| ((nI 1) <<< (nI j &&& 31)))), (0, .ref o), (1, .int (nI n))]) hx hb dX7_workAt_36 hl (k := 4) rfl (inc_1 _) (by decide) rfl (fun ls hl => ?_)
          refine lv_goto (tgt := 12) hx hb dX7_workAt_39 (by decide) ?_
          have hl : lv_has ls 5 [(0, .ref o), (1, .int (nI n)), (2, .int (wa z (i + 1)).1), (3, .int (oI (wa z (i + 1)).2)), (4, .int (nI (i + 1)))] := by
            have h9 := lv_sub (l' := [(0, .ref o), (1, .int (nI n)), (2, .int ((wa z i).1 ||| ((nI 1) <<< (nI j &&& 31)))), (3, .int (oI (nw z ((wa z i).1 ||| ((nI 1) <<< (nI j &&& 31))) (nI 1) (cn z)))), (4, .int (nI (i + 1)))]) hl [3, 4, 2, 1, 0] rfl
            rw [show (.int (wa z (i + 1)).1 : Value) = .int ((wa z i).1 ||| ((nI 1) <<< (nI j &&& 31))) from congrArg Value.int (congrArg Prod.fst (wa_s hbb))]
            rw [show (.int (oI (wa z (i + 1)).2) : Value) = .int (oI (nw z ((wa z i).1 ||| ((nI 1) <<< (nI j &&& 31))) (nI 1) (cn z))) from congrArg Value.int (congrArg (fun x => oI (Prod.snd x)) (wa_s hbb))]
            exact h9
          exact ih (i + 1) (wa z (i + 1)).2 (by omega) rfl (by omega) _ hl
  refine lv_iconst (v := nI 0) hx hb dX7_workAt_0 (by decide) ?_
  refine lv_istore_n (lv' := [(2, .int (nI 0)), (0, .ref o), (1, .int (nI n))]) hx hb dX7_workAt_1 rfl hl (by decide) rfl (fun ls hl => ?_)
  refine lv_aload_n hx hb dX7_workAt_2 rfl (lv_at hl 1 rfl) ?_
  refine lv_iload_n hx hb dX7_workAt_3 rfl (lv_at hl 0 rfl) ?_
  refine lv_iconst (v := nI 1) hx hb dX7_workAt_4 (by decide) ?_
  refine k_V (As := [.int (nI 0), .int (nI 1)]) (rest := []) S hK (c_X7_nextWork l E o z w (nI 0) (nI 1) hI) gX7_workAt_X7_nextWork rfl hd_X7_nextWork ⟨rfl, rfl⟩ ⟨Nat.le_of_ble_eq_true rfl, Nat.le_of_ble_eq_true rfl⟩ (k_recv hK hP.1 rfl) hP rfl hl.1 rfl (Nat.le_of_ble_eq_true rfl) dX7_workAt_5 ⟨Nat.le_of_ble_eq_true rfl, Nat.le_of_ble_eq_true rfl⟩ ?_
  refine lv_istore_n (lv' := [(3, .int (oI (nw z (nI 0) (nI 1) (cn z)))), (2, .int (nI 0)), (0, .ref o), (1, .int (nI n))]) hx hb dX7_workAt_8 rfl hl (by decide) rfl (fun ls hl => ?_)
  refine lv_iconst (v := nI 0) hx hb dX7_workAt_9 (by decide) ?_
  refine lv_istore (lv' := [(4, .int (nI 0)), (3, .int (oI (nw z (nI 0) (nI 1) (cn z)))), (2, .int (nI 0)), (0, .ref o), (1, .int (nI n))]) hx hb dX7_workAt_10 hl (by decide) rfl (fun ls hl => ?_)
  have hl : lv_has ls 5 [(0, .ref o), (1, .int (nI n)), (2, .int (wa z 0).1), (3, .int (oI (wa z 0).2)), (4, .int (nI 0))] := by
    have h9 := lv_sub (l' := [(0, .ref o), (1, .int (nI n)), (2, .int (nI 0)), (3, .int (oI (nw z (nI 0) (nI 1) (cn z)))), (4, .int (nI 0))]) hl [3, 4, 2, 1, 0] rfl
    rw [show (.int (wa z 0).1 : Value) = .int (nI 0) from congrArg Value.int rfl]
    rw [show (.int (oI (wa z 0).2) : Value) = .int (oI (nw z (nI 0) (nI 1) (cn z))) from congrArg Value.int rfl]
    exact h9
  exact J12 (n + 1) 0 (wa z 0).2 (by omega) rfl (by omega) _ hl
def rm_X7_claimAt : Room := { frames := 3, cells := 0, slots := 0, locals := 65 }
theorem hd_X7_claimAt : k_hd1 yX7_claimAt RX7 1 := by decide +kernel
set_option maxHeartbeats 4000000 in
set_option maxRecDepth 100000 in
theorem c_X7_claimAt (l : Launch) (E : ke_E) (o : Nat) (z : Nat → Int32) (w : md_w) (n : Nat) (hI : iv z) (hn : n < 20) : Met l yX7_claimAt wsX7_claimAt rm_X7_claimAt (kp E [.ref o, .int (nI n)] (md E o z w)) (qp (some (.int (oI (ca z n).2)))) 0 0 nof := by
  refine k_hd (cc := cX7_claimAt) (maxL := 5) (ret := (some .int)) (by decide) rfl (Nat.le_of_ble_eq_true rfl) ?_
  intro p e s m below meth c ls S hr hlk hnm hK hP hl
  have hx := S.1
  have hb := S.2.1
  have hts := S.2.2.2.2
  have hP : md E o z w s.heap := hP
  have hl : lv_has ls 5 [(0, .ref o), (1, .int (nI n))] := hl
  have hcn := iv_c hI
  have J11 : ∀ (n_ : Nat), ∀ (i : Nat), ∀ (b : Option Nat), i ≤ n → (ca z i).2 = b → n < i + n_ → ∀ (ls : Array Slot), lv_has ls 5 [(0, .ref o), (1, .int (nI n)), (2, .int (ca z i).1), (3, .int (oI b)), (4, .int (nI i))] → W p l e (headSpec wsX7_claimAt rm_X7_claimAt).room s m ([.ref o, .int (nI n)] : List Value).toArray below meth c s.heap [] 0 0 (MQ below (qp (some (.int (oI (ca z n).2)))) ([.ref o, .int (nI n)] : List Value).toArray s 0 0 nof) (F0 m 11 ls []) := by
    intro n_
    induction n_ with
    | zero =>
      intro i b hi hbb hn_ _ _
      exact absurd hn_ (by omega)
    | succ n_ ih =>
      intro i b hi hbb hn_ ls hl
      refine lv_iload hx hb dX7_claimAt_11 (lv_at hl 4 rfl) ?_
      refine lv_iload_n hx hb dX7_claimAt_13 rfl (lv_at hl 1 rfl) ?_
      refine n_ige (tgt := 40) hx hb dX7_claimAt_14 (by decide) (by omega) (by omega) (fun c14 => ?_) (fun c14 => ?_)
      · refine lv_iload_n hx hb dX7_claimAt_40 rfl (lv_at hl 3 rfl) ?_
        exact k_iret hx hb hr hlk dX7_claimAt_41 (by rw [show n = i by omega, hbb])
      · rcases b with _ | j
        · have hl : lv_has ls 5 [(0, .ref o), (1, .int (nI n)), (2, .int (ca z i).1), (3, .int (-1)), (4, .int (nI i))] := hl
          refine lv_iload_n hx hb dX7_claimAt_17 rfl (lv_at hl 3 rfl) ?_
          refine lv_iconst (v := (-1)) hx hb dX7_claimAt_18 (by decide) ?_
          refine lv_icmp_eq (tgt := 40) hx hb dX7_claimAt_19 (by decide) (fun c19 => ?_) (fun h => absurd rfl h)
          refine lv_iload_n hx hb dX7_claimAt_40 rfl (lv_at hl 3 rfl) ?_
          exact k_iret hx hb hr hlk dX7_claimAt_41 (by rw [show n = i + (n - i) by omega, ca_stop hbb, hbb]; rfl)
        · have hl : lv_has ls 5 [(0, .ref o), (1, .int (nI n)), (2, .int (ca z i).1), (3, .int (nI j)), (4, .int (nI i))] := hl
          have hj : j < cn z := ca_lt hbb
          refine lv_iload_n hx hb dX7_claimAt_17 rfl (lv_at hl 3 rfl) ?_
          refine lv_iconst (v := (-1)) hx hb dX7_claimAt_18 (by decide) ?_
          refine lv_icmp_eq (tgt := 40) hx hb dX7_claimAt_19 (by decide) (fun h => absurd h (nI_nm1 (by omega))) (fun c19 => ?_)
          refine lv_iload_n hx hb dX7_claimAt_22 rfl (lv_at hl 2 rfl) ?_
          refine lv_iconst (v := nI 1) hx hb dX7_claimAt_23 (by decide) ?_
          refine lv_iload_n hx hb dX7_claimAt_24 rfl (lv_at hl 3 rfl) ?_
          refine lv_ishl hx hb dX7_claimAt_25 ?_
          refine lv_ior hx hb dX7_claimAt_26 ?_
          refine lv_istore_n (lv' := [(2, .int ((ca z i).1 ||| ((nI 1) <<< (nI j &&& 31)))), (0, .ref o), (1, .int (nI n)), (3, .int (nI j)), (4, .int (nI i))]) hx hb dX7_claimAt_27 rfl hl (by decide) rfl (fun ls hl => ?_)
          refine lv_aload_n hx hb dX7_claimAt_28 rfl (lv_at hl 1 rfl) ?_
          refine lv_iload_n hx hb dX7_claimAt_29 rfl (lv_at hl 0 rfl) ?_
          refine k_V (As := [.int ((ca z i).1 ||| ((nI 1) <<< (nI j &&& 31)))]) (rest := []) S hK (c_X7_nextClaim l E o z w ((ca z i).1 ||| ((nI 1) <<< (nI j &&& 31))) hI) gX7_claimAt_X7_nextClaim rfl hd_X7_nextClaim ⟨rfl, rfl⟩ ⟨Nat.le_of_ble_eq_true rfl, Nat.le_of_ble_eq_true rfl⟩ (k_recv hK hP.1 rfl) hP rfl hl.1 rfl (Nat.le_of_ble_eq_true rfl) dX7_claimAt_30 ⟨Nat.le_of_ble_eq_true rfl, Nat.le_of_ble_eq_true rfl⟩ ?_
          refine lv_istore_n (lv' := [(3, .int (oI (nc z ((ca z i).1 ||| ((nI 1) <<< (nI j &&& 31))) (cn z)))), (2, .int ((ca z i).1 ||| ((nI 1) <<< (nI j &&& 31)))), (0, .ref o), (1, .int (nI n)), (4, .int (nI i))]) hx hb dX7_claimAt_33 rfl hl (by decide) rfl (fun ls hl => ?_)
          refine lv_iinc (v := nI (i + 1)) (lv' := [(4, .int (nI (i + 1))), (3, .int (oI (nc z ((ca z i).1 ||| ((nI 1) <<< (nI j &&& 31))) (cn z)))), (2, .int ((ca z i).1 ||| ((nI 1) <<< (nI j &&& 31)))), (0, .ref o), (1, .int (nI n))]) hx hb dX7_claimAt_34 hl (k := 4) rfl (inc_1 _) (by decide) rfl (fun ls hl => ?_)
          refine lv_goto (tgt := 11) hx hb dX7_claimAt_37 (by decide) ?_
          have hl : lv_has ls 5 [(0, .ref o), (1, .int (nI n)), (2, .int (ca z (i + 1)).1), (3, .int (oI (ca z (i + 1)).2)), (4, .int (nI (i + 1)))] := by
            have h9 := lv_sub (l' := [(0, .ref o), (1, .int (nI n)), (2, .int ((ca z i).1 ||| ((nI 1) <<< (nI j &&& 31)))), (3, .int (oI (nc z ((ca z i).1 ||| ((nI 1) <<< (nI j &&& 31))) (cn z)))), (4, .int (nI (i + 1)))]) hl [3, 4, 2, 1, 0] rfl
            rw [show (.int (ca z (i + 1)).1 : Value) = .int ((ca z i).1 ||| ((nI 1) <<< (nI j &&& 31))) from congrArg Value.int (congrArg Prod.fst (ca_s hbb))]
            rw [show (.int (oI (ca z (i + 1)).2) : Value) = .int (oI (nc z ((ca z i).1 ||| ((nI 1) <<< (nI j &&& 31))) (cn z))) from congrArg Value.int (congrArg (fun x => oI (Prod.snd x)) (ca_s hbb))]
            exact h9
          exact ih (i + 1) (ca z (i + 1)).2 (by omega) rfl (by omega) _ hl
  refine lv_iconst (v := nI 0) hx hb dX7_claimAt_0 (by decide) ?_
  refine lv_istore_n (lv' := [(2, .int (nI 0)), (0, .ref o), (1, .int (nI n))]) hx hb dX7_claimAt_1 rfl hl (by decide) rfl (fun ls hl => ?_)
  refine lv_aload_n hx hb dX7_claimAt_2 rfl (lv_at hl 1 rfl) ?_
  refine lv_iload_n hx hb dX7_claimAt_3 rfl (lv_at hl 0 rfl) ?_
  refine k_V (As := [.int (nI 0)]) (rest := []) S hK (c_X7_nextClaim l E o z w (nI 0) hI) gX7_claimAt_X7_nextClaim rfl hd_X7_nextClaim ⟨rfl, rfl⟩ ⟨Nat.le_of_ble_eq_true rfl, Nat.le_of_ble_eq_true rfl⟩ (k_recv hK hP.1 rfl) hP rfl hl.1 rfl (Nat.le_of_ble_eq_true rfl) dX7_claimAt_4 ⟨Nat.le_of_ble_eq_true rfl, Nat.le_of_ble_eq_true rfl⟩ ?_
  refine lv_istore_n (lv' := [(3, .int (oI (nc z (nI 0) (cn z)))), (2, .int (nI 0)), (0, .ref o), (1, .int (nI n))]) hx hb dX7_claimAt_7 rfl hl (by decide) rfl (fun ls hl => ?_)
  refine lv_iconst (v := nI 0) hx hb dX7_claimAt_8 (by decide) ?_
  refine lv_istore (lv' := [(4, .int (nI 0)), (3, .int (oI (nc z (nI 0) (cn z)))), (2, .int (nI 0)), (0, .ref o), (1, .int (nI n))]) hx hb dX7_claimAt_9 hl (by decide) rfl (fun ls hl => ?_)
  have hl : lv_has ls 5 [(0, .ref o), (1, .int (nI n)), (2, .int (ca z 0).1), (3, .int (oI (ca z 0).2)), (4, .int (nI 0))] := by
    have h9 := lv_sub (l' := [(0, .ref o), (1, .int (nI n)), (2, .int (nI 0)), (3, .int (oI (nc z (nI 0) (cn z)))), (4, .int (nI 0))]) hl [3, 4, 2, 1, 0] rfl
    rw [show (.int (ca z 0).1 : Value) = .int (nI 0) from congrArg Value.int rfl]
    rw [show (.int (oI (ca z 0).2) : Value) = .int (oI (nc z (nI 0) (cn z))) from congrArg Value.int rfl]
    exact h9
  exact J11 (n + 1) 0 (ca z 0).2 (by omega) rfl (by omega) _ hl
def rm_X7_claimableOf : Room := { frames := 4, cells := 0, slots := 0, locals := 91 }
theorem hd_X7_claimableOf : k_hd1 yX7_claimableOf RX7 1 := by decide +kernel
set_option maxHeartbeats 4000000 in
set_option maxRecDepth 100000 in
theorem c_X7_claimableOf (l : Launch) (E : ke_E) (o : Nat) (z : Nat → Int32) (w : md_w) (u : Nat) (hI : iv z) (hu : u < cn z) : Met l yX7_claimableOf wsX7_claimableOf rm_X7_claimableOf (kp E [.ref o, .int (nI u)] (md E o z w)) (qp (some (.int (amT z u)))) 0 0 nof := by
  refine k_hd (cc := cX7_claimableOf) (maxL := 2) (ret := (some .int)) (by decide) rfl (Nat.le_of_ble_eq_true rfl) ?_
  intro p e s m below meth c ls S hr hlk hnm hK hP hl
  have hx := S.1
  have hb := S.2.1
  have hts := S.2.2.2.2
  have hP : md E o z w s.heap := hP
  have hl : lv_has ls 2 [(0, .ref o), (1, .int (nI u))] := hl
  have hcn := iv_c hI
  refine lv_aload_n hx hb dX7_claimableOf_0 rfl (lv_at hl 0 rfl) ?_
  refine lv_iload_n hx hb dX7_claimableOf_1 rfl (lv_at hl 1 rfl) ?_
  refine k_V (As := [.int (nI u)]) (rest := []) S hK (c_X7_isTested l E o z w u hI hu) gX7_claimableOf_X7_isTested rfl hd_X7_isTested ⟨rfl, rfl⟩ ⟨Nat.le_of_ble_eq_true rfl, Nat.le_of_ble_eq_true rfl⟩ (k_recv hK hP.1 rfl) hP rfl hl.1 rfl (Nat.le_of_ble_eq_true rfl) dX7_claimableOf_2 ⟨Nat.le_of_ble_eq_true rfl, Nat.le_of_ble_eq_true rfl⟩ ?_
  refine b_eq (tgt := 16) hx hb dX7_claimableOf_5 (by decide) (fun c5 => ?_) (fun c5 => ?_)
  · refine lv_iconst (v := (-1)) hx hb dX7_claimableOf_16 (by decide) ?_
    exact k_iret hx hb hr hlk dX7_claimableOf_17 (iF_f c5)
  · refine lv_aload_n hx hb dX7_claimableOf_8 rfl (lv_at hl 0 rfl) ?_
    refine lv_iload_n hx hb dX7_claimableOf_9 rfl (lv_at hl 1 rfl) ?_
    refine k_V (As := [.int (nI u)]) (rest := []) S hK (c_X7_amountOf l E o z w u hI hu) gX7_claimableOf_X7_amountOf rfl hd_X7_amountOf ⟨rfl, rfl⟩ ⟨Nat.le_of_ble_eq_true rfl, Nat.le_of_ble_eq_true rfl⟩ (k_recv hK hP.1 rfl) hP rfl hl.1 rfl (Nat.le_of_ble_eq_true rfl) dX7_claimableOf_10 ⟨Nat.le_of_ble_eq_true rfl, Nat.le_of_ble_eq_true rfl⟩ ?_
    refine lv_goto (tgt := 17) hx hb dX7_claimableOf_13 (by decide) ?_
    exact k_iret hx hb hr hlk dX7_claimableOf_17 (iF_t c5)
def rm_X7_workOf : Room := { frames := 2, cells := 0, slots := 0, locals := 41 }
theorem hd_X7_workOf : k_hd1 yX7_workOf RX7 0 := by decide +kernel
set_option maxHeartbeats 4000000 in
set_option maxRecDepth 100000 in
theorem c_X7_workOf (l : Launch) (E : ke_E) (o : Nat) (z : Nat → Int32) (w : md_w) (hI : iv z) : Met l yX7_workOf wsX7_workOf rm_X7_workOf (kp E [.ref o] (md E o z w)) (qp (some (.int (wdV z)))) 0 0 nof := by
  refine k_hd (cc := cX7_workOf) (maxL := 3) (ret := (some .int)) (by decide) rfl (Nat.le_of_ble_eq_true rfl) ?_
  intro p e s m below meth c ls S hr hlk hnm hK hP hl
  have hx := S.1
  have hb := S.2.1
  have hts := S.2.2.2.2
  have hP : md E o z w s.heap := hP
  have hl : lv_has ls 3 [(0, .ref o)] := hl
  have hcn := iv_c hI
  have hpd := iv_pd1 hI
  have J4 : ∀ (n_ : Nat), ∀ (i : Nat), i ≤ cn z → cn z < i + n_ → ∀ (ls : Array Slot), lv_has ls 3 [(0, .ref o), (1, .int (wkN z i)), (2, .int (nI i))] → W p l e (headSpec wsX7_workOf rm_X7_workOf).room s m ([.ref o] : List Value).toArray below meth c s.heap [] 0 0 (MQ below (qp (some (.int (wdV z)))) ([.ref o] : List Value).toArray s 0 0 nof) (F0 m 4 ls []) := by
    intro n_
    induction n_ with
    | zero =>
      intro i hi hn_ _ _
      exact absurd hn_ (by omega)
    | succ n_ ih =>
      intro i hi hn_ ls hl
      refine lv_iload_n hx hb dX7_workOf_4 rfl (lv_at hl 2 rfl) ?_
      refine lv_aload_n hx hb dX7_workOf_5 rfl (lv_at hl 0 rfl) ?_
      refine k_get S hK hP.1 rfl (fun _ h => List.mem_cons_of_mem _ (List.mem_append_right _ (h))) 0 (by decide) (List.mem_cons_of_mem _ (List.mem_append_left _ (List.mem_of_getElem? (i := 0) rfl))) rfl (v := .ref (o + 1)) rfl dX7_workOf_6 ?_
      refine lv_iconst (v := nI 0) hx hb dX7_workOf_9 (by decide) ?_
      refine k_iald hx hb hK hP.2.1 (by omega) (by decide) (v := nI (cn z)) (iv_n hI) dX7_workOf_10 ?_
      refine n_ige (tgt := 52) hx hb dX7_workOf_11 (by decide) (by omega) (by omega) (fun c11 => ?_) (fun c11 => ?_)
      · refine lv_iload_n hx hb dX7_workOf_52 rfl (lv_at hl 1 rfl) ?_
        refine lv_aload_n hx hb dX7_workOf_53 rfl (lv_at hl 0 rfl) ?_
        refine k_get S hK hP.1 rfl (fun _ h => List.mem_cons_of_mem _ (List.mem_append_right _ (h))) 0 (by decide) (List.mem_cons_of_mem _ (List.mem_append_left _ (List.mem_of_getElem? (i := 0) rfl))) rfl (v := .ref (o + 1)) rfl dX7_workOf_54 ?_
        refine lv_bipush (v := nI 10) hx hb dX7_workOf_57 (by decide) ?_
        refine k_iald hx hb hK hP.2.1 (by omega) (by decide) (v := nI (pd z)) (iv_pd hI) dX7_workOf_59 ?_
        refine lv_iadd hx hb dX7_workOf_60 ?_
        refine lv_iconst (v := nI 1) hx hb dX7_workOf_61 (by decide) ?_
        refine lv_isub hx hb dX7_workOf_62 ?_
        refine lv_aload_n hx hb dX7_workOf_63 rfl (lv_at hl 0 rfl) ?_
        refine k_get S hK hP.1 rfl (fun _ h => List.mem_cons_of_mem _ (List.mem_append_right _ (h))) 0 (by decide) (List.mem_cons_of_mem _ (List.mem_append_left _ (List.mem_of_getElem? (i := 0) rfl))) rfl (v := .ref (o + 1)) rfl dX7_workOf_64 ?_
        refine lv_bipush (v := nI 10) hx hb dX7_workOf_67 (by decide) ?_
        refine k_iald hx hb hK hP.2.1 (by omega) (by decide) (v := nI (pd z)) (iv_pd hI) dX7_workOf_69 ?_
        refine lv_idiv hx hb dX7_workOf_70 (nI_ne0 (by omega) (by omega)) ?_
        exact k_iret hx hb hr hlk dX7_workOf_71 (by rw [show i = cn z by omega]; rfl)
      · refine lv_iload_n hx hb dX7_workOf_14 rfl (lv_at hl 1 rfl) ?_
        refine lv_aload_n hx hb dX7_workOf_15 rfl (lv_at hl 0 rfl) ?_
        refine k_get S hK hP.1 rfl (fun _ h => List.mem_cons_of_mem _ (List.mem_append_right _ (h))) 0 (by decide) (List.mem_cons_of_mem _ (List.mem_append_left _ (List.mem_of_getElem? (i := 0) rfl))) rfl (v := .ref (o + 1)) rfl dX7_workOf_16 ?_
        refine lv_iload_n hx hb dX7_workOf_19 rfl (lv_at hl 2 rfl) ?_
        refine k_S (As := [.int (nI i)]) (rest := [.ref (o + 1), .int (wkN z i)]) S hK (c_X7_at l E i) gX7_workOf_X7_at rfl hd_X7_at ⟨rfl, rfl⟩ ⟨Nat.le_of_ble_eq_true rfl, Nat.le_of_ble_eq_true rfl⟩ trivial rfl hl.1 rfl (Nat.le_of_ble_eq_true rfl) dX7_workOf_20 ⟨Nat.le_of_ble_eq_true rfl, Nat.le_of_ble_eq_true rfl⟩ ?_
        refine lv_bipush (v := nI 6) hx hb dX7_workOf_23 (by decide) ?_
        refine n_iadd (n := 13*i + 68) hx hb dX7_workOf_25 (by omega) ?_
        refine k_iald hx hb hK hP.2.1 (by omega) (by decide) (v := z (13*i + 68)) rfl dX7_workOf_26 ?_
        refine lv_iconst (v := nI 1) hx hb dX7_workOf_27 (by decide) ?_
        refine lv_icmp_ne (tgt := 43) hx hb dX7_workOf_28 (by decide) (fun c28 => ?_) (fun c28 => ?_)
        · refine lv_iconst (v := nI 0) hx hb dX7_workOf_43 (by decide) ?_
          refine lv_iadd hx hb dX7_workOf_44 ?_
          refine lv_istore_n (lv' := [(1, .int ((wkN z i) + (nI 0))), (0, .ref o), (2, .int (nI i))]) hx hb dX7_workOf_45 rfl hl (by decide) rfl (fun ls hl => ?_)
          refine lv_iinc (v := nI (i + 1)) (lv' := [(2, .int (nI (i + 1))), (1, .int ((wkN z i) + (nI 0))), (0, .ref o)]) hx hb dX7_workOf_46 hl (k := 2) rfl (inc_1 _) (by decide) rfl (fun ls hl => ?_)
          refine lv_goto (tgt := 4) hx hb dX7_workOf_49 (by decide) ?_
          have hl : lv_has ls 3 [(0, .ref o), (1, .int (wkN z (i + 1))), (2, .int (nI (i + 1)))] := by
            have h9 := lv_sub (l' := [(0, .ref o), (1, .int ((wkN z i) + (nI 0))), (2, .int (nI (i + 1)))]) hl [2, 1, 0] rfl
            rw [show (.int (wkN z (i + 1)) : Value) = .int ((wkN z i) + (nI 0)) from congrArg Value.int (congrArg (fun x => wkN z i + x) (bI_f (fun h => c28 h.1)))]
            exact h9
          exact ih (i + 1) (by omega) (by omega) _ hl
        · refine lv_aload_n hx hb dX7_workOf_31 rfl (lv_at hl 0 rfl) ?_
          refine lv_iload_n hx hb dX7_workOf_32 rfl (lv_at hl 2 rfl) ?_
          refine k_V (As := [.int (nI i)]) (rest := [.int (wkN z i)]) S hK (c_X7_isHeld l E o z w i hI c11) gX7_workOf_X7_isHeld rfl hd_X7_isHeld ⟨rfl, rfl⟩ ⟨Nat.le_of_ble_eq_true rfl, Nat.le_of_ble_eq_true rfl⟩ (k_recv hK hP.1 rfl) hP rfl hl.1 rfl (Nat.le_of_ble_eq_true rfl) dX7_workOf_33 ⟨Nat.le_of_ble_eq_true rfl, Nat.le_of_ble_eq_true rfl⟩ ?_
          refine b_ne (tgt := 43) hx hb dX7_workOf_36 (by decide) (fun c36 => ?_) (fun c36 => ?_)
          · refine lv_iconst (v := nI 0) hx hb dX7_workOf_43 (by decide) ?_
            refine lv_iadd hx hb dX7_workOf_44 ?_
            refine lv_istore_n (lv' := [(1, .int ((wkN z i) + (nI 0))), (0, .ref o), (2, .int (nI i))]) hx hb dX7_workOf_45 rfl hl (by decide) rfl (fun ls hl => ?_)
            refine lv_iinc (v := nI (i + 1)) (lv' := [(2, .int (nI (i + 1))), (1, .int ((wkN z i) + (nI 0))), (0, .ref o)]) hx hb dX7_workOf_46 hl (k := 2) rfl (inc_1 _) (by decide) rfl (fun ls hl => ?_)
            refine lv_goto (tgt := 4) hx hb dX7_workOf_49 (by decide) ?_
            have hl : lv_has ls 3 [(0, .ref o), (1, .int (wkN z (i + 1))), (2, .int (nI (i + 1)))] := by
              have h9 := lv_sub (l' := [(0, .ref o), (1, .int ((wkN z i) + (nI 0))), (2, .int (nI (i + 1)))]) hl [2, 1, 0] rfl
              rw [show (.int (wkN z (i + 1)) : Value) = .int ((wkN z i) + (nI 0)) from congrArg Value.int (congrArg (fun x => wkN z i + x) (bI_f (fun h => h.2 c36)))]
              exact h9
            exact ih (i + 1) (by omega) (by omega) _ hl
          · refine lv_iconst (v := nI 1) hx hb dX7_workOf_39 (by decide) ?_
            refine lv_goto (tgt := 44) hx hb dX7_workOf_40 (by decide) ?_
            refine lv_iadd hx hb dX7_workOf_44 ?_
            refine lv_istore_n (lv' := [(1, .int ((wkN z i) + (nI 1))), (0, .ref o), (2, .int (nI i))]) hx hb dX7_workOf_45 rfl hl (by decide) rfl (fun ls hl => ?_)
            refine lv_iinc (v := nI (i + 1)) (lv' := [(2, .int (nI (i + 1))), (1, .int ((wkN z i) + (nI 1))), (0, .ref o)]) hx hb dX7_workOf_46 hl (k := 2) rfl (inc_1 _) (by decide) rfl (fun ls hl => ?_)
            refine lv_goto (tgt := 4) hx hb dX7_workOf_49 (by decide) ?_
            have hl : lv_has ls 3 [(0, .ref o), (1, .int (wkN z (i + 1))), (2, .int (nI (i + 1)))] := by
              have h9 := lv_sub (l' := [(0, .ref o), (1, .int ((wkN z i) + (nI 1))), (2, .int (nI (i + 1)))]) hl [2, 1, 0] rfl
              rw [show (.int (wkN z (i + 1)) : Value) = .int ((wkN z i) + (nI 1)) from congrArg Value.int (congrArg (fun x => wkN z i + x) (bI_t ⟨c28, c36⟩))]
              exact h9
            exact ih (i + 1) (by omega) (by omega) _ hl
  refine lv_iconst (v := nI 0) hx hb dX7_workOf_0 (by decide) ?_
  refine lv_istore_n (lv' := [(1, .int (nI 0)), (0, .ref o)]) hx hb dX7_workOf_1 rfl hl (by decide) rfl (fun ls hl => ?_)
  refine lv_iconst (v := nI 0) hx hb dX7_workOf_2 (by decide) ?_
  refine lv_istore_n (lv' := [(2, .int (nI 0)), (1, .int (nI 0)), (0, .ref o)]) hx hb dX7_workOf_3 rfl hl (by decide) rfl (fun ls hl => ?_)
  have hl : lv_has ls 3 [(0, .ref o), (1, .int (wkN z 0)), (2, .int (nI 0))] := by
    have h9 := lv_sub (l' := [(0, .ref o), (1, .int (nI 0)), (2, .int (nI 0))]) hl [2, 1, 0] rfl
    rw [show (.int (wkN z 0) : Value) = .int (nI 0) from congrArg Value.int rfl]
    exact h9
  exact J4 (cn z + 1) 0 (by omega) (by omega) _ hl
