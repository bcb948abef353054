def rm_X6_isIndex : Room := { frames := 0, cells := 0, slots := 0, locals := 0 }
theorem hd_X6_isIndex : k_hd1 yX6_isIndex RX6 2 := by decide +kernel
set_option maxHeartbeats 4000000 in
set_option maxRecDepth 100000 in
theorem c_X6_isIndex_n (l : Launch) (E : ke_E) (i : Nat) (n : Nat) (hi : i < 2147483648) (hn : n < 2147483648) : Met l yX6_isIndex wsX6_isIndex rm_X6_isIndex (kp E [.int (nI i), .int (nI n)] (fun _ => True)) (qp (some (.int (bI (i < n))))) 0 0 nof := by
  refine k_hd (cc := cX6_isIndex) (maxL := 2) (ret := (some .boolean)) (by decide) rfl (Nat.le_of_ble_eq_true rfl) ?_
  intro p e s m below meth c ls S hr hlk hnm hK hP hl
  have hx := S.1
  have hb := S.2.1
  have hts := S.2.2.2.2
  have hl : lv_has ls 2 [(0, .int (nI i)), (1, .int (nI n))] := hl
  refine lv_iload_n hx hb dX6_isIndex_0 rfl (lv_at hl 0 rfl) ?_
  refine lv_if_lt (tgt := 13) hx hb dX6_isIndex_1 (by decide) (fun h => absurd h (nI_pos hi)) (fun c1 => ?_)
  refine lv_iload_n hx hb dX6_isIndex_4 rfl (lv_at hl 0 rfl) ?_
  refine lv_iload_n hx hb dX6_isIndex_5 rfl (lv_at hl 1 rfl) ?_
  refine n_ige (tgt := 13) hx hb dX6_isIndex_6 (by decide) (by omega) (by omega) (fun c6 => ?_) (fun c6 => ?_)
  · refine lv_iconst (v := nI 0) hx hb dX6_isIndex_13 (by decide) ?_
    exact k_bret hx hb hr hlk dX6_isIndex_14 rfl (bI_f (by omega))
  · refine lv_iconst (v := nI 1) hx hb dX6_isIndex_9 (by decide) ?_
    refine lv_goto (tgt := 14) hx hb dX6_isIndex_10 (by decide) ?_
    exact k_bret hx hb hr hlk dX6_isIndex_14 rfl (bI_t c6)
set_option maxHeartbeats 4000000 in
set_option maxRecDepth 100000 in
theorem c_X6_isIndex (l : Launch) (E : ke_E) (x : Int32) (n : Nat) (hn : n < 2147483648) : Met l yX6_isIndex wsX6_isIndex rm_X6_isIndex (kp E [.int x, .int (nI n)] (fun _ => True)) (qp (some (.int (bI (inR x n))))) 0 0 nof := by
  refine k_hd (cc := cX6_isIndex) (maxL := 2) (ret := (some .boolean)) (by decide) rfl (Nat.le_of_ble_eq_true rfl) ?_
  intro p e s m below meth c ls S hr hlk hnm hK hP hl
  have hx := S.1
  have hb := S.2.1
  have hts := S.2.2.2.2
  have hl : lv_has ls 2 [(0, .int x), (1, .int (nI n))] := hl
  refine lv_iload_n hx hb dX6_isIndex_0 rfl (lv_at hl 0 rfl) ?_
  refine lv_if_lt (tgt := 13) hx hb dX6_isIndex_1 (by decide) (fun c1 => ?_) (fun c1 => ?_)
  · refine lv_iconst (v := nI 0) hx hb dX6_isIndex_13 (by decide) ?_
    exact k_bret hx hb hr hlk dX6_isIndex_14 rfl (bI_f (inR_no hn (Or.inl c1)))
  · refine lv_iload_n hx hb dX6_isIndex_4 rfl (lv_at hl 0 rfl) ?_
    refine lv_iload_n hx hb dX6_isIndex_5 rfl (lv_at hl 1 rfl) ?_
    refine lv_icmp_ge (tgt := 13) hx hb dX6_isIndex_6 (by decide) (fun c6 => ?_) (fun c6 => ?_)
    · refine lv_iconst (v := nI 0) hx hb dX6_isIndex_13 (by decide) ?_
      exact k_bret hx hb hr hlk dX6_isIndex_14 rfl (bI_f (inR_no hn (Or.inr c6)))
    · refine lv_iconst (v := nI 1) hx hb dX6_isIndex_9 (by decide) ?_
      refine lv_goto (tgt := 14) hx hb dX6_isIndex_10 (by decide) ?_
      exact k_bret hx hb hr hlk dX6_isIndex_14 rfl (bI_t (inR_in hn c1 c6))
def rm_X6_inside : Room := { frames := 0, cells := 0, slots := 0, locals := 0 }
theorem hd_X6_inside : k_hd1 yX6_inside RX6 2 := by decide +kernel
set_option maxHeartbeats 4000000 in
set_option maxRecDepth 100000 in
theorem c_X6_inside (l : Launch) (E : ke_E) (i : Nat) (n : Nat) (h1 : i < n) (hn : n < 2147483648) : Met l yX6_inside wsX6_inside rm_X6_inside (kp E [.int (nI i), .int (nI n)] (fun _ => True)) (qp (some (.int (nI i)))) 0 0 nof := by
  refine k_hd (cc := cX6_inside) (maxL := 2) (ret := (some .int)) (by decide) rfl (Nat.le_of_ble_eq_true rfl) ?_
  intro p e s m below meth c ls S hr hlk hnm hK hP hl
  have hx := S.1
  have hb := S.2.1
  have hts := S.2.2.2.2
  have hl : lv_has ls 2 [(0, .int (nI i)), (1, .int (nI n))] := hl
  refine lv_iload_n hx hb dX6_inside_0 rfl (lv_at hl 0 rfl) ?_
  refine lv_if_lt (tgt := 13) hx hb dX6_inside_1 (by decide) (fun h => absurd h (nI_pos (by omega))) (fun c1 => ?_)
  refine lv_iload_n hx hb dX6_inside_4 rfl (lv_at hl 0 rfl) ?_
  refine lv_iload_n hx hb dX6_inside_5 rfl (lv_at hl 1 rfl) ?_
  refine n_ige (tgt := 13) hx hb dX6_inside_6 (by decide) (by omega) (by omega) (fun h => absurd h (by omega)) (fun c6 => ?_)
  refine lv_iload_n hx hb dX6_inside_9 rfl (lv_at hl 0 rfl) ?_
  refine lv_goto (tgt := 14) hx hb dX6_inside_10 (by decide) ?_
  exact k_iret hx hb hr hlk dX6_inside_14 (rfl)
def rm_X4_isHere : Room := { frames := 0, cells := 0, slots := 0, locals := 0 }
theorem hd_X4_isHere : k_hd1 yX4_isHere RX4 0 := by decide +kernel
set_option maxHeartbeats 4000000 in
set_option maxRecDepth 100000 in
theorem c_X4_isHere (l : Launch) (E : ke_E) (d : Nat) (z : Nat → Int32) (u : Nat) (hu : u < cn z) : Met l yX4_isHere wsX4_isHere rm_X4_isHere (kp E [.ref (d + 2*u + 19)] (dz E d z)) (qp (some (.int (bI (her z u))))) 0 0 nof := by
  refine k_hd (cc := cX4_isHere) (maxL := 1) (ret := (some .boolean)) (by decide) rfl (Nat.le_of_ble_eq_true rfl) ?_
  intro p e s m below meth c ls S hr hlk hnm hK hP hl
  have hx := S.1
  have hb := S.2.1
  have hts := S.2.2.2.2
  have hP : dz E d z s.heap := hP
  have hl : lv_has ls 1 [(0, .ref (d + 2*u + 19))] := hl
  refine lv_aload_n hx hb dX4_isHere_0 rfl (lv_at hl 0 rfl) ?_
  refine k_get S hK (dz_u hP u hu) rfl (fun _ h => List.mem_cons_of_mem _ (List.mem_append_right _ (h))) 3 (by decide) (List.mem_cons_of_mem _ (List.mem_append_left _ (List.mem_of_getElem? (i := 0) rfl))) rfl (v := .int (z (13*u + 68))) rfl dX4_isHere_1 ?_
  refine lv_if_eq (tgt := 15) hx hb dX4_isHere_4 (by decide) (fun c4 => ?_) (fun c4 => ?_)
  · refine lv_iconst (v := nI 1) hx hb dX4_isHere_15 (by decide) ?_
    refine lv_goto (tgt := 20) hx hb dX4_isHere_16 (by decide) ?_
    exact k_bret hx hb hr hlk dX4_isHere_20 rfl (bI_t (Or.inl c4))
  · refine lv_aload_n hx hb dX4_isHere_7 rfl (lv_at hl 0 rfl) ?_
    refine k_get S hK (dz_u hP u hu) rfl (fun _ h => List.mem_cons_of_mem _ (List.mem_append_right _ (h))) 3 (by decide) (List.mem_cons_of_mem _ (List.mem_append_left _ (List.mem_of_getElem? (i := 0) rfl))) rfl (v := .int (z (13*u + 68))) rfl dX4_isHere_8 ?_
    refine lv_iconst (v := nI 1) hx hb dX4_isHere_11 (by decide) ?_
    refine lv_icmp_ne (tgt := 19) hx hb dX4_isHere_12 (by decide) (fun c12 => ?_) (fun c12 => ?_)
    · refine lv_iconst (v := nI 0) hx hb dX4_isHere_19 (by decide) ?_
      exact k_bret hx hb hr hlk dX4_isHere_20 rfl (bI_f (fun h => h.elim c4 c12))
    · refine lv_iconst (v := nI 1) hx hb dX4_isHere_15 (by decide) ?_
      refine lv_goto (tgt := 20) hx hb dX4_isHere_16 (by decide) ?_
      exact k_bret hx hb hr hlk dX4_isHere_20 rfl (bI_t (Or.inr c12))
def rm_X4_hasClaim : Room := { frames := 0, cells := 0, slots := 0, locals := 0 }
theorem hd_X4_hasClaim : k_hd1 yX4_hasClaim RX4 0 := by decide +kernel
set_option maxHeartbeats 4000000 in
set_option maxRecDepth 100000 in
theorem c_X4_hasClaim (l : Launch) (E : ke_E) (d : Nat) (z : Nat → Int32) (u : Nat) (hu : u < cn z) : Met l yX4_hasClaim wsX4_hasClaim rm_X4_hasClaim (kp E [.ref (d + 2*u + 19)] (dz E d z)) (qp (some (.int (bI (¬ z (13*u + 70) = -1))))) 0 0 nof := by
  refine k_hd (cc := cX4_hasClaim) (maxL := 1) (ret := (some .boolean)) (by decide) rfl (Nat.le_of_ble_eq_true rfl) ?_
  intro p e s m below meth c ls S hr hlk hnm hK hP hl
  have hx := S.1
  have hb := S.2.1
  have hts := S.2.2.2.2
  have hP : dz E d z s.heap := hP
  have hl : lv_has ls 1 [(0, .ref (d + 2*u + 19))] := hl
  refine lv_aload_n hx hb dX4_hasClaim_0 rfl (lv_at hl 0 rfl) ?_
  refine k_get S hK (dz_u hP u hu) rfl (fun _ h => List.mem_cons_of_mem _ (List.mem_append_right _ (h))) 5 (by decide) (List.mem_cons_of_mem _ (List.mem_append_left _ (List.mem_of_getElem? (i := 0) rfl))) rfl (v := .int (z (13*u + 70))) rfl dX4_hasClaim_1 ?_
  refine lv_iconst (v := (-1)) hx hb dX4_hasClaim_4 (by decide) ?_
  refine lv_icmp_eq (tgt := 12) hx hb dX4_hasClaim_5 (by decide) (fun c5 => ?_) (fun c5 => ?_)
  · refine lv_iconst (v := nI 0) hx hb dX4_hasClaim_12 (by decide) ?_
    exact k_bret hx hb hr hlk dX4_hasClaim_13 rfl (bI_f (fun h => h c5))
  · refine lv_iconst (v := nI 1) hx hb dX4_hasClaim_8 (by decide) ?_
    refine lv_goto (tgt := 13) hx hb dX4_hasClaim_9 (by decide) ?_
    exact k_bret hx hb hr hlk dX4_hasClaim_13 rfl (bI_t c5)
def rm_X4_isClaimWaiting : Room := { frames := 1, cells := 0, slots := 0, locals := 20 }
theorem hd_X4_isClaimWaiting : k_hd1 yX4_isClaimWaiting RX4 0 := by decide +kernel
set_option maxHeartbeats 4000000 in
set_option maxRecDepth 100000 in
theorem c_X4_isClaimWaiting (l : Launch) (E : ke_E) (d : Nat) (z : Nat → Int32) (u : Nat) (hu : u < cn z) : Met l yX4_isClaimWaiting wsX4_isClaimWaiting rm_X4_isClaimWaiting (kp E [.ref (d + 2*u + 19)] (dz E d z)) (qp (some (.int (bI (wts z u))))) 0 0 nof := by
  refine k_hd (cc := cX4_isClaimWaiting) (maxL := 1) (ret := (some .boolean)) (by decide) rfl (Nat.le_of_ble_eq_true rfl) ?_
  intro p e s m below meth c ls S hr hlk hnm hK hP hl
  have hx := S.1
  have hb := S.2.1
  have hts := S.2.2.2.2
  have hP : dz E d z s.heap := hP
  have hl : lv_has ls 1 [(0, .ref (d + 2*u + 19))] := hl
  refine lv_aload_n hx hb dX4_isClaimWaiting_0 rfl (lv_at hl 0 rfl) ?_
  refine k_V (As := []) (rest := []) S hK (c_X4_hasClaim l E d z u hu) gX4_isClaimWaiting_X4_hasClaim rfl hd_X4_hasClaim ⟨rfl, rfl⟩ ⟨Nat.le_of_ble_eq_true rfl, Nat.le_of_ble_eq_true rfl⟩ (k_recv hK (dz_u hP u hu) rfl) hP rfl hl.1 rfl (Nat.le_of_ble_eq_true rfl) dX4_isClaimWaiting_1 ⟨Nat.le_of_ble_eq_true rfl, Nat.le_of_ble_eq_true rfl⟩ ?_
  refine b_eq (tgt := 18) hx hb dX4_isClaimWaiting_4 (by decide) (fun c4 => ?_) (fun c4 => ?_)
  · refine lv_iconst (v := nI 0) hx hb dX4_isClaimWaiting_18 (by decide) ?_
    exact k_bret hx hb hr hlk dX4_isClaimWaiting_19 rfl (bI_f (fun h => c4 h.1))
  · refine lv_aload_n hx hb dX4_isClaimWaiting_7 rfl (lv_at hl 0 rfl) ?_
    refine k_get S hK (dz_u hP u hu) rfl (fun _ h => List.mem_cons_of_mem _ (List.mem_append_right _ (h))) 7 (by decide) (List.mem_cons_of_mem _ (List.mem_append_left _ (List.mem_of_getElem? (i := 0) rfl))) rfl (v := .int (z (13*u + 72))) rfl dX4_isClaimWaiting_8 ?_
    refine lv_if_ne (tgt := 18) hx hb dX4_isClaimWaiting_11 (by decide) (fun c11 => ?_) (fun c11 => ?_)
    · refine lv_iconst (v := nI 0) hx hb dX4_isClaimWaiting_18 (by decide) ?_
      exact k_bret hx hb hr hlk dX4_isClaimWaiting_19 rfl (bI_f (fun h => c11 h.2))
    · refine lv_iconst (v := nI 1) hx hb dX4_isClaimWaiting_14 (by decide) ?_
      refine lv_goto (tgt := 19) hx hb dX4_isClaimWaiting_15 (by decide) ?_
      exact k_bret hx hb hr hlk dX4_isClaimWaiting_19 rfl (bI_t ⟨c4, c11⟩)
def rm_X4_lowestScore : Room := { frames := 1, cells := 0, slots := 0, locals := 13 }
theorem hd_X4_lowestScore : k_hd1 yX4_lowestScore RX4 0 := by decide +kernel
set_option maxHeartbeats 4000000 in
set_option maxRecDepth 100000 in
theorem c_X4_lowestScore (l : Launch) (E : ke_E) (d : Nat) (z : Nat → Int32) (u : Nat) (hu : u < cn z) : Met l yX4_lowestScore wsX4_lowestScore rm_X4_lowestScore (kp E [.ref (d + 2*u + 19)] (dz E d z)) (qp (some (.int (lw z u)))) 0 0 nof := by
  refine k_hd (cc := cX4_lowestScore) (maxL := 3) (ret := (some .int)) (by decide) rfl (Nat.le_of_ble_eq_true rfl) ?_
  intro p e s m below meth c ls S hr hlk hnm hK hP hl
  have hx := S.1
  have hb := S.2.1
  have hts := S.2.2.2.2
  have hP : dz E d z s.heap := hP
  have hl : lv_has ls 3 [(0, .ref (d + 2*u + 19))] := hl
  refine lv_bipush (v := nI 9) hx hb dX4_lowestScore_0 (by decide) ?_
  refine lv_istore_n (lv' := [(1, .int (nI 9)), (0, .ref (d + 2*u + 19))]) hx hb dX4_lowestScore_2 rfl hl (by decide) rfl (fun ls hl => ?_)
  refine lv_iconst (v := nI 0) hx hb dX4_lowestScore_3 (by decide) ?_
  refine lv_istore_n (lv' := [(2, .int (nI 0)), (1, .int (nI 9)), (0, .ref (d + 2*u + 19))]) hx hb dX4_lowestScore_4 rfl hl (by decide) rfl (fun ls hl => ?_)
  refine lv_iload_n hx hb dX4_lowestScore_5 rfl (lv_at hl 0 rfl) ?_
  refine lv_aload_n hx hb dX4_lowestScore_6 rfl (lv_at hl 2 rfl) ?_
  refine k_get S hK (dz_u hP u hu) rfl (fun _ h => List.mem_cons_of_mem _ (List.mem_append_right _ (h))) 0 (by decide) (List.mem_cons_of_mem _ (List.mem_append_left _ (List.mem_of_getElem? (i := 0) rfl))) rfl (v := .ref (d + 2*u + 20)) rfl dX4_lowestScore_7 ?_
  refine k_alen hx hb hK (t := 0) rfl (dz_sc hP u hu) dX4_lowestScore_10 ?_
  refine k_top (y := nI 4) rfl ?_
  refine n_ige (tgt := 31) hx hb dX4_lowestScore_11 (by decide) (by omega) (by omega) (fun h => absurd h (by decide)) (fun c11 => ?_)
  refine lv_iload_n hx hb dX4_lowestScore_14 rfl (lv_at hl 1 rfl) ?_
  refine lv_aload_n hx hb dX4_lowestScore_15 rfl (lv_at hl 2 rfl) ?_
  refine k_get S hK (dz_u hP u hu) rfl (fun _ h => List.mem_cons_of_mem _ (List.mem_append_right _ (h))) 0 (by decide) (List.mem_cons_of_mem _ (List.mem_append_left _ (List.mem_of_getElem? (i := 0) rfl))) rfl (v := .ref (d + 2*u + 20)) rfl dX4_lowestScore_16 ?_
  refine lv_iload_n hx hb dX4_lowestScore_19 rfl (lv_at hl 0 rfl) ?_
  refine k_iald hx hb hK (dz_sc hP u hu) (by omega) (by decide) (v := z (13*u + 64)) (congrArg _ (show 13*u + 0 + 64 = 13*u + 64 by omega)) dX4_lowestScore_20 ?_
  refine k_mmin hx hb (by rw [S.2.2.1]; exact hl.1.symm) S.2.2.2.1 (hts _ (List.mem_cons_of_mem _ (List.mem_append_left _ (List.mem_of_getElem? (i := 1) rfl)))) (hts _ (List.mem_cons_of_mem _ (List.mem_append_left _ (List.mem_of_getElem? (i := 2) rfl)))) (hts _ (List.mem_cons_of_mem _ (List.mem_append_left _ (List.mem_of_getElem? (i := 3) rfl)))) (hts _ (List.mem_cons_of_mem _ (List.mem_append_left _ (List.mem_of_getElem? (i := 4) rfl)))) (Nat.le_of_ble_eq_true rfl) (Nat.le_of_ble_eq_true rfl) (Nat.zero_le _) (Nat.zero_le _) dX4_lowestScore_21 ?_
  refine lv_istore_n (lv' := [(1, .int (mminI (nI 9) (z (13*u + 64)))), (2, .int (nI 0)), (0, .ref (d + 2*u + 19))]) hx hb dX4_lowestScore_24 rfl hl (by decide) rfl (fun ls hl => ?_)
  refine lv_iinc (v := nI 1) (lv' := [(2, .int (nI 1)), (1, .int (mminI (nI 9) (z (13*u + 64)))), (0, .ref (d + 2*u + 19))]) hx hb dX4_lowestScore_25 hl (k := 1) rfl (by decide) (by decide) rfl (fun ls hl => ?_)
  refine lv_goto (tgt := 5) hx hb dX4_lowestScore_28 (by decide) ?_
  refine lv_iload_n hx hb dX4_lowestScore_5 rfl (lv_at hl 0 rfl) ?_
  refine lv_aload_n hx hb dX4_lowestScore_6 rfl (lv_at hl 2 rfl) ?_
  refine k_get S hK (dz_u hP u hu) rfl (fun _ h => List.mem_cons_of_mem _ (List.mem_append_right _ (h))) 0 (by decide) (List.mem_cons_of_mem _ (List.mem_append_left _ (List.mem_of_getElem? (i := 0) rfl))) rfl (v := .ref (d + 2*u + 20)) rfl dX4_lowestScore_7 ?_
  refine k_alen hx hb hK (t := 0) rfl (dz_sc hP u hu) dX4_lowestScore_10 ?_
  refine k_top (y := nI 4) rfl ?_
  refine n_ige (tgt := 31) hx hb dX4_lowestScore_11 (by decide) (by omega) (by omega) (fun h => absurd h (by decide)) (fun c11_1 => ?_)
  refine lv_iload_n hx hb dX4_lowestScore_14 rfl (lv_at hl 1 rfl) ?_
  refine lv_aload_n hx hb dX4_lowestScore_15 rfl (lv_at hl 2 rfl) ?_
  refine k_get S hK (dz_u hP u hu) rfl (fun _ h => List.mem_cons_of_mem _ (List.mem_append_right _ (h))) 0 (by decide) (List.mem_cons_of_mem _ (List.mem_append_left _ (List.mem_of_getElem? (i := 0) rfl))) rfl (v := .ref (d + 2*u + 20)) rfl dX4_lowestScore_16 ?_
  refine lv_iload_n hx hb dX4_lowestScore_19 rfl (lv_at hl 0 rfl) ?_
  refine k_iald hx hb hK (dz_sc hP u hu) (by omega) (by decide) (v := z (13*u + 65)) (congrArg _ (show 13*u + 1 + 64 = 13*u + 65 by omega)) dX4_lowestScore_20 ?_
  refine k_mmin hx hb (by rw [S.2.2.1]; exact hl.1.symm) S.2.2.2.1 (hts _ (List.mem_cons_of_mem _ (List.mem_append_left _ (List.mem_of_getElem? (i := 1) rfl)))) (hts _ (List.mem_cons_of_mem _ (List.mem_append_left _ (List.mem_of_getElem? (i := 2) rfl)))) (hts _ (List.mem_cons_of_mem _ (List.mem_append_left _ (List.mem_of_getElem? (i := 3) rfl)))) (hts _ (List.mem_cons_of_mem _ (List.mem_append_left _ (List.mem_of_getElem? (i := 4) rfl)))) (Nat.le_of_ble_eq_true rfl) (Nat.le_of_ble_eq_true rfl) (Nat.zero_le _) (Nat.zero_le _) dX4_lowestScore_21 ?_
  refine lv_istore_n (lv' := [(1, .int (mminI (mminI (nI 9) (z (13*u + 64))) (z (13*u + 65)))), (2, .int (nI 1)), (0, .ref (d + 2*u + 19))]) hx hb dX4_lowestScore_24 rfl hl (by decide) rfl (fun ls hl => ?_)
  refine lv_iinc (v := nI 2) (lv' := [(2, .int (nI 2)), (1, .int (mminI (mminI (nI 9) (z (13*u + 64))) (z (13*u + 65)))), (0, .ref (d + 2*u + 19))]) hx hb dX4_lowestScore_25 hl (k := 1) rfl (by decide) (by decide) rfl (fun ls hl => ?_)
  refine lv_goto (tgt := 5) hx hb dX4_lowestScore_28 (by decide) ?_
  refine lv_iload_n hx hb dX4_lowestScore_5 rfl (lv_at hl 0 rfl) ?_
  refine lv_aload_n hx hb dX4_lowestScore_6 rfl (lv_at hl 2 rfl) ?_
  refine k_get S hK (dz_u hP u hu) rfl (fun _ h => List.mem_cons_of_mem _ (List.mem_append_right _ (h))) 0 (by decide) (List.mem_cons_of_mem _ (List.mem_append_left _ (List.mem_of_getElem? (i := 0) rfl))) rfl (v := .ref (d + 2*u + 20)) rfl dX4_lowestScore_7 ?_
  refine k_alen hx hb hK (t := 0) rfl (dz_sc hP u hu) dX4_lowestScore_10 ?_
  refine k_top (y := nI 4) rfl ?_
  refine n_ige (tgt := 31) hx hb dX4_lowestScore_11 (by decide) (by omega) (by omega) (fun h => absurd h (by decide)) (fun c11_2 => ?_)
  refine lv_iload_n hx hb dX4_lowestScore_14 rfl (lv_at hl 1 rfl) ?_
  refine lv_aload_n hx hb dX4_lowestScore_15 rfl (lv_at hl 2 rfl) ?_
  refine k_get S hK (dz_u hP u hu) rfl (fun _ h => List.mem_cons_of_mem _ (List.mem_append_right _ (h))) 0 (by decide) (List.mem_cons_of_mem _ (List.mem_append_left _ (List.mem_of_getElem? (i := 0) rfl))) rfl (v := .ref (d + 2*u + 20)) rfl dX4_lowestScore_16 ?_
  refine lv_iload_n hx hb dX4_lowestScore_19 rfl (lv_at hl 0 rfl) ?_
  refine k_iald hx hb hK (dz_sc hP u hu) (by omega) (by decide) (v := z (13*u + 66)) (congrArg _ (show 13*u + 2 + 64 = 13*u + 66 by omega)) dX4_lowestScore_20 ?_
  refine k_mmin hx hb (by rw [S.2.2.1]; exact hl.1.symm) S.2.2.2.1 (hts _ (List.mem_cons_of_mem _ (List.mem_append_left _ (List.mem_of_getElem? (i := 1) rfl)))) (hts _ (List.mem_cons_of_mem _ (List.mem_append_left _ (List.mem_of_getElem? (i := 2) rfl)))) (hts _ (List.mem_cons_of_mem _ (List.mem_append_left _ (List.mem_of_getElem? (i := 3) rfl)))) (hts _ (List.mem_cons_of_mem _ (List.mem_append_left _ (List.mem_of_getElem? (i := 4) rfl)))) (Nat.le_of_ble_eq_true rfl) (Nat.le_of_ble_eq_true rfl) (Nat.zero_le _) (Nat.zero_le _) dX4_lowestScore_21 ?_
  refine lv_istore_n (lv' := [(1, .int (mminI (mminI (mminI (nI 9) (z (13*u + 64))) (z (13*u + 65))) (z (13*u + 66)))), (2, .int (nI 2)), (0, .ref (d + 2*u + 19))]) hx hb dX4_lowestScore_24 rfl hl (by decide) rfl (fun ls hl => ?_)
  refine lv_iinc (v := nI 3) (lv' := [(2, .int (nI 3)), (1, .int (mminI (mminI (mminI (nI 9) (z (13*u + 64))) (z (13*u + 65))) (z (13*u + 66)))), (0, .ref (d + 2*u + 19))]) hx hb dX4_lowestScore_25 hl (k := 1) rfl (by decide) (by decide) rfl (fun ls hl => ?_)
  refine lv_goto (tgt := 5) hx hb dX4_lowestScore_28 (by decide) ?_
  refine lv_iload_n hx hb dX4_lowestScore_5 rfl (lv_at hl 0 rfl) ?_
  refine lv_aload_n hx hb dX4_lowestScore_6 rfl (lv_at hl 2 rfl) ?_
  refine k_get S hK (dz_u hP u hu) rfl (fun _ h => List.mem_cons_of_mem _ (List.mem_append_right _ (h))) 0 (by decide) (List.mem_cons_of_mem _ (List.mem_append_left _ (List.mem_of_getElem? (i := 0) rfl))) rfl (v := .ref (d + 2*u + 20)) rfl dX4_lowestScore_7 ?_
  refine k_alen hx hb hK (t := 0) rfl (dz_sc hP u hu) dX4_lowestScore_10 ?_
  refine k_top (y := nI 4) rfl ?_
  refine n_ige (tgt := 31) hx hb dX4_lowestScore_11 (by decide) (by omega) (by omega) (fun h => absurd h (by decide)) (fun c11_3 => ?_)
  refine lv_iload_n hx hb dX4_lowestScore_14 rfl (lv_at hl 1 rfl) ?_
  refine lv_aload_n hx hb dX4_lowestScore_15 rfl (lv_at hl 2 rfl) ?_
  refine k_get S hK (dz_u hP u hu) rfl (fun _ h => List.mem_cons_of_mem _ (List.mem_append_right _ (h))) 0 (by decide) (List.mem_cons_of_mem _ (List.mem_append_left _ (List.mem_of_getElem? (i := 0) rfl))) rfl (v := .ref (d + 2*u + 20)) rfl dX4_lowestScore_16 ?_
  refine lv_iload_n hx hb dX4_lowestScore_19 rfl (lv_at hl 0 rfl) ?_
  refine k_iald hx hb hK (dz_sc hP u hu) (by omega) (by decide) (v := z (13*u + 67)) (congrArg _ (show 13*u + 3 + 64 = 13*u + 67 by omega)) dX4_lowestScore_20 ?_
  refine k_mmin hx hb (by rw [S.2.2.1]; exact hl.1.symm) S.2.2.2.1 (hts _ (List.mem_cons_of_mem _ (List.mem_append_left _ (List.mem_of_getElem? (i := 1) rfl)))) (hts _ (List.mem_cons_of_mem _ (List.mem_append_left _ (List.mem_of_getElem? (i := 2) rfl)))) (hts _ (List.mem_cons_of_mem _ (List.mem_append_left _ (List.mem_of_getElem? (i := 3) rfl)))) (hts _ (List.mem_cons_of_mem _ (List.mem_append_left _ (List.mem_of_getElem? (i := 4) rfl)))) (Nat.le_of_ble_eq_true rfl) (Nat.le_of_ble_eq_true rfl) (Nat.zero_le _) (Nat.zero_le _) dX4_lowestScore_21 ?_
  refine lv_istore_n (lv' := [(1, .int (mminI (mminI (mminI (mminI (nI 9) (z (13*u + 64))) (z (13*u + 65))) (z (13*u + 66))) (z (13*u + 67)))), (2, .int (nI 3)), (0, .ref (d + 2*u + 19))]) hx hb dX4_lowestScore_24 rfl hl (by decide) rfl (fun ls hl => ?_)
  refine lv_iinc (v := nI 4) (lv' := [(2, .int (nI 4)), (1, .int (mminI (mminI (mminI (mminI (nI 9) (z (13*u + 64))) (z (13*u + 65))) (z (13*u + 66))) (z (13*u + 67)))), (0, .ref (d + 2*u + 19))]) hx hb dX4_lowestScore_25 hl (k := 1) rfl (by decide) (by decide) rfl (fun ls hl => ?_)
  refine lv_goto (tgt := 5) hx hb dX4_lowestScore_28 (by decide) ?_
  refine lv_iload_n hx hb dX4_lowestScore_5 rfl (lv_at hl 0 rfl) ?_
  refine lv_aload_n hx hb dX4_lowestScore_6 rfl (lv_at hl 2 rfl) ?_
  refine k_get S hK (dz_u hP u hu) rfl (fun _ h => List.mem_cons_of_mem _ (List.mem_append_right _ (h))) 0 (by decide) (List.mem_cons_of_mem _ (List.mem_append_left _ (List.mem_of_getElem? (i := 0) rfl))) rfl (v := .ref (d + 2*u + 20)) rfl dX4_lowestScore_7 ?_
  refine k_alen hx hb hK (t := 0) rfl (dz_sc hP u hu) dX4_lowestScore_10 ?_
  refine k_top (y := nI 4) rfl ?_
  refine n_ige (tgt := 31) hx hb dX4_lowestScore_11 (by decide) (by omega) (by omega) (fun c11_4 => ?_) (fun h => absurd h (by decide))
  refine lv_iload_n hx hb dX4_lowestScore_31 rfl (lv_at hl 1 rfl) ?_
  exact k_iret hx hb hr hlk dX4_lowestScore_32 (rfl)
def rm_X4_sumWithLeast : Room := { frames := 1, cells := 0, slots := 0, locals := 14 }
theorem hd_X4_sumWithLeast : k_hd1 yX4_sumWithLeast RX4 1 := by decide +kernel
set_option maxHeartbeats 4000000 in
set_option maxRecDepth 100000 in
theorem c_X4_sumWithLeast (l : Launch) (E : ke_E) (d : Nat) (z : Nat → Int32) (u : Nat) (k : Int32) (hu : u < cn z) : Met l yX4_sumWithLeast wsX4_sumWithLeast rm_X4_sumWithLeast (kp E [.ref (d + 2*u + 19), .int k] (dz E d z)) (qp (some (.int (sl z u k)))) 0 0 nof := by
  refine k_hd (cc := cX4_sumWithLeast) (maxL := 4) (ret := (some .int)) (by decide) rfl (Nat.le_of_ble_eq_true rfl) ?_
  intro p e s m below meth c ls S hr hlk hnm hK hP hl
  have hx := S.1
  have hb := S.2.1
  have hts := S.2.2.2.2
  have hP : dz E d z s.heap := hP
  have hl : lv_has ls 4 [(0, .ref (d + 2*u + 19)), (1, .int k)] := hl
  refine lv_iconst (v := nI 0) hx hb dX4_sumWithLeast_0 (by decide) ?_
  refine lv_istore_n (lv' := [(2, .int (nI 0)), (0, .ref (d + 2*u + 19)), (1, .int k)]) hx hb dX4_sumWithLeast_1 rfl hl (by decide) rfl (fun ls hl => ?_)
  refine lv_iconst (v := nI 0) hx hb dX4_sumWithLeast_2 (by decide) ?_
  refine lv_istore_n (lv' := [(3, .int (nI 0)), (2, .int (nI 0)), (0, .ref (d + 2*u + 19)), (1, .int k)]) hx hb dX4_sumWithLeast_3 rfl hl (by decide) rfl (fun ls hl => ?_)
  refine lv_iload_n hx hb dX4_sumWithLeast_4 rfl (lv_at hl 0 rfl) ?_
  refine lv_aload_n hx hb dX4_sumWithLeast_5 rfl (lv_at hl 2 rfl) ?_
  refine k_get S hK (dz_u hP u hu) rfl (fun _ h => List.mem_cons_of_mem _ (List.mem_append_right _ (h))) 0 (by decide) (List.mem_cons_of_mem _ (List.mem_append_left _ (List.mem_of_getElem? (i := 0) rfl))) rfl (v := .ref (d + 2*u + 20)) rfl dX4_sumWithLeast_6 ?_
  refine k_alen hx hb hK (t := 0) rfl (dz_sc hP u hu) dX4_sumWithLeast_9 ?_
  refine k_top (y := nI 4) rfl ?_
  refine n_ige (tgt := 32) hx hb dX4_sumWithLeast_10 (by decide) (by omega) (by omega) (fun h => absurd h (by decide)) (fun c10 => ?_)
  refine lv_iload_n hx hb dX4_sumWithLeast_13 rfl (lv_at hl 1 rfl) ?_
  refine lv_aload_n hx hb dX4_sumWithLeast_14 rfl (lv_at hl 2 rfl) ?_
  refine k_get S hK (dz_u hP u hu) rfl (fun _ h => List.mem_cons_of_mem _ (List.mem_append_right _ (h))) 0 (by decide) (List.mem_cons_of_mem _ (List.mem_append_left _ (List.mem_of_getElem? (i := 0) rfl))) rfl (v := .ref (d + 2*u + 20)) rfl dX4_sumWithLeast_15 ?_
  refine lv_iload_n hx hb dX4_sumWithLeast_18 rfl (lv_at hl 0 rfl) ?_
  refine k_iald hx hb hK (dz_sc hP u hu) (by omega) (by decide) (v := z (13*u + 64)) (congrArg _ (show 13*u + 0 + 64 = 13*u + 64 by omega)) dX4_sumWithLeast_19 ?_
  refine lv_iload_n hx hb dX4_sumWithLeast_20 rfl (lv_at hl 3 rfl) ?_
  refine k_mmax hx hb (by rw [S.2.2.1]; exact hl.1.symm) S.2.2.2.1 (hts _ (List.mem_cons_of_mem _ (List.mem_append_left _ (List.mem_of_getElem? (i := 1) rfl)))) (hts _ (List.mem_cons_of_mem _ (List.mem_append_left _ (List.mem_of_getElem? (i := 2) rfl)))) (hts _ (List.mem_cons_of_mem _ (List.mem_append_left _ (List.mem_of_getElem? (i := 3) rfl)))) (hts _ (List.mem_cons_of_mem _ (List.mem_append_left _ (List.mem_of_getElem? (i := 4) rfl)))) (Nat.le_of_ble_eq_true rfl) (Nat.le_of_ble_eq_true rfl) (Nat.zero_le _) (Nat.zero_le _) dX4_sumWithLeast_21 ?_
  refine lv_iadd hx hb dX4_sumWithLeast_24 ?_
  refine lv_istore_n (lv' := [(2, .int ((nI 0) + (mmaxI (z (13*u + 64)) k))), (3, .int (nI 0)), (0, .ref (d + 2*u + 19)), (1, .int k)]) hx hb dX4_sumWithLeast_25 rfl hl (by decide) rfl (fun ls hl => ?_)
  refine lv_iinc (v := nI 1) (lv' := [(3, .int (nI 1)), (2, .int ((nI 0) + (mmaxI (z (13*u + 64)) k))), (0, .ref (d + 2*u + 19)), (1, .int k)]) hx hb dX4_sumWithLeast_26 hl (k := 1) rfl (by decide) (by decide) rfl (fun ls hl => ?_)
  refine lv_goto (tgt := 4) hx hb dX4_sumWithLeast_29 (by decide) ?_
  refine lv_iload_n hx hb dX4_sumWithLeast_4 rfl (lv_at hl 0 rfl) ?_
  refine lv_aload_n hx hb dX4_sumWithLeast_5 rfl (lv_at hl 2 rfl) ?_
  refine k_get S hK (dz_u hP u hu) rfl (fun _ h => List.mem_cons_of_mem _ (List.mem_append_right _ (h))) 0 (by decide) (List.mem_cons_of_mem _ (List.mem_append_left _ (List.mem_of_getElem? (i := 0) rfl))) rfl (v := .ref (d + 2*u + 20)) rfl dX4_sumWithLeast_6 ?_
  refine k_alen hx hb hK (t := 0) rfl (dz_sc hP u hu) dX4_sumWithLeast_9 ?_
  refine k_top (y := nI 4) rfl ?_
  refine n_ige (tgt := 32) hx hb dX4_sumWithLeast_10 (by decide) (by omega) (by omega) (fun h => absurd h (by decide)) (fun c10_1 => ?_)
  refine lv_iload_n hx hb dX4_sumWithLeast_13 rfl (lv_at hl 1 rfl) ?_
  refine lv_aload_n hx hb dX4_sumWithLeast_14 rfl (lv_at hl 2 rfl) ?_
  refine k_get S hK (dz_u hP u hu) rfl (fun _ h => List.mem_cons_of_mem _ (List.mem_append_right _ (h))) 0 (by decide) (List.mem_cons_of_mem _ (List.mem_append_left _ (List.mem_of_getElem? (i := 0) rfl))) rfl (v := .ref (d + 2*u + 20)) rfl dX4_sumWithLeast_15 ?_
  refine lv_iload_n hx hb dX4_sumWithLeast_18 rfl (lv_at hl 0 rfl) ?_
  refine k_iald hx hb hK (dz_sc hP u hu) (by omega) (by decide) (v := z (13*u + 65)) (congrArg _ (show 13*u + 1 + 64 = 13*u + 65 by omega)) dX4_sumWithLeast_19 ?_
  refine lv_iload_n hx hb dX4_sumWithLeast_20 rfl (lv_at hl 3 rfl) ?_
  refine k_mmax hx hb (by rw [S.2.2.1]; exact hl.1.symm) S.2.2.2.1 (hts _ (List.mem_cons_of_mem _ (List.mem_append_left _ (List.mem_of_getElem? (i := 1) rfl)))) (hts _ (List.mem_cons_of_mem _ (List.mem_append_left _ (List.mem_of_getElem? (i := 2) rfl)))) (hts _ (List.mem_cons_of_mem _ (List.mem_append_left _ (List.mem_of_getElem? (i := 3) rfl)))) (hts _ (List.mem_cons_of_mem _ (List.mem_append_left _ (List.mem_of_getElem? (i := 4) rfl)))) (Nat.le_of_ble_eq_true rfl) (Nat.le_of_ble_eq_true rfl) (Nat.zero_le _) (Nat.zero_le _) dX4_sumWithLeast_21 ?_
  refine lv_iadd hx hb dX4_sumWithLeast_24 ?_
  refine lv_istore_n (lv' := [(2, .int (((nI 0) + (mmaxI (z (13*u + 64)) k)) + (mmaxI (z (13*u + 65)) k))), (3, .int (nI 1)), (0, .ref (d + 2*u + 19)), (1, .int k)]) hx hb dX4_sumWithLeast_25 rfl hl (by decide) rfl (fun ls hl => ?_)
  refine lv_iinc (v := nI 2) (lv' := [(3, .int (nI 2)), (2, .int (((nI 0) + (mmaxI (z (13*u + 64)) k)) + (mmaxI (z (13*u + 65)) k))), (0, .ref (d + 2*u + 19)), (1, .int k)]) hx hb dX4_sumWithLeast_26 hl (k := 1) rfl (by decide) (by decide) rfl (fun ls hl => ?_)
  refine lv_goto (tgt := 4) hx hb dX4_sumWithLeast_29 (by decide) ?_
  refine lv_iload_n hx hb dX4_sumWithLeast_4 rfl (lv_at hl 0 rfl) ?_
  refine lv_aload_n hx hb dX4_sumWithLeast_5 rfl (lv_at hl 2 rfl) ?_
  refine k_get S hK (dz_u hP u hu) rfl (fun _ h => List.mem_cons_of_mem _ (List.mem_append_right _ (h))) 0 (by decide) (List.mem_cons_of_mem _ (List.mem_append_left _ (List.mem_of_getElem? (i := 0) rfl))) rfl (v := .ref (d + 2*u + 20)) rfl dX4_sumWithLeast_6 ?_
  refine k_alen hx hb hK (t := 0) rfl (dz_sc hP u hu) dX4_sumWithLeast_9 ?_
  refine k_top (y := nI 4) rfl ?_
  refine n_ige (tgt := 32) hx hb dX4_sumWithLeast_10 (by decide) (by omega) (by omega) (fun h => absurd h (by decide)) (fun c10_2 => ?_)
  refine lv_iload_n hx hb dX4_sumWithLeast_13 rfl (lv_at hl 1 rfl) ?_
  refine lv_aload_n hx hb dX4_sumWithLeast_14 rfl (lv_at hl 2 rfl) ?_
  refine k_get S hK (dz_u hP u hu) rfl (fun _ h => List.mem_cons_of_mem _ (List.mem_append_right _ (h))) 0 (by decide) (List.mem_cons_of_mem _ (List.mem_append_left _ (List.mem_of_getElem? (i := 0) rfl))) rfl (v := .ref (d + 2*u + 20)) rfl dX4_sumWithLeast_15 ?_
  refine lv_iload_n hx hb dX4_sumWithLeast_18 rfl (lv_at hl 0 rfl) ?_
  refine k_iald hx hb hK (dz_sc hP u hu) (by omega) (by decide) (v := z (13*u + 66)) (congrArg _ (show 13*u + 2 + 64 = 13*u + 66 by omega)) dX4_sumWithLeast_19 ?_
  refine lv_iload_n hx hb dX4_sumWithLeast_20 rfl (lv_at hl 3 rfl) ?_
  refine k_mmax hx hb (by rw [S.2.2.1]; exact hl.1.symm) S.2.2.2.1 (hts _ (List.mem_cons_of_mem _ (List.mem_append_left _ (List.mem_of_getElem? (i := 1) rfl)))) (hts _ (List.mem_cons_of_mem _ (List.mem_append_left _ (List.mem_of_getElem? (i := 2) rfl)))) (hts _ (List.mem_cons_of_mem _ (List.mem_append_left _ (List.mem_of_getElem? (i := 3) rfl)))) (hts _ (List.mem_cons_of_mem _ (List.mem_append_left _ (List.mem_of_getElem? (i := 4) rfl)))) (Nat.le_of_ble_eq_true rfl) (Nat.le_of_ble_eq_true rfl) (Nat.zero_le _) (Nat.zero_le _) dX4_sumWithLeast_21 ?_
  refine lv_iadd hx hb dX4_sumWithLeast_24 ?_
  refine lv_istore_n (lv' := [(2, .int ((((nI 0) + (mmaxI (z (13*u + 64)) k)) + (mmaxI (z (13*u + 65)) k)) + (mmaxI (z (13*u + 66)) k))), (3, .int (nI 2)), (0, .ref (d + 2*u + 19)), (1, .int k)]) hx hb dX4_sumWithLeast_25 rfl hl (by decide) rfl (fun ls hl => ?_)
  refine lv_iinc (v := nI 3) (lv' := [(3, .int (nI 3)), (2, .int ((((nI 0) + (mmaxI (z (13*u + 64)) k)) + (mmaxI (z (13*u + 65)) k)) + (mmaxI (z (13*u + 66)) k))), (0, .ref (d + 2*u + 19)), (1, .int k)]) hx hb dX4_sumWithLeast_26 hl (k := 1) rfl (by decide) (by decide) rfl (fun ls hl => ?_)
  refine lv_goto (tgt := 4) hx hb dX4_sumWithLeast_29 (by decide) ?_
  refine lv_iload_n hx hb dX4_sumWithLeast_4 rfl (lv_at hl 0 rfl) ?_
  refine lv_aload_n hx hb dX4_sumWithLeast_5 rfl (lv_at hl 2 rfl) ?_
  refine k_get S hK (dz_u hP u hu) rfl (fun _ h => List.mem_cons_of_mem _ (List.mem_append_right _ (h))) 0 (by decide) (List.mem_cons_of_mem _ (List.mem_append_left _ (List.mem_of_getElem? (i := 0) rfl))) rfl (v := .ref (d + 2*u + 20)) rfl dX4_sumWithLeast_6 ?_
  refine k_alen hx hb hK (t := 0) rfl (dz_sc hP u hu) dX4_sumWithLeast_9 ?_
  refine k_top (y := nI 4) rfl ?_
  refine n_ige (tgt := 32) hx hb dX4_sumWithLeast_10 (by decide) (by omega) (by omega) (fun h => absurd h (by decide)) (fun c10_3 => ?_)
  refine lv_iload_n hx hb dX4_sumWithLeast_13 rfl (lv_at hl 1 rfl) ?_
  refine lv_aload_n hx hb dX4_sumWithLeast_14 rfl (lv_at hl 2 rfl) ?_
  refine k_get S hK (dz_u hP u hu) rfl (fun _ h => List.mem_cons_of_mem _ (List.mem_append_right _ (h))) 0 (by decide) (List.mem_cons_of_mem _ (List.mem_append_left _ (List.mem_of_getElem? (i := 0) rfl))) rfl (v := .ref (d + 2*u + 20)) rfl dX4_sumWithLeast_15 ?_
  refine lv_iload_n hx hb dX4_sumWithLeast_18 rfl (lv_at hl 0 rfl) ?_
  refine k_iald hx hb hK (dz_sc hP u hu) (by omega) (by decide) (v := z (13*u + 67)) (congrArg _ (show 13*u + 3 + 64 = 13*u + 67 by omega)) dX4_sumWithLeast_19 ?_
  refine lv_iload_n hx hb dX4_sumWithLeast_20 rfl (lv_at hl 3 rfl) ?_
  refine k_mmax hx hb (by rw [S.2.2.1]; exact hl.1.symm) S.2.2.2.1 (hts _ (List.mem_cons_of_mem _ (List.mem_append_left _ (List.mem_of_getElem? (i := 1) rfl)))) (hts _ (List.mem_cons_of_mem _ (List.mem_append_left _ (List.mem_of_getElem? (i := 2) rfl)))) (hts _ (List.mem_cons_of_mem _ (List.mem_append_left _ (List.mem_of_getElem? (i := 3) rfl)))) (hts _ (List.mem_cons_of_mem _ (List.mem_append_left _ (List.mem_of_getElem? (i := 4) rfl)))) (Nat.le_of_ble_eq_true rfl) (Nat.le_of_ble_eq_true rfl) (Nat.zero_le _) (Nat.zero_le _) dX4_sumWithLeast_21 ?_
  refine lv_iadd hx hb dX4_sumWithLeast_24 ?_
  refine lv_istore_n (lv' := [(2, .int (((((nI 0) + (mmaxI (z (13*u + 64)) k)) + (mmaxI (z (13*u + 65)) k)) + (mmaxI (z (13*u + 66)) k)) + (mmaxI (z (13*u + 67)) k))), (3, .int (nI 3)), (0, .ref (d + 2*u + 19)), (1, .int k)]) hx hb dX4_sumWithLeast_25 rfl hl (by decide) rfl (fun ls hl => ?_)
  refine lv_iinc (v := nI 4) (lv' := [(3, .int (nI 4)), (2, .int (((((nI 0) + (mmaxI (z (13*u + 64)) k)) + (mmaxI (z (13*u + 65)) k)) + (mmaxI (z (13*u + 66)) k)) + (mmaxI (z (13*u + 67)) k))), (0, .ref (d + 2*u + 19)), (1, .int k)]) hx hb dX4_sumWithLeast_26 hl (k := 1) rfl (by decide) (by decide) rfl (fun ls hl => ?_)
  refine lv_goto (tgt := 4) hx hb dX4_sumWithLeast_29 (by decide) ?_
  refine lv_iload_n hx hb dX4_sumWithLeast_4 rfl (lv_at hl 0 rfl) ?_
  refine lv_aload_n hx hb dX4_sumWithLeast_5 rfl (lv_at hl 2 rfl) ?_
  refine k_get S hK (dz_u hP u hu) rfl (fun _ h => List.mem_cons_of_mem _ (List.mem_append_right _ (h))) 0 (by decide) (List.mem_cons_of_mem _ (List.mem_append_left _ (List.mem_of_getElem? (i := 0) rfl))) rfl (v := .ref (d + 2*u + 20)) rfl dX4_sumWithLeast_6 ?_
  refine k_alen hx hb hK (t := 0) rfl (dz_sc hP u hu) dX4_sumWithLeast_9 ?_
  refine k_top (y := nI 4) rfl ?_
  refine n_ige (tgt := 32) hx hb dX4_sumWithLeast_10 (by decide) (by omega) (by omega) (fun c10_4 => ?_) (fun h => absurd h (by decide))
  refine lv_iload_n hx hb dX4_sumWithLeast_32 rfl (lv_at hl 1 rfl) ?_
  exact k_iret hx hb hr hlk dX4_sumWithLeast_33 (rfl)
def rm_X4_isTested : Room := { frames := 2, cells := 0, slots := 0, locals := 35 }
theorem hd_X4_isTested : k_hd1 yX4_isTested RX4 0 := by decide +kernel
set_option maxHeartbeats 4000000 in
set_option maxRecDepth 100000 in
theorem c_X4_isTested (l : Launch) (E : ke_E) (d : Nat) (z : Nat → Int32) (u : Nat) (hu : u < cn z) (hI : iv z) : Met l yX4_isTested wsX4_isTested rm_X4_isTested (kp E [.ref (d + 2*u + 19)] (dz E d z)) (qp (some (.int (bI (tst z u))))) 0 0 nof := by
  refine k_hd (cc := cX4_isTested) (maxL := 1) (ret := (some .boolean)) (by decide) rfl (Nat.le_of_ble_eq_true rfl) ?_
  intro p e s m below meth c ls S hr hlk hnm hK hP hl
  have hx := S.1
  have hb := S.2.1
  have hts := S.2.2.2.2
  have hP : dz E d z s.heap := hP
  have hl : lv_has ls 1 [(0, .ref (d + 2*u + 19))] := hl
  refine lv_aload_n hx hb dX4_isTested_0 rfl (lv_at hl 0 rfl) ?_
  refine k_V (As := []) (rest := []) S hK (c_X4_lowestScore l E d z u hu) gX4_isTested_X4_lowestScore rfl hd_X4_lowestScore ⟨rfl, rfl⟩ ⟨Nat.le_of_ble_eq_true rfl, Nat.le_of_ble_eq_true rfl⟩ (k_recv hK (dz_u hP u hu) rfl) hP rfl hl.1 rfl (Nat.le_of_ble_eq_true rfl) dX4_isTested_1 ⟨Nat.le_of_ble_eq_true rfl, Nat.le_of_ble_eq_true rfl⟩ ?_
  refine lv_iconst (v := (-1)) hx hb dX4_isTested_4 (by decide) ?_
  refine lv_icmp_eq (tgt := 12) hx hb dX4_isTested_5 (by decide) (fun c5 => ?_) (fun c5 => ?_)
  · refine lv_iconst (v := nI 0) hx hb dX4_isTested_12 (by decide) ?_
    exact k_bret hx hb hr hlk dX4_isTested_13 rfl (bI_f ((lw_t hI hu).mp c5))
  · refine lv_iconst (v := nI 1) hx hb dX4_isTested_8 (by decide) ?_
    refine lv_goto (tgt := 13) hx hb dX4_isTested_9 (by decide) ?_
    exact k_bret hx hb hr hlk dX4_isTested_13 rfl (bI_t (Classical.byContradiction fun h => c5 ((lw_t hI hu).mpr h)))
def rm_X4_raiseScores : Room := { frames := 1, cells := 0, slots := 0, locals := 15 }
theorem hd_X4_raiseScores : k_hd1 yX4_raiseScores RX4 1 := by decide +kernel
set_option maxHeartbeats 4000000 in
set_option maxRecDepth 100000 in
theorem c_X4_raiseScores (l : Launch) (E : ke_E) (d : Nat) (z : Nat → Int32) (u : Nat) (hu : u < cn z) : Met l yX4_raiseScores wsX4_raiseScores rm_X4_raiseScores (kp E [.ref (d + 2*u + 19), .int (nI 7)] (dz E d z)) (qm none (bl d 59) (dz E d (sco z u))) 0 0 (bl d 59) := by
  refine k_hd (cc := cX4_raiseScores) (maxL := 3) (ret := none) (by decide) rfl (Nat.le_of_ble_eq_true rfl) ?_
  intro p e s m below meth c ls S hr hlk hnm hK hP hl
  have hx := S.1
  have hb := S.2.1
  have hts := S.2.2.2.2
  have hP : dz E d z s.heap := hP
  have hl : lv_has ls 3 [(0, .ref (d + 2*u + 19)), (1, .int (nI 7))] := hl
  have hS : va_S (bl d 59) s.heap s.heap [] := va_S.rf
  have hc20 : cn z ≤ 20 := hP.1
  refine lv_iconst (v := nI 0) hx hb dX4_raiseScores_0 (by decide) ?_
  refine lv_istore_n (lv' := [(2, .int (nI 0)), (0, .ref (d + 2*u + 19)), (1, .int (nI 7))]) hx hb dX4_raiseScores_1 rfl hl (by decide) rfl (fun ls hl => ?_)
  refine lv_iload_n hx hb dX4_raiseScores_2 rfl (lv_at hl 0 rfl) ?_
  refine lv_aload_n hx hb dX4_raiseScores_3 rfl (lv_at hl 1 rfl) ?_
  refine k_get S hK (dz_u hP u hu) rfl (fun _ h => List.mem_cons_of_mem _ (List.mem_append_right _ (h))) 0 (by decide) (List.mem_cons_of_mem _ (List.mem_append_left _ (List.mem_of_getElem? (i := 0) rfl))) rfl (v := .ref (d + 2*u + 20)) rfl dX4_raiseScores_4 ?_
  refine k_alen hx hb hK (t := 0) rfl (dz_sc hP u hu) dX4_raiseScores_7 ?_
  refine k_top (y := nI 4) rfl ?_
  refine n_ige (tgt := 33) hx hb dX4_raiseScores_8 (by decide) (by omega) (by omega) (fun h => absurd h (by decide)) (fun c8 => ?_)
  refine lv_aload_n hx hb dX4_raiseScores_11 rfl (lv_at hl 1 rfl) ?_
  refine k_get S hK (dz_u hP u hu) rfl (fun _ h => List.mem_cons_of_mem _ (List.mem_append_right _ (h))) 0 (by decide) (List.mem_cons_of_mem _ (List.mem_append_left _ (List.mem_of_getElem? (i := 0) rfl))) rfl (v := .ref (d + 2*u + 20)) rfl dX4_raiseScores_12 ?_
  refine lv_iload_n hx hb dX4_raiseScores_15 rfl (lv_at hl 0 rfl) ?_
  refine lv_aload_n hx hb dX4_raiseScores_16 rfl (lv_at hl 1 rfl) ?_
  refine k_get S hK (dz_u hP u hu) rfl (fun _ h => List.mem_cons_of_mem _ (List.mem_append_right _ (h))) 0 (by decide) (List.mem_cons_of_mem _ (List.mem_append_left _ (List.mem_of_getElem? (i := 0) rfl))) rfl (v := .ref (d + 2*u + 20)) rfl dX4_raiseScores_17 ?_
  refine lv_iload_n hx hb dX4_raiseScores_20 rfl (lv_at hl 0 rfl) ?_
  refine k_iald hx hb hK (dz_sc hP u hu) (by omega) (by decide) (v := z (13*u + 64)) (congrArg _ (show 13*u + 0 + 64 = 13*u + 64 by omega)) dX4_raiseScores_21 ?_
  refine lv_iload_n hx hb dX4_raiseScores_22 rfl (lv_at hl 2 rfl) ?_
  refine k_mmax hx hb (by rw [S.2.2.1]; exact hl.1.symm) S.2.2.2.1 (hts _ (List.mem_cons_of_mem _ (List.mem_append_left _ (List.mem_of_getElem? (i := 1) rfl)))) (hts _ (List.mem_cons_of_mem _ (List.mem_append_left _ (List.mem_of_getElem? (i := 2) rfl)))) (hts _ (List.mem_cons_of_mem _ (List.mem_append_left _ (List.mem_of_getElem? (i := 3) rfl)))) (hts _ (List.mem_cons_of_mem _ (List.mem_append_left _ (List.mem_of_getElem? (i := 4) rfl)))) (Nat.le_of_ble_eq_true rfl) (Nat.le_of_ble_eq_true rfl) (Nat.zero_le _) (Nat.zero_le _) dX4_raiseScores_23 ?_
  refine k_top (y := scr z u 0 (nI 1)) ((show scr z u 0 (nI 1) = mmaxI (z (13*u + 64)) (nI 7) from scr_1).symm) ?_
  refine dz_astU hu hx hb hK hP (by omega) hS (fun _ h => h) dX4_raiseScores_26 (fun H locs hP zH fH hS => ?_)
  rw [show 13*u + 0 + 64 = 13*u + 64 by omega] at hP
  refine lv_iinc (v := nI 1) (lv' := [(2, .int (nI 1)), (0, .ref (d + 2*u + 19)), (1, .int (nI 7))]) hx hb dX4_raiseScores_27 hl (k := 0) rfl (by decide) (by decide) rfl (fun ls hl => ?_)
  refine lv_goto (tgt := 2) hx hb dX4_raiseScores_30 (by decide) ?_
  refine lv_iload_n hx hb dX4_raiseScores_2 rfl (lv_at hl 0 rfl) ?_
  refine lv_aload_n hx hb dX4_raiseScores_3 rfl (lv_at hl 1 rfl) ?_
  refine k_get S hK (dz_u hP u (by rw [cn_u (by omega)]; exact hu)) rfl (fun _ h => List.mem_cons_of_mem _ (List.mem_append_right _ (h))) 0 (by decide) (List.mem_cons_of_mem _ (List.mem_append_left _ (List.mem_of_getElem? (i := 0) rfl))) rfl (v := .ref (d + 2*u + 20)) rfl dX4_raiseScores_4 ?_
  refine k_alen hx hb hK (t := 0) rfl (dz_sc hP u (by rw [cn_u (by omega)]; exact hu)) dX4_raiseScores_7 ?_
  refine k_top (y := nI 4) rfl ?_
  refine n_ige (tgt := 33) hx hb dX4_raiseScores_8 (by decide) (by omega) (by omega) (fun h => absurd h (by decide)) (fun c8_1 => ?_)
  refine lv_aload_n hx hb dX4_raiseScores_11 rfl (lv_at hl 1 rfl) ?_
  refine k_get S hK (dz_u hP u (by rw [cn_u (by omega)]; exact hu)) rfl (fun _ h => List.mem_cons_of_mem _ (List.mem_append_right _ (h))) 0 (by decide) (List.mem_cons_of_mem _ (List.mem_append_left _ (List.mem_of_getElem? (i := 0) rfl))) rfl (v := .ref (d + 2*u + 20)) rfl dX4_raiseScores_12 ?_
  refine lv_iload_n hx hb dX4_raiseScores_15 rfl (lv_at hl 0 rfl) ?_
  refine lv_aload_n hx hb dX4_raiseScores_16 rfl (lv_at hl 1 rfl) ?_
  refine k_get S hK (dz_u hP u (by rw [cn_u (by omega)]; exact hu)) rfl (fun _ h => List.mem_cons_of_mem _ (List.mem_append_right _ (h))) 0 (by decide) (List.mem_cons_of_mem _ (List.mem_append_left _ (List.mem_of_getElem? (i := 0) rfl))) rfl (v := .ref (d + 2*u + 20)) rfl dX4_raiseScores_17 ?_
  refine lv_iload_n hx hb dX4_raiseScores_20 rfl (lv_at hl 0 rfl) ?_
  refine k_iald hx hb hK (dz_sc hP u (by rw [cn_u (by omega)]; exact hu)) (by omega) (by decide) (v := z (13*u + 65)) (Eq.trans (congrArg _ (show 13*u + 1 + 64 = 13*u + 65 by omega)) ((upd_n (by omega)).trans (rfl))) dX4_raiseScores_21 ?_
  refine lv_iload_n hx hb dX4_raiseScores_22 rfl (lv_at hl 2 rfl) ?_
  refine k_mmax hx hb (by rw [S.2.2.1]; exact hl.1.symm) S.2.2.2.1 (hts _ (List.mem_cons_of_mem _ (List.mem_append_left _ (List.mem_of_getElem? (i := 1) rfl)))) (hts _ (List.mem_cons_of_mem _ (List.mem_append_left _ (List.mem_of_getElem? (i := 2) rfl)))) (hts _ (List.mem_cons_of_mem _ (List.mem_append_left _ (List.mem_of_getElem? (i := 3) rfl)))) (hts _ (List.mem_cons_of_mem _ (List.mem_append_left _ (List.mem_of_getElem? (i := 4) rfl)))) (Nat.le_of_ble_eq_true rfl) (Nat.le_of_ble_eq_true rfl) (Nat.zero_le _) (Nat.zero_le _) dX4_raiseScores_23 ?_
  refine k_top (y := scr z u 1 (nI 1)) ((show scr z u 1 (nI 1) = mmaxI (z (13*u + 65)) (nI 7) from scr_1).symm) ?_
  refine dz_astU (by rw [cn_u (by omega)]; exact hu) hx hb hK hP (by omega) hS (fun _ h => h) dX4_raiseScores_26 (fun H locs hP zH fH hS => ?_)
  rw [show 13*u + 1 + 64 = 13*u + 65 by omega] at hP
  refine lv_iinc (v := nI 2) (lv' := [(2, .int (nI 2)), (0, .ref (d + 2*u + 19)), (1, .int (nI 7))]) hx hb dX4_raiseScores_27 hl (k := 0) rfl (by decide) (by decide) rfl (fun ls hl => ?_)
  refine lv_goto (tgt := 2) hx hb dX4_raiseScores_30 (by decide) ?_
  refine lv_iload_n hx hb dX4_raiseScores_2 rfl (lv_at hl 0 rfl) ?_
  refine lv_aload_n hx hb dX4_raiseScores_3 rfl (lv_at hl 1 rfl) ?_
  refine k_get S hK (dz_u hP u (by rw [cn_u (by omega), cn_u (by omega)]; exact hu)) rfl (fun _ h => List.mem_cons_of_mem _ (List.mem_append_right _ (h))) 0 (by decide) (List.mem_cons_of_mem _ (List.mem_append_left _ (List.mem_of_getElem? (i := 0) rfl))) rfl (v := .ref (d + 2*u + 20)) rfl dX4_raiseScores_4 ?_
  refine k_alen hx hb hK (t := 0) rfl (dz_sc hP u (by rw [cn_u (by omega), cn_u (by omega)]; exact hu)) dX4_raiseScores_7 ?_
  refine k_top (y := nI 4) rfl ?_
  refine n_ige (tgt := 33) hx hb dX4_raiseScores_8 (by decide) (by omega) (by omega) (fun h => absurd h (by decide)) (fun c8_2 => ?_)
  refine lv_aload_n hx hb dX4_raiseScores_11 rfl (lv_at hl 1 rfl) ?_
  refine k_get S hK (dz_u hP u (by rw [cn_u (by omega), cn_u (by omega)]; exact hu)) rfl (fun _ h => List.mem_cons_of_mem _ (List.mem_append_right _ (h))) 0 (by decide) (List.mem_cons_of_mem _ (List.mem_append_left _ (List.mem_of_getElem? (i := 0) rfl))) rfl (v := .ref (d + 2*u + 20)) rfl dX4_raiseScores_12 ?_
  refine lv_iload_n hx hb dX4_raiseScores_15 rfl (lv_at hl 0 rfl) ?_
  refine lv_aload_n hx hb dX4_raiseScores_16 rfl (lv_at hl 1 rfl) ?_
  refine k_get S hK (dz_u hP u (by rw [cn_u (by omega), cn_u (by omega)]; exact hu)) rfl (fun _ h => List.mem_cons_of_mem _ (List.mem_append_right _ (h))) 0 (by decide) (List.mem_cons_of_mem _ (List.mem_append_left _ (List.mem_of_getElem? (i := 0) rfl))) rfl (v := .ref (d + 2*u + 20)) rfl dX4_raiseScores_17 ?_
  refine lv_iload_n hx hb dX4_raiseScores_20 rfl (lv_at hl 0 rfl) ?_
  refine k_iald hx hb hK (dz_sc hP u (by rw [cn_u (by omega), cn_u (by omega)]; exact hu)) (by omega) (by decide) (v := z (13*u + 66)) (Eq.trans (congrArg _ (show 13*u + 2 + 64 = 13*u + 66 by omega)) ((upd_n (by omega)).trans ((upd_n (by omega)).trans (rfl)))) dX4_raiseScores_21 ?_
  refine lv_iload_n hx hb dX4_raiseScores_22 rfl (lv_at hl 2 rfl) ?_
  refine k_mmax hx hb (by rw [S.2.2.1]; exact hl.1.symm) S.2.2.2.1 (hts _ (List.mem_cons_of_mem _ (List.mem_append_left _ (List.mem_of_getElem? (i := 1) rfl)))) (hts _ (List.mem_cons_of_mem _ (List.mem_append_left _ (List.mem_of_getElem? (i := 2) rfl)))) (hts _ (List.mem_cons_of_mem _ (List.mem_append_left _ (List.mem_of_getElem? (i := 3) rfl)))) (hts _ (List.mem_cons_of_mem _ (List.mem_append_left _ (List.mem_of_getElem? (i := 4) rfl)))) (Nat.le_of_ble_eq_true rfl) (Nat.le_of_ble_eq_true rfl) (Nat.zero_le _) (Nat.zero_le _) dX4_raiseScores_23 ?_
  refine k_top (y := scr z u 2 (nI 1)) ((show scr z u 2 (nI 1) = mmaxI (z (13*u + 66)) (nI 7) from scr_1).symm) ?_
  refine dz_astU (by rw [cn_u (by omega), cn_u (by omega)]; exact hu) hx hb hK hP (by omega) hS (fun _ h => h) dX4_raiseScores_26 (fun H locs hP zH fH hS => ?_)
  rw [show 13*u + 2 + 64 = 13*u + 66 by omega] at hP
  refine lv_iinc (v := nI 3) (lv' := [(2, .int (nI 3)), (0, .ref (d + 2*u + 19)), (1, .int (nI 7))]) hx hb dX4_raiseScores_27 hl (k := 0) rfl (by decide) (by decide) rfl (fun ls hl => ?_)
  refine lv_goto (tgt := 2) hx hb dX4_raiseScores_30 (by decide) ?_
  refine lv_iload_n hx hb dX4_raiseScores_2 rfl (lv_at hl 0 rfl) ?_
  refine lv_aload_n hx hb dX4_raiseScores_3 rfl (lv_at hl 1 rfl) ?_
  refine k_get S hK (dz_u hP u (by rw [cn_u (by omega), cn_u (by omega), cn_u (by omega)]; exact hu)) rfl (fun _ h => List.mem_cons_of_mem _ (List.mem_append_right _ (h))) 0 (by decide) (List.mem_cons_of_mem _ (List.mem_append_left _ (List.mem_of_getElem? (i := 0) rfl))) rfl (v := .ref (d + 2*u + 20)) rfl dX4_raiseScores_4 ?_
  refine k_alen hx hb hK (t := 0) rfl (dz_sc hP u (by rw [cn_u (by omega), cn_u (by omega), cn_u (by omega)]; exact hu)) dX4_raiseScores_7 ?_
  refine k_top (y := nI 4) rfl ?_
  refine n_ige (tgt := 33) hx hb dX4_raiseScores_8 (by decide) (by omega) (by omega) (fun h => absurd h (by decide)) (fun c8_3 => ?_)
  refine lv_aload_n hx hb dX4_raiseScores_11 rfl (lv_at hl 1 rfl) ?_
  refine k_get S hK (dz_u hP u (by rw [cn_u (by omega), cn_u (by omega), cn_u (by omega)]; exact hu)) rfl (fun _ h => List.mem_cons_of_mem _ (List.mem_append_right _ (h))) 0 (by decide) (List.mem_cons_of_mem _ (List.mem_append_left _ (List.mem_of_getElem? (i := 0) rfl))) rfl (v := .ref (d + 2*u + 20)) rfl dX4_raiseScores_12 ?_
  refine lv_iload_n hx hb dX4_raiseScores_15 rfl (lv_at hl 0 rfl) ?_
  refine lv_aload_n hx hb dX4_raiseScores_16 rfl (lv_at hl 1 rfl) ?_
  refine k_get S hK (dz_u hP u (by rw [cn_u (by omega), cn_u (by omega), cn_u (by omega)]; exact hu)) rfl (fun _ h => List.mem_cons_of_mem _ (List.mem_append_right _ (h))) 0 (by decide) (List.mem_cons_of_mem _ (List.mem_append_left _ (List.mem_of_getElem? (i := 0) rfl))) rfl (v := .ref (d + 2*u + 20)) rfl dX4_raiseScores_17 ?_
  refine lv_iload_n hx hb dX4_raiseScores_20 rfl (lv_at hl 0 rfl) ?_
  refine k_iald hx hb hK (dz_sc hP u (by rw [cn_u (by omega), cn_u (by omega), cn_u (by omega)]; exact hu)) (by omega) (by decide) (v := z (13*u + 67)) (Eq.trans (congrArg _ (show 13*u + 3 + 64 = 13*u + 67 by omega)) ((upd_n (by omega)).trans ((upd_n (by omega)).trans ((upd_n (by omega)).trans (rfl))))) dX4_raiseScores_21 ?_
  refine lv_iload_n hx hb dX4_raiseScores_22 rfl (lv_at hl 2 rfl) ?_
  refine k_mmax hx hb (by rw [S.2.2.1]; exact hl.1.symm) S.2.2.2.1 (hts _ (List.mem_cons_of_mem _ (List.mem_append_left _ (List.mem_of_getElem? (i := 1) rfl)))) (hts _ (List.mem_cons_of_mem _ (List.mem_append_left _ (List.mem_of_getElem? (i := 2) rfl)))) (hts _ (List.mem_cons_of_mem _ (List.mem_append_left _ (List.mem_of_getElem? (i := 3) rfl)))) (hts _ (List.mem_cons_of_mem _ (List.mem_append_left _ (List.mem_of_getElem? (i := 4) rfl)))) (Nat.le_of_ble_eq_true rfl) (Nat.le_of_ble_eq_true rfl) (Nat.zero_le _) (Nat.zero_le _) dX4_raiseScores_23 ?_
  refine k_top (y := scr z u 3 (nI 1)) ((show scr z u 3 (nI 1) = mmaxI (z (13*u + 67)) (nI 7) from scr_1).symm) ?_
  refine dz_astU (by rw [cn_u (by omega), cn_u (by omega), cn_u (by omega)]; exact hu) hx hb hK hP (by omega) hS (fun _ h => h) dX4_raiseScores_26 (fun H locs hP zH fH hS => ?_)
  rw [show 13*u + 3 + 64 = 13*u + 67 by omega] at hP
  refine lv_iinc (v := nI 4) (lv' := [(2, .int (nI 4)), (0, .ref (d + 2*u + 19)), (1, .int (nI 7))]) hx hb dX4_raiseScores_27 hl (k := 0) rfl (by decide) (by decide) rfl (fun ls hl => ?_)
  refine lv_goto (tgt := 2) hx hb dX4_raiseScores_30 (by decide) ?_
  refine lv_iload_n hx hb dX4_raiseScores_2 rfl (lv_at hl 0 rfl) ?_
  refine lv_aload_n hx hb dX4_raiseScores_3 rfl (lv_at hl 1 rfl) ?_
  refine k_get S hK (dz_u hP u (by rw [cn_u (by omega), cn_u (by omega), cn_u (by omega), cn_u (by omega)]; exact hu)) rfl (fun _ h => List.mem_cons_of_mem _ (List.mem_append_right _ (h))) 0 (by decide) (List.mem_cons_of_mem _ (List.mem_append_left _ (List.mem_of_getElem? (i := 0) rfl))) rfl (v := .ref (d + 2*u + 20)) rfl dX4_raiseScores_4 ?_
  refine k_alen hx hb hK (t := 0) rfl (dz_sc hP u (by rw [cn_u (by omega), cn_u (by omega), cn_u (by omega), cn_u (by omega)]; exact hu)) dX4_raiseScores_7 ?_
  refine k_top (y := nI 4) rfl ?_
  refine n_ige (tgt := 33) hx hb dX4_raiseScores_8 (by decide) (by omega) (by omega) (fun c8_4 => ?_) (fun h => absurd h (by decide))
  exact k_vretM hx hb hr hlk dX4_raiseScores_33 hS (show dz E d (sco z u) _ from hP)
def rm_X5_canPay : Room := { frames := 0, cells := 0, slots := 0, locals := 0 }
theorem hd_X5_canPay : k_hd1 yX5_canPay RX5 1 := by decide +kernel
set_option maxHeartbeats 4000000 in
set_option maxRecDepth 100000 in
theorem c_X5_canPay (l : Launch) (E : ke_E) (d : Nat) (z : Nat → Int32) (v : Nat) (x : Int32) (hv4 : v < 4) : Met l yX5_canPay wsX5_canPay rm_X5_canPay (kp E [.ref (d + 2*v + 11), .int x] (dz E d z)) (qp (some (.int (bI (¬ z (8*v + 30) < z (8*v + 31) + x))))) 0 0 nof := by
  refine k_hd (cc := cX5_canPay) (maxL := 2) (ret := (some .boolean)) (by decide) rfl (Nat.le_of_ble_eq_true rfl) ?_
  intro p e s m below meth c ls S hr hlk hnm hK hP hl
  have hx := S.1
  have hb := S.2.1
  have hts := S.2.2.2.2
  have hP : dz E d z s.heap := hP
  have hl : lv_has ls 2 [(0, .ref (d + 2*v + 11)), (1, .int x)] := hl
  refine lv_aload_n hx hb dX5_canPay_0 rfl (lv_at hl 0 rfl) ?_
  refine k_get S hK (dz_v hP v hv4) rfl (fun _ h => List.mem_cons_of_mem _ (List.mem_append_right _ (h))) 2 (by decide) (List.mem_cons_of_mem _ (List.mem_append_left _ (List.mem_of_getElem? (i := 0) rfl))) rfl (v := .int (z (8*v + 31))) rfl dX5_canPay_1 ?_
  refine lv_iload_n hx hb dX5_canPay_4 rfl (lv_at hl 1 rfl) ?_
  refine lv_iadd hx hb dX5_canPay_5 ?_
  refine lv_aload_n hx hb dX5_canPay_6 rfl (lv_at hl 0 rfl) ?_
  refine k_get S hK (dz_v hP v hv4) rfl (fun _ h => List.mem_cons_of_mem _ (List.mem_append_right _ (h))) 1 (by decide) (List.mem_cons_of_mem _ (List.mem_append_left _ (List.mem_of_getElem? (i := 1) rfl))) rfl (v := .int (z (8*v + 30))) rfl dX5_canPay_7 ?_
  refine lv_icmp_gt (tgt := 17) hx hb dX5_canPay_10 (by decide) (fun c10 => ?_) (fun c10 => ?_)
  · refine lv_iconst (v := nI 0) hx hb dX5_canPay_17 (by decide) ?_
    exact k_bret hx hb hr hlk dX5_canPay_18 rfl (bI_f (fun h => h c10))
  · refine lv_iconst (v := nI 1) hx hb dX5_canPay_13 (by decide) ?_
    refine lv_goto (tgt := 18) hx hb dX5_canPay_14 (by decide) ?_
    exact k_bret hx hb hr hlk dX5_canPay_18 rfl (bI_t c10)
def rm_X5_payClaim : Room := { frames := 0, cells := 0, slots := 0, locals := 0 }
theorem hd_X5_payClaim : k_hd1 yX5_payClaim RX5 1 := by decide +kernel
set_option maxHeartbeats 4000000 in
set_option maxRecDepth 100000 in
theorem c_X5_payClaim (l : Launch) (E : ke_E) (d : Nat) (z : Nat → Int32) (v : Nat) (x : Int32) (hv4 : v < 4) : Met l yX5_payClaim wsX5_payClaim rm_X5_payClaim (kp E [.ref (d + 2*v + 11), .int x] (dz E d z)) (qm none (bl d 59) (dz E d (upd (upd z (8*v + 31) ((z (8*v + 31)) + x)) (8*v + 32) ((z (8*v + 32)) + x)))) 0 0 (bl d 59) := by
  refine k_hd (cc := cX5_payClaim) (maxL := 2) (ret := none) (by decide) rfl (Nat.le_of_ble_eq_true rfl) ?_
  intro p e s m below meth c ls S hr hlk hnm hK hP hl
  have hx := S.1
  have hb := S.2.1
  have hts := S.2.2.2.2
  have hP : dz E d z s.heap := hP
  have hl : lv_has ls 2 [(0, .ref (d + 2*v + 11)), (1, .int x)] := hl
  have hS : va_S (bl d 59) s.heap s.heap [] := va_S.rf
  refine lv_aload_n hx hb dX5_payClaim_0 rfl (lv_at hl 0 rfl) ?_
  refine lv_dup hx hb dX5_payClaim_1 rfl ?_
  refine k_get S hK (dz_v hP v hv4) rfl (fun _ h => List.mem_cons_of_mem _ (List.mem_append_right _ (h))) 2 (by decide) (List.mem_cons_of_mem _ (List.mem_append_left _ (List.mem_of_getElem? (i := 0) rfl))) rfl (v := .int (z (8*v + 31))) rfl dX5_payClaim_2 ?_
  refine lv_iload_n hx hb dX5_payClaim_5 rfl (lv_at hl 1 rfl) ?_
  refine lv_iadd hx hb dX5_payClaim_6 ?_
  refine dz_putV hv4 S hK hP (fun _ h => List.mem_cons_of_mem _ (List.mem_append_right _ (h))) 2 (by decide) (List.mem_cons_of_mem _ (List.mem_append_left _ (List.mem_of_getElem? (i := 0) rfl))) rfl rfl rfl rfl (j := 31) (fun z9 => by simp [ve_F, upd]) (by decide) hS (fun _ h => h) dX5_payClaim_7 (fun H locs hP zH fH hS => ?_)
  refine lv_aload_n hx hb dX5_payClaim_10 rfl (lv_at hl 0 rfl) ?_
  refine lv_dup hx hb dX5_payClaim_11 rfl ?_
  refine k_get S hK (dz_v hP v hv4) rfl (fun _ h => List.mem_cons_of_mem _ (List.mem_append_right _ (h))) 3 (by decide) (List.mem_cons_of_mem _ (List.mem_append_left _ (List.mem_of_getElem? (i := 1) rfl))) rfl (v := .int (z (8*v + 32))) (congrArg (fun x => some (Value.int x)) ((upd_n (by omega)).trans (rfl))) dX5_payClaim_12 ?_
  refine lv_iload_n hx hb dX5_payClaim_15 rfl (lv_at hl 1 rfl) ?_
  refine lv_iadd hx hb dX5_payClaim_16 ?_
  refine dz_putV hv4 S hK hP (fun _ h => List.mem_cons_of_mem _ (List.mem_append_right _ (h))) 3 (by decide) (List.mem_cons_of_mem _ (List.mem_append_left _ (List.mem_of_getElem? (i := 1) rfl))) rfl rfl rfl rfl (j := 32) (fun z9 => by simp [ve_F, upd]) (by decide) hS (fun _ h => h) dX5_payClaim_17 (fun H locs hP zH fH hS => ?_)
  exact k_vretM hx hb hr hlk dX5_payClaim_20 hS hP
def rm_X1_productUnder : Room := { frames := 1, cells := 0, slots := 0, locals := 21 }
theorem hd_X1_productUnder : k_hd1 yX1_productUnder RX1 1 := by decide +kernel
set_option maxHeartbeats 4000000 in
set_option maxRecDepth 100000 in
theorem c_X1_productUnder (l : Launch) (E : ke_E) (d : Nat) (z : Nat → Int32) (u : Nat) (hI : iv z) (hu : u < cn z) : Met l yX1_productUnder wsX1_productUnder rm_X1_productUnder (kp E [.ref d, .ref (d + 2*u + 19)] (dz E d z)) (qp (some (.ref (d + (up z u) + 5)))) 0 0 nof := by
  refine k_hd (cc := cX1_productUnder) (maxL := 2) (ret := (some (.object "ReturnGrades$Product"))) (by decide) rfl (Nat.le_of_ble_eq_true rfl) ?_
  intro p e s m below meth c ls S hr hlk hnm hK hP hl
  have hx := S.1
  have hb := S.2.1
  have hts := S.2.2.2.2
  have hP : dz E d z s.heap := hP
  have hl : lv_has ls 2 [(0, .ref d), (1, .ref (d + 2*u + 19))] := hl
  have hc20 := iv_c hI
  have hup6 := iv_upl hI hu
  refine lv_aload_n hx hb dX1_productUnder_0 rfl (lv_at hl 0 rfl) ?_
  refine k_get S hK (dz_d hP) rfl (fun _ h => List.mem_cons_of_mem _ (List.mem_append_left _ (List.mem_append_right _ (h)))) 0 (by decide) (List.mem_cons_of_mem _ (List.mem_append_left _ (List.mem_append_left _ (List.mem_of_getElem? (i := 0) rfl)))) rfl (v := .ref (d + 1)) rfl dX1_productUnder_1 ?_
  refine lv_aload_n hx hb dX1_productUnder_4 rfl (lv_at hl 1 rfl) ?_
  have hq1 := iv_upl hI hu
  refine k_get S hK (dz_u hP u hu) rfl (fun _ h => List.mem_cons_of_mem _ (List.mem_append_right _ (h))) 1 (by decide) (List.mem_cons_of_mem _ (List.mem_append_left _ (List.mem_append_left _ (List.mem_of_getElem? (i := 1) rfl)))) rfl (v := .int (nI (up z u))) (congrArg (fun x => some (Value.int x)) ((iv_up hI hu))) dX1_productUnder_5 ?_
  refine lv_aload_n hx hb dX1_productUnder_8 rfl (lv_at hl 0 rfl) ?_
  refine k_get S hK (dz_d hP) rfl (fun _ h => List.mem_cons_of_mem _ (List.mem_append_left _ (List.mem_append_right _ (h)))) 0 (by decide) (List.mem_cons_of_mem _ (List.mem_append_left _ (List.mem_append_left _ (List.mem_of_getElem? (i := 0) rfl)))) rfl (v := .ref (d + 1)) rfl dX1_productUnder_9 ?_
  refine k_alen hx hb hK (t := 1) rfl (dz_pa hP) dX1_productUnder_12 ?_
  refine k_top (y := nI 6) rfl ?_
  refine k_SN (q := (RX1, 74, yX6_inside, RX6)) (As := [.int (nI (up z u)), .int (nI 6)]) (rest := [.ref (d + 1)]) S hK (List.mem_of_getElem? (i := 7) rfl) (c_X6_inside l E (up z u) 6 (by omega) (by omega)) ggX1_productUnder_X6_inside rfl hd_X6_inside (List.mem_cons_of_mem _ (List.mem_append_left _ (List.mem_append_left _ (List.mem_of_getElem? (i := 2) rfl)))) (List.mem_cons_of_mem _ (List.mem_append_left _ (List.mem_append_left _ (List.mem_of_getElem? (i := 3) rfl)))) ⟨rfl, rfl⟩ ⟨Nat.le_of_ble_eq_true rfl, Nat.le_of_ble_eq_true rfl⟩ trivial rfl hl.1 rfl (Nat.le_of_ble_eq_true rfl) dX1_productUnder_13 ⟨Nat.le_of_ble_eq_true rfl, Nat.le_of_ble_eq_true rfl⟩ ?_
  refine k_aald hx hb hK (t := 1) rfl (dz_pa hP) (by omega) (by decide) (v := d + (up z u) + 5) rfl dX1_productUnder_16 ?_
  exact k_aret hx hb hr hlk dX1_productUnder_17 (rfl)
def rm_X1_vendorUnder : Room := { frames := 1, cells := 0, slots := 0, locals := 21 }
theorem hd_X1_vendorUnder : k_hd1 yX1_vendorUnder RX1 1 := by decide +kernel
set_option maxHeartbeats 4000000 in
set_option maxRecDepth 100000 in
theorem c_X1_vendorUnder (l : Launch) (E : ke_E) (d : Nat) (z : Nat → Int32) (v : Nat) (hv4 : v < 4) : Met l yX1_vendorUnder wsX1_vendorUnder rm_X1_vendorUnder (kp E [.ref d, .int (nI v)] (dz E d z)) (qp (some (.ref (d + 2*v + 11)))) 0 0 nof := by
  refine k_hd (cc := cX1_vendorUnder) (maxL := 2) (ret := (some (.object "ReturnGrades$Vendor"))) (by decide) rfl (Nat.le_of_ble_eq_true rfl) ?_
  intro p e s m below meth c ls S hr hlk hnm hK hP hl
  have hx := S.1
  have hb := S.2.1
  have hts := S.2.2.2.2
  have hP : dz E d z s.heap := hP
  have hl : lv_has ls 2 [(0, .ref d), (1, .int (nI v))] := hl
  refine lv_aload_n hx hb dX1_vendorUnder_0 rfl (lv_at hl 0 rfl) ?_
  refine k_get S hK (dz_d hP) rfl (fun _ h => List.mem_cons_of_mem _ (List.mem_append_right _ (h))) 1 (by decide) (List.mem_cons_of_mem _ (List.mem_append_left _ (List.mem_of_getElem? (i := 0) rfl))) rfl (v := .ref (d + 2)) rfl dX1_vendorUnder_1 ?_
  refine lv_iload_n hx hb dX1_vendorUnder_4 rfl (lv_at hl 1 rfl) ?_
  refine lv_aload_n hx hb dX1_vendorUnder_5 rfl (lv_at hl 0 rfl) ?_
  refine k_get S hK (dz_d hP) rfl (fun _ h => List.mem_cons_of_mem _ (List.mem_append_right _ (h))) 1 (by decide) (List.mem_cons_of_mem _ (List.mem_append_left _ (List.mem_of_getElem? (i := 0) rfl))) rfl (v := .ref (d + 2)) rfl dX1_vendorUnder_6 ?_
  refine k_alen hx hb hK (t := 2) rfl (dz_va hP) dX1_vendorUnder_9 ?_
  refine k_top (y := nI 4) rfl ?_
  refine k_SN (q := (RX1, 74, yX6_inside, RX6)) (As := [.int (nI v), .int (nI 4)]) (rest := [.ref (d + 2)]) S hK (List.mem_of_getElem? (i := 7) rfl) (c_X6_inside l E v 4 hv4 (by omega)) ggX1_vendorUnder_X6_inside rfl hd_X6_inside (List.mem_cons_of_mem _ (List.mem_append_left _ (List.mem_of_getElem? (i := 1) rfl))) (List.mem_cons_of_mem _ (List.mem_append_left _ (List.mem_of_getElem? (i := 2) rfl))) ⟨rfl, rfl⟩ ⟨Nat.le_of_ble_eq_true rfl, Nat.le_of_ble_eq_true rfl⟩ trivial rfl hl.1 rfl (Nat.le_of_ble_eq_true rfl) dX1_vendorUnder_10 ⟨Nat.le_of_ble_eq_true rfl, Nat.le_of_ble_eq_true rfl⟩ ?_
  refine k_aald hx hb hK (t := 2) rfl (dz_va hP) (by omega) (by decide) (v := d + 2*v + 11) rfl dX1_vendorUnder_13 ?_
  exact k_aret hx hb hr hlk dX1_vendorUnder_14 (rfl)
def rm_X1_isHeld : Room := { frames := 2, cells := 0, slots := 0, locals := 42 }
theorem hd_X1_isHeld : k_hd1 yX1_isHeld RX1 1 := by decide +kernel
set_option maxHeartbeats 4000000 in
set_option maxRecDepth 100000 in
theorem c_X1_isHeld (l : Launch) (E : ke_E) (d : Nat) (z : Nat → Int32) (u : Nat) (hI : iv z) (hu : u < cn z) : Met l yX1_isHeld wsX1_isHeld rm_X1_isHeld (kp E [.ref d, .ref (d + 2*u + 19)] (dz E d z)) (qp (some (.int (bI (hld z u))))) 0 0 nof := by
  refine k_hd (cc := cX1_isHeld) (maxL := 2) (ret := (some .boolean)) (by decide) rfl (Nat.le_of_ble_eq_true rfl) ?_
  intro p e s m below meth c ls S hr hlk hnm hK hP hl
  have hx := S.1
  have hb := S.2.1
  have hts := S.2.2.2.2
  have hP : dz E d z s.heap := hP
  have hl : lv_has ls 2 [(0, .ref d), (1, .ref (d + 2*u + 19))] := hl
  have hc20 := iv_c hI
  have hup6 := iv_upl hI hu
  refine lv_aload_n hx hb dX1_isHeld_0 rfl (lv_at hl 1 rfl) ?_
  refine k_V (As := []) (rest := []) S hK (c_X4_isHere l E d z u hu) gX1_isHeld_X4_isHere rfl hd_X4_isHere ⟨rfl, rfl⟩ ⟨Nat.le_of_ble_eq_true rfl, Nat.le_of_ble_eq_true rfl⟩ (k_recv hK (dz_u hP u hu) rfl) hP rfl hl.1 rfl (Nat.le_of_ble_eq_true rfl) dX1_isHeld_1 ⟨Nat.le_of_ble_eq_true rfl, Nat.le_of_ble_eq_true rfl⟩ ?_
  refine b_eq (tgt := 22) hx hb dX1_isHeld_4 (by decide) (fun c4 => ?_) (fun c4 => ?_)
  · refine lv_iconst (v := nI 0) hx hb dX1_isHeld_22 (by decide) ?_
    exact k_bret hx hb hr hlk dX1_isHeld_23 rfl (bI_f (fun h => c4 ((her_hld hI hu).mp h).1))
  · refine lv_aload_n hx hb dX1_isHeld_7 rfl (lv_at hl 0 rfl) ?_
    refine lv_aload_n hx hb dX1_isHeld_8 rfl (lv_at hl 1 rfl) ?_
    refine k_V (As := [.ref (d + 2*u + 19)]) (rest := []) S hK (c_X1_productUnder l E d z u hI hu) gX1_isHeld_X1_productUnder rfl hd_X1_productUnder ⟨rfl, rfl⟩ ⟨Nat.le_of_ble_eq_true rfl, Nat.le_of_ble_eq_true rfl⟩ (k_recv hK (dz_d hP) rfl) hP rfl hl.1 rfl (Nat.le_of_ble_eq_true rfl) dX1_isHeld_9 ⟨Nat.le_of_ble_eq_true rfl, Nat.le_of_ble_eq_true rfl⟩ ?_
    refine k_get S hK (dz_p hP (up z u) (by omega)) rfl (fun _ h => List.mem_cons_of_mem _ (List.mem_append_left _ (List.mem_append_left _ (List.mem_append_right _ (h))))) 2 (by decide) (List.mem_cons_of_mem _ (List.mem_append_left _ (List.mem_append_left _ (List.mem_append_left _ (List.mem_of_getElem? (i := 0) rfl))))) rfl (v := .int (z (3*up z u + 14))) rfl dX1_isHeld_12 ?_
    refine lv_if_eq (tgt := 22) hx hb dX1_isHeld_15 (by decide) (fun c15 => ?_) (fun c15 => ?_)
    · refine lv_iconst (v := nI 0) hx hb dX1_isHeld_22 (by decide) ?_
      exact k_bret hx hb hr hlk dX1_isHeld_23 rfl (bI_f (fun h => ((her_hld hI hu).mp h).2 c15))
    · refine lv_iconst (v := nI 1) hx hb dX1_isHeld_18 (by decide) ?_
      refine lv_goto (tgt := 23) hx hb dX1_isHeld_19 (by decide) ?_
      exact k_bret hx hb hr hlk dX1_isHeld_23 rfl (bI_t ((her_hld hI hu).mpr ⟨c4, c15⟩))
def rm_X1_gradeForSum : Room := { frames := 0, cells := 0, slots := 0, locals := 0 }
theorem hd_X1_gradeForSum : k_hd1 yX1_gradeForSum RX1 1 := by decide +kernel
set_option maxHeartbeats 4000000 in
set_option maxRecDepth 100000 in
theorem c_X1_gradeForSum (l : Launch) (E : ke_E) (d : Nat) (z : Nat → Int32) (x : Int32) : Met l yX1_gradeForSum wsX1_gradeForSum rm_X1_gradeForSum (kp E [.ref d, .int x] (dz E d z)) (qp (some (.int (gsm z x)))) 0 0 nof := by
  refine k_hd (cc := cX1_gradeForSum) (maxL := 3) (ret := (some .int)) (by decide) rfl (Nat.le_of_ble_eq_true rfl) ?_
  intro p e s m below meth c ls S hr hlk hnm hK hP hl
  have hx := S.1
  have hb := S.2.1
  have hts := S.2.2.2.2
  have hP : dz E d z s.heap := hP
  have hl : lv_has ls 3 [(0, .ref d), (1, .int x)] := hl
  refine lv_iconst (v := nI 0) hx hb dX1_gradeForSum_0 (by decide) ?_
  refine lv_istore_n (lv' := [(2, .int (nI 0)), (0, .ref d), (1, .int x)]) hx hb dX1_gradeForSum_1 rfl hl (by decide) rfl (fun ls hl => ?_)
  refine lv_iload_n hx hb dX1_gradeForSum_2 rfl (lv_at hl 0 rfl) ?_
  refine lv_iconst (v := nI 3) hx hb dX1_gradeForSum_3 (by decide) ?_
  refine n_ige (tgt := 34) hx hb dX1_gradeForSum_4 (by decide) (by omega) (by omega) (fun h => absurd h (by decide)) (fun c4 => ?_)
  refine lv_iload_n hx hb dX1_gradeForSum_7 rfl (lv_at hl 0 rfl) ?_
  refine lv_aload_n hx hb dX1_gradeForSum_8 rfl (lv_at hl 1 rfl) ?_
  refine k_get S hK (dz_d hP) rfl (fun _ h => List.mem_cons_of_mem _ (List.mem_append_right _ (h))) 3 (by decide) (List.mem_cons_of_mem _ (List.mem_append_left _ (List.mem_of_getElem? (i := 0) rfl))) rfl (v := .ref (d + 4)) rfl dX1_gradeForSum_9 ?_
  refine k_alen hx hb hK (t := 0) rfl (dz_st hP) dX1_gradeForSum_12 ?_
  refine k_top (y := nI 5) rfl ?_
  refine n_ige (tgt := 34) hx hb dX1_gradeForSum_13 (by decide) (by omega) (by omega) (fun h => absurd h (by decide)) (fun c13 => ?_)
  refine lv_iload_n hx hb dX1_gradeForSum_16 rfl (lv_at hl 2 rfl) ?_
  refine lv_aload_n hx hb dX1_gradeForSum_17 rfl (lv_at hl 1 rfl) ?_
  refine k_get S hK (dz_d hP) rfl (fun _ h => List.mem_cons_of_mem _ (List.mem_append_right _ (h))) 3 (by decide) (List.mem_cons_of_mem _ (List.mem_append_left _ (List.mem_of_getElem? (i := 0) rfl))) rfl (v := .ref (d + 4)) rfl dX1_gradeForSum_18 ?_
  refine lv_iload_n hx hb dX1_gradeForSum_21 rfl (lv_at hl 0 rfl) ?_
  refine k_iald hx hb hK (dz_st hP) (by omega) (by decide) (v := z 7) rfl dX1_gradeForSum_22 ?_
  refine lv_icmp_lt (tgt := 28) hx hb dX1_gradeForSum_23 (by decide) (fun c23 => ?_) (fun c23 => ?_)
  · refine lv_iinc (v := nI 1) (lv' := [(2, .int (nI 1)), (0, .ref d), (1, .int x)]) hx hb dX1_gradeForSum_28 hl (k := 0) rfl (by decide) (by decide) rfl (fun ls hl => ?_)
    refine lv_goto (tgt := 2) hx hb dX1_gradeForSum_31 (by decide) ?_
    refine lv_iload_n hx hb dX1_gradeForSum_2 rfl (lv_at hl 0 rfl) ?_
    refine lv_iconst (v := nI 3) hx hb dX1_gradeForSum_3 (by decide) ?_
    refine n_ige (tgt := 34) hx hb dX1_gradeForSum_4 (by decide) (by omega) (by omega) (fun h => absurd h (by decide)) (fun c4_1 => ?_)
    refine lv_iload_n hx hb dX1_gradeForSum_7 rfl (lv_at hl 0 rfl) ?_
    refine lv_aload_n hx hb dX1_gradeForSum_8 rfl (lv_at hl 1 rfl) ?_
    refine k_get S hK (dz_d hP) rfl (fun _ h => List.mem_cons_of_mem _ (List.mem_append_right _ (h))) 3 (by decide) (List.mem_cons_of_mem _ (List.mem_append_left _ (List.mem_of_getElem? (i := 0) rfl))) rfl (v := .ref (d + 4)) rfl dX1_gradeForSum_9 ?_
    refine k_alen hx hb hK (t := 0) rfl (dz_st hP) dX1_gradeForSum_12 ?_
    refine k_top (y := nI 5) rfl ?_
    refine n_ige (tgt := 34) hx hb dX1_gradeForSum_13 (by decide) (by omega) (by omega) (fun h => absurd h (by decide)) (fun c13_1 => ?_)
    refine lv_iload_n hx hb dX1_gradeForSum_16 rfl (lv_at hl 2 rfl) ?_
    refine lv_aload_n hx hb dX1_gradeForSum_17 rfl (lv_at hl 1 rfl) ?_
    refine k_get S hK (dz_d hP) rfl (fun _ h => List.mem_cons_of_mem _ (List.mem_append_right _ (h))) 3 (by decide) (List.mem_cons_of_mem _ (List.mem_append_left _ (List.mem_of_getElem? (i := 0) rfl))) rfl (v := .ref (d + 4)) rfl dX1_gradeForSum_18 ?_
    refine lv_iload_n hx hb dX1_gradeForSum_21 rfl (lv_at hl 0 rfl) ?_
    refine k_iald hx hb hK (dz_st hP) (by omega) (by decide) (v := z 8) rfl dX1_gradeForSum_22 ?_
    refine lv_icmp_lt (tgt := 28) hx hb dX1_gradeForSum_23 (by decide) (fun c23_1 => ?_) (fun c23_1 => ?_)
    · refine lv_iinc (v := nI 2) (lv' := [(2, .int (nI 2)), (0, .ref d), (1, .int x)]) hx hb dX1_gradeForSum_28 hl (k := 0) rfl (by decide) (by decide) rfl (fun ls hl => ?_)
      refine lv_goto (tgt := 2) hx hb dX1_gradeForSum_31 (by decide) ?_
      refine lv_iload_n hx hb dX1_gradeForSum_2 rfl (lv_at hl 0 rfl) ?_
      refine lv_iconst (v := nI 3) hx hb dX1_gradeForSum_3 (by decide) ?_
      refine n_ige (tgt := 34) hx hb dX1_gradeForSum_4 (by decide) (by omega) (by omega) (fun h => absurd h (by decide)) (fun c4_2 => ?_)
      refine lv_iload_n hx hb dX1_gradeForSum_7 rfl (lv_at hl 0 rfl) ?_
      refine lv_aload_n hx hb dX1_gradeForSum_8 rfl (lv_at hl 1 rfl) ?_
      refine k_get S hK (dz_d hP) rfl (fun _ h => List.mem_cons_of_mem _ (List.mem_append_right _ (h))) 3 (by decide) (List.mem_cons_of_mem _ (List.mem_append_left _ (List.mem_of_getElem? (i := 0) rfl))) rfl (v := .ref (d + 4)) rfl dX1_gradeForSum_9 ?_
      refine k_alen hx hb hK (t := 0) rfl (dz_st hP) dX1_gradeForSum_12 ?_
      refine k_top (y := nI 5) rfl ?_
      refine n_ige (tgt := 34) hx hb dX1_gradeForSum_13 (by decide) (by omega) (by omega) (fun h => absurd h (by decide)) (fun c13_2 => ?_)
      refine lv_iload_n hx hb dX1_gradeForSum_16 rfl (lv_at hl 2 rfl) ?_
      refine lv_aload_n hx hb dX1_gradeForSum_17 rfl (lv_at hl 1 rfl) ?_
      refine k_get S hK (dz_d hP) rfl (fun _ h => List.mem_cons_of_mem _ (List.mem_append_right _ (h))) 3 (by decide) (List.mem_cons_of_mem _ (List.mem_append_left _ (List.mem_of_getElem? (i := 0) rfl))) rfl (v := .ref (d + 4)) rfl dX1_gradeForSum_18 ?_
      refine lv_iload_n hx hb dX1_gradeForSum_21 rfl (lv_at hl 0 rfl) ?_
      refine k_iald hx hb hK (dz_st hP) (by omega) (by decide) (v := z 9) rfl dX1_gradeForSum_22 ?_
      refine lv_icmp_lt (tgt := 28) hx hb dX1_gradeForSum_23 (by decide) (fun c23_2 => ?_) (fun c23_2 => ?_)
      · refine lv_iinc (v := nI 3) (lv' := [(2, .int (nI 3)), (0, .ref d), (1, .int x)]) hx hb dX1_gradeForSum_28 hl (k := 0) rfl (by decide) (by decide) rfl (fun ls hl => ?_)
        refine lv_goto (tgt := 2) hx hb dX1_gradeForSum_31 (by decide) ?_
        refine lv_iload_n hx hb dX1_gradeForSum_2 rfl (lv_at hl 0 rfl) ?_
        refine lv_iconst (v := nI 3) hx hb dX1_gradeForSum_3 (by decide) ?_
        refine n_ige (tgt := 34) hx hb dX1_gradeForSum_4 (by decide) (by omega) (by omega) (fun c4_3 => ?_) (fun h => absurd h (by decide))
        refine lv_iconst (v := nI 3) hx hb dX1_gradeForSum_34 (by decide) ?_
        exact k_iret hx hb hr hlk dX1_gradeForSum_35 ((iF_t c23).trans ((iF_t c23_1).trans (iF_t c23_2)))
      · refine lv_iload_n hx hb dX1_gradeForSum_26 rfl (lv_at hl 0 rfl) ?_
        exact k_iret hx hb hr hlk dX1_gradeForSum_27 ((iF_t c23).trans ((iF_t c23_1).trans (iF_f c23_2)))
    · refine lv_iload_n hx hb dX1_gradeForSum_26 rfl (lv_at hl 0 rfl) ?_
      exact k_iret hx hb hr hlk dX1_gradeForSum_27 ((iF_t c23).trans (iF_f c23_1))
  · refine lv_iload_n hx hb dX1_gradeForSum_26 rfl (lv_at hl 0 rfl) ?_
    exact k_iret hx hb hr hlk dX1_gradeForSum_27 (iF_f c23)
def rm_X1_gradeOf : Room := { frames := 2, cells := 0, slots := 0, locals := 37 }
theorem hd_X1_gradeOf : k_hd1 yX1_gradeOf RX1 1 := by decide +kernel
set_option maxHeartbeats 4000000 in
set_option maxRecDepth 100000 in
theorem c_X1_gradeOf (l : Launch) (E : ke_E) (d : Nat) (z : Nat → Int32) (u : Nat) (hI : iv z) (hu : u < cn z) : Met l yX1_gradeOf wsX1_gradeOf rm_X1_gradeOf (kp E [.ref d, .ref (d + 2*u + 19)] (dz E d z)) (qp (some (.int (grT z u)))) 0 0 nof := by
  refine k_hd (cc := cX1_gradeOf) (maxL := 4) (ret := (some .int)) (by decide) rfl (Nat.le_of_ble_eq_true rfl) ?_
  intro p e s m below meth c ls S hr hlk hnm hK hP hl
  have hx := S.1
  have hb := S.2.1
  have hts := S.2.2.2.2
  have hP : dz E d z s.heap := hP
  have hl : lv_has ls 4 [(0, .ref d), (1, .ref (d + 2*u + 19))] := hl
  have hc20 := iv_c hI
  refine lv_aload_n hx hb dX1_gradeOf_0 rfl (lv_at hl 1 rfl) ?_
  refine k_V (As := []) (rest := []) S hK (c_X4_lowestScore l E d z u hu) gX1_gradeOf_X4_lowestScore rfl hd_X4_lowestScore ⟨rfl, rfl⟩ ⟨Nat.le_of_ble_eq_true rfl, Nat.le_of_ble_eq_true rfl⟩ (k_recv hK (dz_u hP u hu) rfl) hP rfl hl.1 rfl (Nat.le_of_ble_eq_true rfl) dX1_gradeOf_1 ⟨Nat.le_of_ble_eq_true rfl, Nat.le_of_ble_eq_true rfl⟩ ?_
  refine lv_istore_n (lv' := [(2, .int (lw z u)), (0, .ref d), (1, .ref (d + 2*u + 19))]) hx hb dX1_gradeOf_4 rfl hl (by decide) rfl (fun ls hl => ?_)
  refine lv_iload_n hx hb dX1_gradeOf_5 rfl (lv_at hl 0 rfl) ?_
  refine lv_iconst (v := (-1)) hx hb dX1_gradeOf_6 (by decide) ?_
  refine lv_icmp_ne (tgt := 12) hx hb dX1_gradeOf_7 (by decide) (fun c7 => ?_) (fun c7 => ?_)
  · refine lv_aload_n hx hb dX1_gradeOf_12 rfl (lv_at hl 1 rfl) ?_
    refine lv_aload_n hx hb dX1_gradeOf_13 rfl (lv_at hl 2 rfl) ?_
    refine lv_iconst (v := nI 0) hx hb dX1_gradeOf_14 (by decide) ?_
    refine k_V (As := [.int (nI 0)]) (rest := [.ref d]) S hK (c_X4_sumWithLeast l E d z u (nI 0) hu) gX1_gradeOf_X4_sumWithLeast rfl hd_X4_sumWithLeast ⟨rfl, rfl⟩ ⟨Nat.le_of_ble_eq_true rfl, Nat.le_of_ble_eq_true rfl⟩ (k_recv hK (dz_u hP u hu) rfl) hP rfl hl.1 rfl (Nat.le_of_ble_eq_true rfl) dX1_gradeOf_15 ⟨Nat.le_of_ble_eq_true rfl, Nat.le_of_ble_eq_true rfl⟩ ?_
    refine k_V (As := [.int (sl z u (nI 0))]) (rest := []) S hK (c_X1_gradeForSum l E d z (sl z u (nI 0))) gX1_gradeOf_X1_gradeForSum rfl hd_X1_gradeForSum ⟨rfl, rfl⟩ ⟨Nat.le_of_ble_eq_true rfl, Nat.le_of_ble_eq_true rfl⟩ (k_recv hK (dz_d hP) rfl) hP rfl hl.1 rfl (Nat.le_of_ble_eq_true rfl) dX1_gradeOf_18 ⟨Nat.le_of_ble_eq_true rfl, Nat.le_of_ble_eq_true rfl⟩ ?_
    refine lv_istore_n (lv' := [(3, .int (gsm z (sl z u (nI 0)))), (2, .int (lw z u)), (0, .ref d), (1, .ref (d + 2*u + 19))]) hx hb dX1_gradeOf_21 rfl hl (by decide) rfl (fun ls hl => ?_)
    refine lv_iload_n hx hb dX1_gradeOf_22 rfl (lv_at hl 1 rfl) ?_
    refine lv_if_ne (tgt := 34) hx hb dX1_gradeOf_23 (by decide) (fun c23 => ?_) (fun c23 => ?_)
    · refine lv_iload_n hx hb dX1_gradeOf_34 rfl (lv_at hl 0 rfl) ?_
      exact k_iret hx hb hr hlk dX1_gradeOf_35 ((grT_t (Classical.byContradiction fun h => c7 ((lw_t hI hu).mpr h))).trans (gr_b hI hu (Classical.byContradiction fun h => c7 ((lw_t hI hu).mpr h)) c23).symm)
    · refine lv_iload_n hx hb dX1_gradeOf_26 rfl (lv_at hl 0 rfl) ?_
      refine lv_iconst (v := nI 2) hx hb dX1_gradeOf_27 (by decide) ?_
      refine k_mmax hx hb (by rw [S.2.2.1]; exact hl.1.symm) S.2.2.2.1 (hts _ (List.mem_cons_of_mem _ (List.mem_append_left _ (List.mem_append_left _ (List.mem_of_getElem? (i := 0) rfl))))) (hts _ (List.mem_cons_of_mem _ (List.mem_append_left _ (List.mem_append_left _ (List.mem_of_getElem? (i := 1) rfl))))) (hts _ (List.mem_cons_of_mem _ (List.mem_append_left _ (List.mem_append_left _ (List.mem_of_getElem? (i := 2) rfl))))) (hts _ (List.mem_cons_of_mem _ (List.mem_append_left _ (List.mem_append_left _ (List.mem_of_getElem? (i := 3) rfl))))) (Nat.le_of_ble_eq_true rfl) (Nat.le_of_ble_eq_true rfl) (Nat.zero_le _) (Nat.zero_le _) dX1_gradeOf_28 ?_
      refine lv_goto (tgt := 35) hx hb dX1_gradeOf_31 (by decide) ?_
      exact k_iret hx hb hr hlk dX1_gradeOf_35 ((grT_t (Classical.byContradiction fun h => c7 ((lw_t hI hu).mpr h))).trans (gr_a hI hu (Classical.byContradiction fun h => c7 ((lw_t hI hu).mpr h)) c23).symm)
  · refine lv_iconst (v := (-1)) hx hb dX1_gradeOf_10 (by decide) ?_
    exact k_iret hx hb hr hlk dX1_gradeOf_11 (grT_n ((lw_t hI hu).mp c7))
def rm_X1_repairedGradeOf : Room := { frames := 2, cells := 0, slots := 0, locals := 37 }
theorem hd_X1_repairedGradeOf : k_hd1 yX1_repairedGradeOf RX1 1 := by decide +kernel
set_option maxHeartbeats 4000000 in
set_option maxRecDepth 100000 in
theorem c_X1_repairedGradeOf (l : Launch) (E : ke_E) (d : Nat) (z : Nat → Int32) (u : Nat) (hu : u < cn z) : Met l yX1_repairedGradeOf wsX1_repairedGradeOf rm_X1_repairedGradeOf (kp E [.ref d, .ref (d + 2*u + 19)] (dz E d z)) (qp (some (.int (gr z u (nI 1))))) 0 0 nof := by
  refine k_hd (cc := cX1_repairedGradeOf) (maxL := 2) (ret := (some .int)) (by decide) rfl (Nat.le_of_ble_eq_true rfl) ?_
  intro p e s m below meth c ls S hr hlk hnm hK hP hl
  have hx := S.1
  have hb := S.2.1
  have hts := S.2.2.2.2
  have hP : dz E d z s.heap := hP
  have hl : lv_has ls 2 [(0, .ref d), (1, .ref (d + 2*u + 19))] := hl
  refine lv_aload_n hx hb dX1_repairedGradeOf_0 rfl (lv_at hl 0 rfl) ?_
  refine lv_aload_n hx hb dX1_repairedGradeOf_1 rfl (lv_at hl 1 rfl) ?_
  refine lv_bipush (v := nI 7) hx hb dX1_repairedGradeOf_2 (by decide) ?_
  refine k_V (As := [.int (nI 7)]) (rest := [.ref d]) S hK (c_X4_sumWithLeast l E d z u (nI 7) hu) gX1_repairedGradeOf_X4_sumWithLeast rfl hd_X4_sumWithLeast ⟨rfl, rfl⟩ ⟨Nat.le_of_ble_eq_true rfl, Nat.le_of_ble_eq_true rfl⟩ (k_recv hK (dz_u hP u hu) rfl) hP rfl hl.1 rfl (Nat.le_of_ble_eq_true rfl) dX1_repairedGradeOf_4 ⟨Nat.le_of_ble_eq_true rfl, Nat.le_of_ble_eq_true rfl⟩ ?_
  refine k_V (As := [.int (sl z u (nI 7))]) (rest := []) S hK (c_X1_gradeForSum l E d z (sl z u (nI 7))) gX1_repairedGradeOf_X1_gradeForSum rfl hd_X1_gradeForSum ⟨rfl, rfl⟩ ⟨Nat.le_of_ble_eq_true rfl, Nat.le_of_ble_eq_true rfl⟩ (k_recv hK (dz_d hP) rfl) hP rfl hl.1 rfl (Nat.le_of_ble_eq_true rfl) dX1_repairedGradeOf_7 ⟨Nat.le_of_ble_eq_true rfl, Nat.le_of_ble_eq_true rfl⟩ ?_
  exact k_iret hx hb hr hlk dX1_repairedGradeOf_10 (gr_1.symm)
def rm_X1_repairCostOf : Room := { frames := 2, cells := 0, slots := 0, locals := 37 }
theorem hd_X1_repairCostOf : k_hd1 yX1_repairCostOf RX1 1 := by decide +kernel
set_option maxHeartbeats 4000000 in
set_option maxRecDepth 100000 in
theorem c_X1_repairCostOf (l : Launch) (E : ke_E) (d : Nat) (z : Nat → Int32) (u : Nat) (hu : u < cn z) (ht : tst z u) : Met l yX1_repairCostOf wsX1_repairCostOf rm_X1_repairCostOf (kp E [.ref d, .ref (d + 2*u + 19)] (dz E d z)) (qp (some (.int (rpc z u)))) 0 0 nof := by
  refine k_hd (cc := cX1_repairCostOf) (maxL := 3) (ret := (some .int)) (by decide) rfl (Nat.le_of_ble_eq_true rfl) ?_
  intro p e s m below meth c ls S hr hlk hnm hK hP hl
  have hx := S.1
  have hb := S.2.1
  have hts := S.2.2.2.2
  have hP : dz E d z s.heap := hP
  have hl : lv_has ls 3 [(0, .ref d), (1, .ref (d + 2*u + 19))] := hl
  refine lv_aload_n hx hb dX1_repairCostOf_0 rfl (lv_at hl 1 rfl) ?_
  refine lv_bipush (v := nI 7) hx hb dX1_repairCostOf_1 (by decide) ?_
  refine k_V (As := [.int (nI 7)]) (rest := []) S hK (c_X4_sumWithLeast l E d z u (nI 7) hu) gX1_repairCostOf_X4_sumWithLeast rfl hd_X4_sumWithLeast ⟨rfl, rfl⟩ ⟨Nat.le_of_ble_eq_true rfl, Nat.le_of_ble_eq_true rfl⟩ (k_recv hK (dz_u hP u hu) rfl) hP rfl hl.1 rfl (Nat.le_of_ble_eq_true rfl) dX1_repairCostOf_3 ⟨Nat.le_of_ble_eq_true rfl, Nat.le_of_ble_eq_true rfl⟩ ?_
  refine lv_aload_n hx hb dX1_repairCostOf_6 rfl (lv_at hl 1 rfl) ?_
  refine lv_iconst (v := nI 0) hx hb dX1_repairCostOf_7 (by decide) ?_
  refine k_V (As := [.int (nI 0)]) (rest := [.int (sl z u (nI 7))]) S hK (c_X4_sumWithLeast l E d z u (nI 0) hu) gX1_repairCostOf_X4_sumWithLeast rfl hd_X4_sumWithLeast ⟨rfl, rfl⟩ ⟨Nat.le_of_ble_eq_true rfl, Nat.le_of_ble_eq_true rfl⟩ (k_recv hK (dz_u hP u hu) rfl) hP rfl hl.1 rfl (Nat.le_of_ble_eq_true rfl) dX1_repairCostOf_8 ⟨Nat.le_of_ble_eq_true rfl, Nat.le_of_ble_eq_true rfl⟩ ?_
  refine lv_isub hx hb dX1_repairCostOf_11 ?_
  refine lv_istore_n (lv' := [(2, .int ((sl z u (nI 7)) - (sl z u (nI 0)))), (0, .ref d), (1, .ref (d + 2*u + 19))]) hx hb dX1_repairCostOf_12 rfl hl (by decide) rfl (fun ls hl => ?_)
  refine lv_iload_n hx hb dX1_repairCostOf_13 rfl (lv_at hl 0 rfl) ?_
  refine lv_aload_n hx hb dX1_repairCostOf_14 rfl (lv_at hl 1 rfl) ?_
  refine k_get S hK (dz_d hP) rfl (fun _ h => List.mem_cons_of_mem _ (List.mem_append_left _ (List.mem_append_right _ (h)))) 3 (by decide) (List.mem_cons_of_mem _ (List.mem_append_left _ (List.mem_append_left _ (List.mem_of_getElem? (i := 0) rfl)))) rfl (v := .ref (d + 4)) rfl dX1_repairCostOf_15 ?_
  refine lv_iconst (v := nI 4) hx hb dX1_repairCostOf_18 (by decide) ?_
  refine k_iald hx hb hK (dz_st hP) (by omega) (by decide) (v := z 11) rfl dX1_repairCostOf_19 ?_
  refine lv_imul hx hb dX1_repairCostOf_20 ?_
  exact k_iret hx hb hr hlk dX1_repairCostOf_21 ((rpc_e ht).symm)
def rm_X1_priceOf : Room := { frames := 2, cells := 0, slots := 0, locals := 42 }
theorem hd_X1_priceOf : k_hd1 yX1_priceOf RX1 2 := by decide +kernel
set_option maxHeartbeats 4000000 in
set_option maxRecDepth 100000 in
theorem c_X1_priceOf (l : Launch) (E : ke_E) (d : Nat) (z : Nat → Int32) (u : Nat) (g : Nat) (hI : iv z) (hu : u < cn z) (hg : g ≤ 3) : Met l yX1_priceOf wsX1_priceOf rm_X1_priceOf (kp E [.ref d, .ref (d + 2*u + 19), .int (nI g)] (dz E d z)) (qp (some (.int (prc z u (nI g))))) 0 0 nof := by
  refine k_hd (cc := cX1_priceOf) (maxL := 4) (ret := (some .int)) (by decide) rfl (Nat.le_of_ble_eq_true rfl) ?_
  intro p e s m below meth c ls S hr hlk hnm hK hP hl
  have hx := S.1
  have hb := S.2.1
  have hts := S.2.2.2.2
  have hP : dz E d z s.heap := hP
  have hl : lv_has ls 4 [(0, .ref d), (1, .ref (d + 2*u + 19)), (2, .int (nI g))] := hl
  have hup6 := iv_upl hI hu
  rcases (by omega : g = 0 ∨ g = 1 ∨ g = 2 ∨ g = 3) with rfl | rfl | rfl | rfl
  · have hl : lv_has ls 4 [(0, .ref d), (1, .ref (d + 2*u + 19)), (2, .int (nI 0))] := hl
    refine lv_aload_n hx hb dX1_priceOf_0 rfl (lv_at hl 0 rfl) ?_
    refine lv_aload_n hx hb dX1_priceOf_1 rfl (lv_at hl 1 rfl) ?_
    refine k_V (As := [.ref (d + 2*u + 19)]) (rest := []) S hK (c_X1_productUnder l E d z u hI hu) gX1_priceOf_X1_productUnder rfl hd_X1_productUnder ⟨rfl, rfl⟩ ⟨Nat.le_of_ble_eq_true rfl, Nat.le_of_ble_eq_true rfl⟩ (k_recv hK (dz_d hP) rfl) hP rfl hl.1 rfl (Nat.le_of_ble_eq_true rfl) dX1_priceOf_2 ⟨Nat.le_of_ble_eq_true rfl, Nat.le_of_ble_eq_true rfl⟩ ?_
    refine k_get S hK (dz_p hP (up z u) (by omega)) rfl (fun _ h => List.mem_cons_of_mem _ (List.mem_append_left _ (List.mem_append_left _ (List.mem_append_right _ (h))))) 0 (by decide) (List.mem_cons_of_mem _ (List.mem_append_left _ (List.mem_append_left _ (List.mem_append_left _ (List.mem_of_getElem? (i := 0) rfl))))) rfl (v := .int (z (3*up z u + 12))) rfl dX1_priceOf_5 ?_
    refine lv_istore_n (lv' := [(3, .int (z (3*up z u + 12))), (0, .ref d), (1, .ref (d + 2*u + 19)), (2, .int (nI 0))]) hx hb dX1_priceOf_8 rfl hl (by decide) rfl (fun ls hl => ?_)
    refine lv_iload_n hx hb dX1_priceOf_9 rfl (lv_at hl 3 rfl) ?_
    refine lv_tableIn (off := 26) (tgt := 36) hx hb dX1_priceOf_10 (by decide) (by decide) (by decide) (by decide) ?_
    refine lv_iload_n hx hb dX1_priceOf_36 rfl (lv_at hl 0 rfl) ?_
    refine lv_bipush (v := nI 90) hx hb dX1_priceOf_37 (by decide) ?_
    refine lv_imul hx hb dX1_priceOf_39 ?_
    refine lv_bipush (v := nI 100) hx hb dX1_priceOf_40 (by decide) ?_
    refine lv_idiv hx hb dX1_priceOf_42 (by decide) ?_
    exact k_iret hx hb hr hlk dX1_priceOf_43 (prc_0)
  · have hl : lv_has ls 4 [(0, .ref d), (1, .ref (d + 2*u + 19)), (2, .int (nI 1))] := hl
    refine lv_aload_n hx hb dX1_priceOf_0 rfl (lv_at hl 0 rfl) ?_
    refine lv_aload_n hx hb dX1_priceOf_1 rfl (lv_at hl 1 rfl) ?_
    refine k_V (As := [.ref (d + 2*u + 19)]) (rest := []) S hK (c_X1_productUnder l E d z u hI hu) gX1_priceOf_X1_productUnder rfl hd_X1_productUnder ⟨rfl, rfl⟩ ⟨Nat.le_of_ble_eq_true rfl, Nat.le_of_ble_eq_true rfl⟩ (k_recv hK (dz_d hP) rfl) hP rfl hl.1 rfl (Nat.le_of_ble_eq_true rfl) dX1_priceOf_2 ⟨Nat.le_of_ble_eq_true rfl, Nat.le_of_ble_eq_true rfl⟩ ?_
    refine k_get S hK (dz_p hP (up z u) (by omega)) rfl (fun _ h => List.mem_cons_of_mem _ (List.mem_append_left _ (List.mem_append_left _ (List.mem_append_right _ (h))))) 0 (by decide) (List.mem_cons_of_mem _ (List.mem_append_left _ (List.mem_append_left _ (List.mem_append_left _ (List.mem_of_getElem? (i := 0) rfl))))) rfl (v := .int (z (3*up z u + 12))) rfl dX1_priceOf_5 ?_
    refine lv_istore_n (lv' := [(3, .int (z (3*up z u + 12))), (0, .ref d), (1, .ref (d + 2*u + 19)), (2, .int (nI 1))]) hx hb dX1_priceOf_8 rfl hl (by decide) rfl (fun ls hl => ?_)
    refine lv_iload_n hx hb dX1_priceOf_9 rfl (lv_at hl 3 rfl) ?_
    refine lv_tableIn (off := 34) (tgt := 44) hx hb dX1_priceOf_10 (by decide) (by decide) (by decide) (by decide) ?_
    refine lv_iload_n hx hb dX1_priceOf_44 rfl (lv_at hl 0 rfl) ?_
    refine lv_bipush (v := nI 70) hx hb dX1_priceOf_45 (by decide) ?_
    refine lv_imul hx hb dX1_priceOf_47 ?_
    refine lv_bipush (v := nI 100) hx hb dX1_priceOf_48 (by decide) ?_
    refine lv_idiv hx hb dX1_priceOf_50 (by decide) ?_
    exact k_iret hx hb hr hlk dX1_priceOf_51 (prc_1)
  · have hl : lv_has ls 4 [(0, .ref d), (1, .ref (d + 2*u + 19)), (2, .int (nI 2))] := hl
    refine lv_aload_n hx hb dX1_priceOf_0 rfl (lv_at hl 0 rfl) ?_
    refine lv_aload_n hx hb dX1_priceOf_1 rfl (lv_at hl 1 rfl) ?_
    refine k_V (As := [.ref (d + 2*u + 19)]) (rest := []) S hK (c_X1_productUnder l E d z u hI hu) gX1_priceOf_X1_productUnder rfl hd_X1_productUnder ⟨rfl, rfl⟩ ⟨Nat.le_of_ble_eq_true rfl, Nat.le_of_ble_eq_true rfl⟩ (k_recv hK (dz_d hP) rfl) hP rfl hl.1 rfl (Nat.le_of_ble_eq_true rfl) dX1_priceOf_2 ⟨Nat.le_of_ble_eq_true rfl, Nat.le_of_ble_eq_true rfl⟩ ?_
    refine k_get S hK (dz_p hP (up z u) (by omega)) rfl (fun _ h => List.mem_cons_of_mem _ (List.mem_append_left _ (List.mem_append_left _ (List.mem_append_right _ (h))))) 0 (by decide) (List.mem_cons_of_mem _ (List.mem_append_left _ (List.mem_append_left _ (List.mem_append_left _ (List.mem_of_getElem? (i := 0) rfl))))) rfl (v := .int (z (3*up z u + 12))) rfl dX1_priceOf_5 ?_
    refine lv_istore_n (lv' := [(3, .int (z (3*up z u + 12))), (0, .ref d), (1, .ref (d + 2*u + 19)), (2, .int (nI 2))]) hx hb dX1_priceOf_8 rfl hl (by decide) rfl (fun ls hl => ?_)
    refine lv_iload_n hx hb dX1_priceOf_9 rfl (lv_at hl 3 rfl) ?_
    refine lv_tableIn (off := 42) (tgt := 52) hx hb dX1_priceOf_10 (by decide) (by decide) (by decide) (by decide) ?_
    refine lv_iload_n hx hb dX1_priceOf_52 rfl (lv_at hl 0 rfl) ?_
    refine lv_bipush (v := nI 40) hx hb dX1_priceOf_53 (by decide) ?_
    refine lv_imul hx hb dX1_priceOf_55 ?_
    refine lv_bipush (v := nI 100) hx hb dX1_priceOf_56 (by decide) ?_
    refine lv_idiv hx hb dX1_priceOf_58 (by decide) ?_
    exact k_iret hx hb hr hlk dX1_priceOf_59 (prc_2)
  · have hl : lv_has ls 4 [(0, .ref d), (1, .ref (d + 2*u + 19)), (2, .int (nI 3))] := hl
    refine lv_aload_n hx hb dX1_priceOf_0 rfl (lv_at hl 0 rfl) ?_
    refine lv_aload_n hx hb dX1_priceOf_1 rfl (lv_at hl 1 rfl) ?_
    refine k_V (As := [.ref (d + 2*u + 19)]) (rest := []) S hK (c_X1_productUnder l E d z u hI hu) gX1_priceOf_X1_productUnder rfl hd_X1_productUnder ⟨rfl, rfl⟩ ⟨Nat.le_of_ble_eq_true rfl, Nat.le_of_ble_eq_true rfl⟩ (k_recv hK (dz_d hP) rfl) hP rfl hl.1 rfl (Nat.le_of_ble_eq_true rfl) dX1_priceOf_2 ⟨Nat.le_of_ble_eq_true rfl, Nat.le_of_ble_eq_true rfl⟩ ?_
    refine k_get S hK (dz_p hP (up z u) (by omega)) rfl (fun _ h => List.mem_cons_of_mem _ (List.mem_append_left _ (List.mem_append_left _ (List.mem_append_right _ (h))))) 0 (by decide) (List.mem_cons_of_mem _ (List.mem_append_left _ (List.mem_append_left _ (List.mem_append_left _ (List.mem_of_getElem? (i := 0) rfl))))) rfl (v := .int (z (3*up z u + 12))) rfl dX1_priceOf_5 ?_
    refine lv_istore_n (lv' := [(3, .int (z (3*up z u + 12))), (0, .ref d), (1, .ref (d + 2*u + 19)), (2, .int (nI 3))]) hx hb dX1_priceOf_8 rfl hl (by decide) rfl (fun ls hl => ?_)
    refine lv_iload_n hx hb dX1_priceOf_9 rfl (lv_at hl 3 rfl) ?_
    refine lv_tableOut (tgt := 60) hx hb dX1_priceOf_10 (by decide) (by decide) ?_
    refine lv_iconst (v := nI 0) hx hb dX1_priceOf_60 (by decide) ?_
    exact k_iret hx hb hr hlk dX1_priceOf_61 (prc_3)
def rm_X1_obstacle_1 : Room := { frames := 3, cells := 0, slots := 0, locals := 63 }
theorem hd_X1_obstacle : k_hd1 yX1_obstacle RX1 2 := by decide +kernel
set_option maxHeartbeats 4000000 in
set_option maxRecDepth 100000 in
theorem c_X1_obstacle_1 (l : Launch) (E : ke_E) (d : Nat) (z : Nat → Int32) (u : Nat) (hI : iv z) (hu : u < cn z) : Met l yX1_obstacle wsX1_obstacle rm_X1_obstacle_1 (kp E [.ref d, .ref (d + 2*u + 19), .int (nI 1)] (dz E d z)) (qp (some (.int (wy1 z u)))) 0 0 nof := by
  refine k_hd (cc := cX1_obstacle) (maxL := 4) (ret := (some .int)) (by decide) rfl (Nat.le_of_ble_eq_true rfl) ?_
  intro p e s m below meth c ls S hr hlk hnm hK hP hl
  have hx := S.1
  have hb := S.2.1
  have hts := S.2.2.2.2
  have hP : dz E d z s.heap := hP
  have hl : lv_has ls 4 [(0, .ref d), (1, .ref (d + 2*u + 19)), (2, .int (nI 1))] := hl
  have hc20 := iv_c hI
  refine lv_aload_n hx hb dX1_obstacle_0 rfl (lv_at hl 1 rfl) ?_
  refine k_get S hK (dz_u hP u hu) rfl (fun _ h => List.mem_cons_of_mem _ (List.mem_append_left _ (List.mem_append_left _ (List.mem_append_right _ (h))))) 3 (by decide) (List.mem_cons_of_mem _ (List.mem_append_left _ (List.mem_append_left _ (List.mem_append_left _ (List.mem_append_left _ (List.mem_of_getElem? (i := 0) rfl)))))) rfl (v := .int (z (13*u + 68))) rfl dX1_obstacle_1 ?_
  refine lv_if_eq (tgt := 9) hx hb dX1_obstacle_4 (by decide) (fun c4 => ?_) (fun c4 => ?_)
  · refine lv_aload_n hx hb dX1_obstacle_9 rfl (lv_at hl 0 rfl) ?_
    refine lv_aload_n hx hb dX1_obstacle_10 rfl (lv_at hl 1 rfl) ?_
    refine k_V (As := [.ref (d + 2*u + 19)]) (rest := []) S hK (c_X1_isHeld l E d z u hI hu) gX1_obstacle_X1_isHeld rfl hd_X1_isHeld ⟨rfl, rfl⟩ ⟨Nat.le_of_ble_eq_true rfl, Nat.le_of_ble_eq_true rfl⟩ (k_recv hK (dz_d hP) rfl) hP rfl hl.1 rfl (Nat.le_of_ble_eq_true rfl) dX1_obstacle_11 ⟨Nat.le_of_ble_eq_true rfl, Nat.le_of_ble_eq_true rfl⟩ ?_
    refine lv_iload_n hx hb dX1_obstacle_14 rfl (lv_at hl 2 rfl) ?_
    refine lv_iconst (v := nI 4) hx hb dX1_obstacle_15 (by decide) ?_
    refine n_ine (tgt := 23) hx hb dX1_obstacle_16 (by decide) (by omega) (by omega) (fun c16 => ?_) (fun h => absurd h (by decide))
    refine lv_iconst (v := nI 0) hx hb dX1_obstacle_23 (by decide) ?_
    refine b_ieq0 (tgt := 29) hx hb dX1_obstacle_24 (by decide) (fun c24 => ?_) (fun c24 => ?_)
    · refine lv_iload_n hx hb dX1_obstacle_29 rfl (lv_at hl 2 rfl) ?_
      refine lv_iconst (v := nI 4) hx hb dX1_obstacle_30 (by decide) ?_
      refine n_ine (tgt := 36) hx hb dX1_obstacle_31 (by decide) (by omega) (by omega) (fun c31 => ?_) (fun h => absurd h (by decide))
      refine lv_aload_n hx hb dX1_obstacle_36 rfl (lv_at hl 0 rfl) ?_
      refine lv_aload_n hx hb dX1_obstacle_37 rfl (lv_at hl 1 rfl) ?_
      refine k_V (As := [.ref (d + 2*u + 19)]) (rest := []) S hK (c_X1_gradeOf l E d z u hI hu) gX1_obstacle_X1_gradeOf rfl hd_X1_gradeOf ⟨rfl, rfl⟩ ⟨Nat.le_of_ble_eq_true rfl, Nat.le_of_ble_eq_true rfl⟩ (k_recv hK (dz_d hP) rfl) hP rfl hl.1 rfl (Nat.le_of_ble_eq_true rfl) dX1_obstacle_38 ⟨Nat.le_of_ble_eq_true rfl, Nat.le_of_ble_eq_true rfl⟩ ?_
      refine lv_istore_n (lv' := [(3, .int (grT z u)), (0, .ref d), (1, .ref (d + 2*u + 19)), (2, .int (nI 1))]) hx hb dX1_obstacle_41 rfl hl (by decide) rfl (fun ls hl => ?_)
      refine lv_iload_n hx hb dX1_obstacle_42 rfl (lv_at hl 0 rfl) ?_
      refine lv_iconst (v := (-1)) hx hb dX1_obstacle_43 (by decide) ?_
      refine lv_icmp_ne (tgt := 49) hx hb dX1_obstacle_44 (by decide) (fun c44 => ?_) (fun c44 => ?_)
      · refine lv_iload_n hx hb dX1_obstacle_49 rfl (lv_at hl 3 rfl) ?_
        refine lv_iconst (v := nI 1) hx hb dX1_obstacle_50 (by decide) ?_
        refine n_ine (tgt := 58) hx hb dX1_obstacle_51 (by decide) (by omega) (by omega) (fun h => absurd h (by decide)) (fun c51 => ?_)
        refine lv_iload_n hx hb dX1_obstacle_54 rfl (lv_at hl 0 rfl) ?_
        refine lv_if_eq (tgt := 68) hx hb dX1_obstacle_55 (by decide) (fun c55 => ?_) (fun c55 => ?_)
        · refine lv_iconst (v := nI 4) hx hb dX1_obstacle_68 (by decide) ?_
          exact k_iret hx hb hr hlk dX1_obstacle_69 ((iF_f (fun h => h c4)).trans ((iF_f c24).trans ((iF_f (fun h => h (Classical.byContradiction fun h => c44 (grT_n h)))).trans (iF_t ((grT_t (Classical.byContradiction fun h => c44 (grT_n h))).symm.trans c55)))))
        · refine lv_iload_n hx hb dX1_obstacle_58 rfl (lv_at hl 3 rfl) ?_
          refine lv_iconst (v := nI 2) hx hb dX1_obstacle_59 (by decide) ?_
          refine n_ine (tgt := 70) hx hb dX1_obstacle_60 (by decide) (by omega) (by omega) (fun c60 => ?_) (fun h => absurd h (by decide))
          refine lv_iload_n hx hb dX1_obstacle_70 rfl (lv_at hl 3 rfl) ?_
          refine lv_iconst (v := nI 1) hx hb dX1_obstacle_71 (by decide) ?_
          refine n_ine (tgt := 87) hx hb dX1_obstacle_72 (by decide) (by omega) (by omega) (fun h => absurd h (by decide)) (fun c72 => ?_)
          refine lv_aload_n hx hb dX1_obstacle_75 rfl (lv_at hl 2 rfl) ?_
          refine k_get S hK (dz_u hP u hu) rfl (fun _ h => List.mem_cons_of_mem _ (List.mem_append_left _ (List.mem_append_left _ (List.mem_append_right _ (h))))) 4 (by decide) (List.mem_cons_of_mem _ (List.mem_append_left _ (List.mem_append_left _ (List.mem_append_left _ (List.mem_append_left _ (List.mem_of_getElem? (i := 1) rfl)))))) rfl (v := .int (z (13*u + 69))) rfl dX1_obstacle_76 ?_
          refine lv_iconst (v := nI 2) hx hb dX1_obstacle_79 (by decide) ?_
          refine lv_icmp_lt (tgt := 87) hx hb dX1_obstacle_80 (by decide) (fun c80 => ?_) (fun c80 => ?_)
          · refine lv_iconst (v := nI 0) hx hb dX1_obstacle_87 (by decide) ?_
            exact k_iret hx hb hr hlk dX1_obstacle_88 ((iF_f (fun h => h c4)).trans ((iF_f c24).trans ((iF_f (fun h => h (Classical.byContradiction fun h => c44 (grT_n h)))).trans ((iF_f (fun h => c55 ((grT_t (Classical.byContradiction fun h => c44 (grT_n h))).trans h))).trans (iF_t (lt2_le1 c80))))))
          · refine lv_iconst (v := nI 5) hx hb dX1_obstacle_83 (by decide) ?_
            refine lv_goto (tgt := 88) hx hb dX1_obstacle_84 (by decide) ?_
            exact k_iret hx hb hr hlk dX1_obstacle_88 ((iF_f (fun h => h c4)).trans ((iF_f c24).trans ((iF_f (fun h => h (Classical.byContradiction fun h => c44 (grT_n h)))).trans ((iF_f (fun h => c55 ((grT_t (Classical.byContradiction fun h => c44 (grT_n h))).trans h))).trans (iF_f (fun h => c80 (le1_lt2 h)))))))
      · refine lv_iconst (v := nI 3) hx hb dX1_obstacle_47 (by decide) ?_
        exact k_iret hx hb hr hlk dX1_obstacle_48 ((iF_f (fun h => h c4)).trans ((iF_f c24).trans (iF_t (fun h => gr_nm ((grT_t h).symm.trans c44)))))
    · refine lv_iconst (v := nI 2) hx hb dX1_obstacle_27 (by decide) ?_
      exact k_iret hx hb hr hlk dX1_obstacle_28 ((iF_f (fun h => h c4)).trans (iF_t c24))
  · refine lv_iconst (v := nI 1) hx hb dX1_obstacle_7 (by decide) ?_
    exact k_iret hx hb hr hlk dX1_obstacle_8 (iF_t c4)
def rm_X1_obstacle_2 : Room := { frames := 3, cells := 0, slots := 0, locals := 63 }
set_option maxHeartbeats 4000000 in
set_option maxRecDepth 100000 in
theorem c_X1_obstacle_2 (l : Launch) (E : ke_E) (d : Nat) (z : Nat → Int32) (u : Nat) (hI : iv z) (hu : u < cn z) : Met l yX1_obstacle wsX1_obstacle rm_X1_obstacle_2 (kp E [.ref d, .ref (d + 2*u + 19), .int (nI 2)] (dz E d z)) (qp (some (.int (wy2 z u)))) 0 0 nof := by
  refine k_hd (cc := cX1_obstacle) (maxL := 4) (ret := (some .int)) (by decide) rfl (Nat.le_of_ble_eq_true rfl) ?_
  intro p e s m below meth c ls S hr hlk hnm hK hP hl
  have hx := S.1
  have hb := S.2.1
  have hts := S.2.2.2.2
  have hP : dz E d z s.heap := hP
  have hl : lv_has ls 4 [(0, .ref d), (1, .ref (d + 2*u + 19)), (2, .int (nI 2))] := hl
  have hc20 := iv_c hI
  refine lv_aload_n hx hb dX1_obstacle_0 rfl (lv_at hl 1 rfl) ?_
  refine k_get S hK (dz_u hP u hu) rfl (fun _ h => List.mem_cons_of_mem _ (List.mem_append_left _ (List.mem_append_left _ (List.mem_append_right _ (h))))) 3 (by decide) (List.mem_cons_of_mem _ (List.mem_append_left _ (List.mem_append_left _ (List.mem_append_left _ (List.mem_append_left _ (List.mem_of_getElem? (i := 0) rfl)))))) rfl (v := .int (z (13*u + 68))) rfl dX1_obstacle_1 ?_
  refine lv_if_eq (tgt := 9) hx hb dX1_obstacle_4 (by decide) (fun c4 => ?_) (fun c4 => ?_)
  · refine lv_aload_n hx hb dX1_obstacle_9 rfl (lv_at hl 0 rfl) ?_
    refine lv_aload_n hx hb dX1_obstacle_10 rfl (lv_at hl 1 rfl) ?_
    refine k_V (As := [.ref (d + 2*u + 19)]) (rest := []) S hK (c_X1_isHeld l E d z u hI hu) gX1_obstacle_X1_isHeld rfl hd_X1_isHeld ⟨rfl, rfl⟩ ⟨Nat.le_of_ble_eq_true rfl, Nat.le_of_ble_eq_true rfl⟩ (k_recv hK (dz_d hP) rfl) hP rfl hl.1 rfl (Nat.le_of_ble_eq_true rfl) dX1_obstacle_11 ⟨Nat.le_of_ble_eq_true rfl, Nat.le_of_ble_eq_true rfl⟩ ?_
    refine lv_iload_n hx hb dX1_obstacle_14 rfl (lv_at hl 2 rfl) ?_
    refine lv_iconst (v := nI 4) hx hb dX1_obstacle_15 (by decide) ?_
    refine n_ine (tgt := 23) hx hb dX1_obstacle_16 (by decide) (by omega) (by omega) (fun c16 => ?_) (fun h => absurd h (by decide))
    refine lv_iconst (v := nI 0) hx hb dX1_obstacle_23 (by decide) ?_
    refine b_ieq0 (tgt := 29) hx hb dX1_obstacle_24 (by decide) (fun c24 => ?_) (fun c24 => ?_)
    · refine lv_iload_n hx hb dX1_obstacle_29 rfl (lv_at hl 2 rfl) ?_
      refine lv_iconst (v := nI 4) hx hb dX1_obstacle_30 (by decide) ?_
      refine n_ine (tgt := 36) hx hb dX1_obstacle_31 (by decide) (by omega) (by omega) (fun c31 => ?_) (fun h => absurd h (by decide))
      refine lv_aload_n hx hb dX1_obstacle_36 rfl (lv_at hl 0 rfl) ?_
      refine lv_aload_n hx hb dX1_obstacle_37 rfl (lv_at hl 1 rfl) ?_
      refine k_V (As := [.ref (d + 2*u + 19)]) (rest := []) S hK (c_X1_gradeOf l E d z u hI hu) gX1_obstacle_X1_gradeOf rfl hd_X1_gradeOf ⟨rfl, rfl⟩ ⟨Nat.le_of_ble_eq_true rfl, Nat.le_of_ble_eq_true rfl⟩ (k_recv hK (dz_d hP) rfl) hP rfl hl.1 rfl (Nat.le_of_ble_eq_true rfl) dX1_obstacle_38 ⟨Nat.le_of_ble_eq_true rfl, Nat.le_of_ble_eq_true rfl⟩ ?_
      refine lv_istore_n (lv' := [(3, .int (grT z u)), (0, .ref d), (1, .ref (d + 2*u + 19)), (2, .int (nI 2))]) hx hb dX1_obstacle_41 rfl hl (by decide) rfl (fun ls hl => ?_)
      refine lv_iload_n hx hb dX1_obstacle_42 rfl (lv_at hl 0 rfl) ?_
      refine lv_iconst (v := (-1)) hx hb dX1_obstacle_43 (by decide) ?_
      refine lv_icmp_ne (tgt := 49) hx hb dX1_obstacle_44 (by decide) (fun c44 => ?_) (fun c44 => ?_)
      · refine lv_iload_n hx hb dX1_obstacle_49 rfl (lv_at hl 3 rfl) ?_
        refine lv_iconst (v := nI 1) hx hb dX1_obstacle_50 (by decide) ?_
        refine n_ine (tgt := 58) hx hb dX1_obstacle_51 (by decide) (by omega) (by omega) (fun c51 => ?_) (fun h => absurd h (by decide))
        refine lv_iload_n hx hb dX1_obstacle_58 rfl (lv_at hl 3 rfl) ?_
        refine lv_iconst (v := nI 2) hx hb dX1_obstacle_59 (by decide) ?_
        refine n_ine (tgt := 70) hx hb dX1_obstacle_60 (by decide) (by omega) (by omega) (fun h => absurd h (by decide)) (fun c60 => ?_)
        refine lv_iload_n hx hb dX1_obstacle_63 rfl (lv_at hl 0 rfl) ?_
        refine lv_iconst (v := nI 3) hx hb dX1_obstacle_64 (by decide) ?_
        refine lv_icmp_ne (tgt := 70) hx hb dX1_obstacle_65 (by decide) (fun c65 => ?_) (fun c65 => ?_)
        · refine lv_iload_n hx hb dX1_obstacle_70 rfl (lv_at hl 3 rfl) ?_
          refine lv_iconst (v := nI 1) hx hb dX1_obstacle_71 (by decide) ?_
          refine n_ine (tgt := 87) hx hb dX1_obstacle_72 (by decide) (by omega) (by omega) (fun c72 => ?_) (fun h => absurd h (by decide))
          refine lv_iconst (v := nI 0) hx hb dX1_obstacle_87 (by decide) ?_
          exact k_iret hx hb hr hlk dX1_obstacle_88 ((iF_f (fun h => h c4)).trans ((iF_f c24).trans ((iF_f (fun h => h (Classical.byContradiction fun h => c44 (grT_n h)))).trans (iF_f (fun h => c65 ((grT_t (Classical.byContradiction fun h => c44 (grT_n h))).trans h))))))
        · refine lv_iconst (v := nI 4) hx hb dX1_obstacle_68 (by decide) ?_
          exact k_iret hx hb hr hlk dX1_obstacle_69 ((iF_f (fun h => h c4)).trans ((iF_f c24).trans ((iF_f (fun h => h (Classical.byContradiction fun h => c44 (grT_n h)))).trans (iF_t ((grT_t (Classical.byContradiction fun h => c44 (grT_n h))).symm.trans c65)))))
      · refine lv_iconst (v := nI 3) hx hb dX1_obstacle_47 (by decide) ?_
        exact k_iret hx hb hr hlk dX1_obstacle_48 ((iF_f (fun h => h c4)).trans ((iF_f c24).trans (iF_t (fun h => gr_nm ((grT_t h).symm.trans c44)))))
    · refine lv_iconst (v := nI 2) hx hb dX1_obstacle_27 (by decide) ?_
      exact k_iret hx hb hr hlk dX1_obstacle_28 ((iF_f (fun h => h c4)).trans (iF_t c24))
  · refine lv_iconst (v := nI 1) hx hb dX1_obstacle_7 (by decide) ?_
    exact k_iret hx hb hr hlk dX1_obstacle_8 (iF_t c4)
def rm_X1_obstacle_3 : Room := { frames := 3, cells := 0, slots := 0, locals := 63 }
set_option maxHeartbeats 4000000 in
set_option maxRecDepth 100000 in
theorem c_X1_obstacle_3 (l : Launch) (E : ke_E) (d : Nat) (z : Nat → Int32) (u : Nat) (hI : iv z) (hu : u < cn z) : Met l yX1_obstacle wsX1_obstacle rm_X1_obstacle_3 (kp E [.ref d, .ref (d + 2*u + 19), .int (nI 3)] (dz E d z)) (qp (some (.int (wy3 z u)))) 0 0 nof := by
  refine k_hd (cc := cX1_obstacle) (maxL := 4) (ret := (some .int)) (by decide) rfl (Nat.le_of_ble_eq_true rfl) ?_
  intro p e s m below meth c ls S hr hlk hnm hK hP hl
  have hx := S.1
  have hb := S.2.1
  have hts := S.2.2.2.2
  have hP : dz E d z s.heap := hP
  have hl : lv_has ls 4 [(0, .ref d), (1, .ref (d + 2*u + 19)), (2, .int (nI 3))] := hl
  have hc20 := iv_c hI
  refine lv_aload_n hx hb dX1_obstacle_0 rfl (lv_at hl 1 rfl) ?_
  refine k_get S hK (dz_u hP u hu) rfl (fun _ h => List.mem_cons_of_mem _ (List.mem_append_left _ (List.mem_append_left _ (List.mem_append_right _ (h))))) 3 (by decide) (List.mem_cons_of_mem _ (List.mem_append_left _ (List.mem_append_left _ (List.mem_append_left _ (List.mem_append_left _ (List.mem_of_getElem? (i := 0) rfl)))))) rfl (v := .int (z (13*u + 68))) rfl dX1_obstacle_1 ?_
  refine lv_if_eq (tgt := 9) hx hb dX1_obstacle_4 (by decide) (fun c4 => ?_) (fun c4 => ?_)
  · refine lv_aload_n hx hb dX1_obstacle_9 rfl (lv_at hl 0 rfl) ?_
    refine lv_aload_n hx hb dX1_obstacle_10 rfl (lv_at hl 1 rfl) ?_
    refine k_V (As := [.ref (d + 2*u + 19)]) (rest := []) S hK (c_X1_isHeld l E d z u hI hu) gX1_obstacle_X1_isHeld rfl hd_X1_isHeld ⟨rfl, rfl⟩ ⟨Nat.le_of_ble_eq_true rfl, Nat.le_of_ble_eq_true rfl⟩ (k_recv hK (dz_d hP) rfl) hP rfl hl.1 rfl (Nat.le_of_ble_eq_true rfl) dX1_obstacle_11 ⟨Nat.le_of_ble_eq_true rfl, Nat.le_of_ble_eq_true rfl⟩ ?_
    refine lv_iload_n hx hb dX1_obstacle_14 rfl (lv_at hl 2 rfl) ?_
    refine lv_iconst (v := nI 4) hx hb dX1_obstacle_15 (by decide) ?_
    refine n_ine (tgt := 23) hx hb dX1_obstacle_16 (by decide) (by omega) (by omega) (fun c16 => ?_) (fun h => absurd h (by decide))
    refine lv_iconst (v := nI 0) hx hb dX1_obstacle_23 (by decide) ?_
    refine b_ieq0 (tgt := 29) hx hb dX1_obstacle_24 (by decide) (fun c24 => ?_) (fun c24 => ?_)
    · refine lv_iload_n hx hb dX1_obstacle_29 rfl (lv_at hl 2 rfl) ?_
      refine lv_iconst (v := nI 4) hx hb dX1_obstacle_30 (by decide) ?_
      refine n_ine (tgt := 36) hx hb dX1_obstacle_31 (by decide) (by omega) (by omega) (fun c31 => ?_) (fun h => absurd h (by decide))
      refine lv_aload_n hx hb dX1_obstacle_36 rfl (lv_at hl 0 rfl) ?_
      refine lv_aload_n hx hb dX1_obstacle_37 rfl (lv_at hl 1 rfl) ?_
      refine k_V (As := [.ref (d + 2*u + 19)]) (rest := []) S hK (c_X1_gradeOf l E d z u hI hu) gX1_obstacle_X1_gradeOf rfl hd_X1_gradeOf ⟨rfl, rfl⟩ ⟨Nat.le_of_ble_eq_true rfl, Nat.le_of_ble_eq_true rfl⟩ (k_recv hK (dz_d hP) rfl) hP rfl hl.1 rfl (Nat.le_of_ble_eq_true rfl) dX1_obstacle_38 ⟨Nat.le_of_ble_eq_true rfl, Nat.le_of_ble_eq_true rfl⟩ ?_
      refine lv_istore_n (lv' := [(3, .int (grT z u)), (0, .ref d), (1, .ref (d + 2*u + 19)), (2, .int (nI 3))]) hx hb dX1_obstacle_41 rfl hl (by decide) rfl (fun ls hl => ?_)
      refine lv_iload_n hx hb dX1_obstacle_42 rfl (lv_at hl 0 rfl) ?_
      refine lv_iconst (v := (-1)) hx hb dX1_obstacle_43 (by decide) ?_
      refine lv_icmp_ne (tgt := 49) hx hb dX1_obstacle_44 (by decide) (fun c44 => ?_) (fun c44 => ?_)
      · refine lv_iload_n hx hb dX1_obstacle_49 rfl (lv_at hl 3 rfl) ?_
        refine lv_iconst (v := nI 1) hx hb dX1_obstacle_50 (by decide) ?_
        refine n_ine (tgt := 58) hx hb dX1_obstacle_51 (by decide) (by omega) (by omega) (fun c51 => ?_) (fun h => absurd h (by decide))
        refine lv_iload_n hx hb dX1_obstacle_58 rfl (lv_at hl 3 rfl) ?_
        refine lv_iconst (v := nI 2) hx hb dX1_obstacle_59 (by decide) ?_
        refine n_ine (tgt := 70) hx hb dX1_obstacle_60 (by decide) (by omega) (by omega) (fun c60 => ?_) (fun h => absurd h (by decide))
        refine lv_iload_n hx hb dX1_obstacle_70 rfl (lv_at hl 3 rfl) ?_
        refine lv_iconst (v := nI 1) hx hb dX1_obstacle_71 (by decide) ?_
        refine n_ine (tgt := 87) hx hb dX1_obstacle_72 (by decide) (by omega) (by omega) (fun c72 => ?_) (fun h => absurd h (by decide))
        refine lv_iconst (v := nI 0) hx hb dX1_obstacle_87 (by decide) ?_
        exact k_iret hx hb hr hlk dX1_obstacle_88 ((iF_f (fun h => h c4)).trans ((iF_f c24).trans ((iF_f (fun h => h (Classical.byContradiction fun h => c44 (grT_n h)))))))
      · refine lv_iconst (v := nI 3) hx hb dX1_obstacle_47 (by decide) ?_
        exact k_iret hx hb hr hlk dX1_obstacle_48 ((iF_f (fun h => h c4)).trans ((iF_f c24).trans (iF_t (fun h => gr_nm ((grT_t h).symm.trans c44)))))
    · refine lv_iconst (v := nI 2) hx hb dX1_obstacle_27 (by decide) ?_
      exact k_iret hx hb hr hlk dX1_obstacle_28 ((iF_f (fun h => h c4)).trans (iF_t c24))
  · refine lv_iconst (v := nI 1) hx hb dX1_obstacle_7 (by decide) ?_
    exact k_iret hx hb hr hlk dX1_obstacle_8 (iF_t c4)
def rm_X1_obstacle_4 : Room := { frames := 3, cells := 0, slots := 0, locals := 63 }
set_option maxHeartbeats 4000000 in
set_option maxRecDepth 100000 in
theorem c_X1_obstacle_4 (l : Launch) (E : ke_E) (d : Nat) (z : Nat → Int32) (u : Nat) (hI : iv z) (hu : u < cn z) : Met l yX1_obstacle wsX1_obstacle rm_X1_obstacle_4 (kp E [.ref d, .ref (d + 2*u + 19), .int (nI 4)] (dz E d z)) (qp (some (.int (wy4 z u)))) 0 0 nof := by
  refine k_hd (cc := cX1_obstacle) (maxL := 4) (ret := (some .int)) (by decide) rfl (Nat.le_of_ble_eq_true rfl) ?_
  intro p e s m below meth c ls S hr hlk hnm hK hP hl
  have hx := S.1
  have hb := S.2.1
  have hts := S.2.2.2.2
  have hP : dz E d z s.heap := hP
  have hl : lv_has ls 4 [(0, .ref d), (1, .ref (d + 2*u + 19)), (2, .int (nI 4))] := hl
  have hc20 := iv_c hI
  refine lv_aload_n hx hb dX1_obstacle_0 rfl (lv_at hl 1 rfl) ?_
  refine k_get S hK (dz_u hP u hu) rfl (fun _ h => List.mem_cons_of_mem _ (List.mem_append_left _ (List.mem_append_left _ (List.mem_append_right _ (h))))) 3 (by decide) (List.mem_cons_of_mem _ (List.mem_append_left _ (List.mem_append_left _ (List.mem_append_left _ (List.mem_append_left _ (List.mem_of_getElem? (i := 0) rfl)))))) rfl (v := .int (z (13*u + 68))) rfl dX1_obstacle_1 ?_
  refine lv_if_eq (tgt := 9) hx hb dX1_obstacle_4 (by decide) (fun c4 => ?_) (fun c4 => ?_)
  · refine lv_aload_n hx hb dX1_obstacle_9 rfl (lv_at hl 0 rfl) ?_
    refine lv_aload_n hx hb dX1_obstacle_10 rfl (lv_at hl 1 rfl) ?_
    refine k_V (As := [.ref (d + 2*u + 19)]) (rest := []) S hK (c_X1_isHeld l E d z u hI hu) gX1_obstacle_X1_isHeld rfl hd_X1_isHeld ⟨rfl, rfl⟩ ⟨Nat.le_of_ble_eq_true rfl, Nat.le_of_ble_eq_true rfl⟩ (k_recv hK (dz_d hP) rfl) hP rfl hl.1 rfl (Nat.le_of_ble_eq_true rfl) dX1_obstacle_11 ⟨Nat.le_of_ble_eq_true rfl, Nat.le_of_ble_eq_true rfl⟩ ?_
    refine lv_iload_n hx hb dX1_obstacle_14 rfl (lv_at hl 2 rfl) ?_
    refine lv_iconst (v := nI 4) hx hb dX1_obstacle_15 (by decide) ?_
    refine n_ine (tgt := 23) hx hb dX1_obstacle_16 (by decide) (by omega) (by omega) (fun h => absurd h (by decide)) (fun c16 => ?_)
    refine lv_iconst (v := nI 1) hx hb dX1_obstacle_19 (by decide) ?_
    refine lv_goto (tgt := 24) hx hb dX1_obstacle_20 (by decide) ?_
    refine b_ieq1 (tgt := 29) hx hb dX1_obstacle_24 (by decide) (fun c24 => ?_) (fun c24 => ?_)
    · refine lv_iload_n hx hb dX1_obstacle_29 rfl (lv_at hl 2 rfl) ?_
      refine lv_iconst (v := nI 4) hx hb dX1_obstacle_30 (by decide) ?_
      refine n_ine (tgt := 36) hx hb dX1_obstacle_31 (by decide) (by omega) (by omega) (fun h => absurd h (by decide)) (fun c31 => ?_)
      refine lv_iconst (v := nI 0) hx hb dX1_obstacle_34 (by decide) ?_
      exact k_iret hx hb hr hlk dX1_obstacle_35 ((iF_f (fun h => h c4)).trans (iF_f (fun h => h c24)))
    · refine lv_iconst (v := nI 2) hx hb dX1_obstacle_27 (by decide) ?_
      exact k_iret hx hb hr hlk dX1_obstacle_28 ((iF_f (fun h => h c4)).trans (iF_t c24))
  · refine lv_iconst (v := nI 1) hx hb dX1_obstacle_7 (by decide) ?_
    exact k_iret hx hb hr hlk dX1_obstacle_8 (iF_t c4)
def rm_X1_moneyOn_1 : Room := { frames := 0, cells := 0, slots := 0, locals := 0 }
theorem hd_X1_moneyOn : k_hd1 yX1_moneyOn RX1 2 := by decide +kernel
set_option maxHeartbeats 4000000 in
set_option maxRecDepth 100000 in
theorem c_X1_moneyOn_1 (l : Launch) (E : ke_E) (d : Nat) (z : Nat → Int32) (u : Nat) (hI : iv z) (hu : u < cn z) : Met l yX1_moneyOn wsX1_moneyOn rm_X1_moneyOn_1 (kp E [.ref d, .ref (d + 2*u + 19), .int (nI 1)] (dz E d z)) (qp (some (.int (brg z u 1)))) 0 0 nof := by
  refine k_hd (cc := cX1_moneyOn) (maxL := 3) (ret := (some .int)) (by decide) rfl (Nat.le_of_ble_eq_true rfl) ?_
  intro p e s m below meth c ls S hr hlk hnm hK hP hl
  have hx := S.1
  have hb := S.2.1
  have hts := S.2.2.2.2
  have hP : dz E d z s.heap := hP
  have hl : lv_has ls 3 [(0, .ref d), (1, .ref (d + 2*u + 19)), (2, .int (nI 1))] := hl
  have hc20 := iv_c hI
  have hup6 := iv_upl hI hu
  refine lv_iload_n hx hb dX1_moneyOn_0 rfl (lv_at hl 2 rfl) ?_
  refine lv_iconst (v := nI 2) hx hb dX1_moneyOn_1 (by decide) ?_
  refine n_ine (tgt := 16) hx hb dX1_moneyOn_2 (by decide) (by omega) (by omega) (fun c2 => ?_) (fun h => absurd h (by decide))
  refine lv_iload_n hx hb dX1_moneyOn_16 rfl (lv_at hl 2 rfl) ?_
  refine lv_iconst (v := nI 4) hx hb dX1_moneyOn_17 (by decide) ?_
  refine n_ine (tgt := 32) hx hb dX1_moneyOn_18 (by decide) (by omega) (by omega) (fun c18 => ?_) (fun h => absurd h (by decide))
  refine lv_iconst (v := nI 0) hx hb dX1_moneyOn_32 (by decide) ?_
  exact k_iret hx hb hr hlk dX1_moneyOn_33 (brg_1)
def rm_X1_moneyOn_2 : Room := { frames := 3, cells := 0, slots := 0, locals := 65 }
set_option maxHeartbeats 4000000 in
set_option maxRecDepth 100000 in
theorem c_X1_moneyOn_2 (l : Launch) (E : ke_E) (d : Nat) (z : Nat → Int32) (u : Nat) (hI : iv z) (hu : u < cn z) (ht : tst z u) : Met l yX1_moneyOn wsX1_moneyOn rm_X1_moneyOn_2 (kp E [.ref d, .ref (d + 2*u + 19), .int (nI 2)] (dz E d z)) (qp (some (.int (brg z u 2)))) 0 0 nof := by
  refine k_hd (cc := cX1_moneyOn) (maxL := 3) (ret := (some .int)) (by decide) rfl (Nat.le_of_ble_eq_true rfl) ?_
  intro p e s m below meth c ls S hr hlk hnm hK hP hl
  have hx := S.1
  have hb := S.2.1
  have hts := S.2.2.2.2
  have hP : dz E d z s.heap := hP
  have hl : lv_has ls 3 [(0, .ref d), (1, .ref (d + 2*u + 19)), (2, .int (nI 2))] := hl
  have hc20 := iv_c hI
  have hup6 := iv_upl hI hu
  refine lv_iload_n hx hb dX1_moneyOn_0 rfl (lv_at hl 2 rfl) ?_
  refine lv_iconst (v := nI 2) hx hb dX1_moneyOn_1 (by decide) ?_
  refine n_ine (tgt := 16) hx hb dX1_moneyOn_2 (by decide) (by omega) (by omega) (fun h => absurd h (by decide)) (fun c2 => ?_)
  refine lv_aload_n hx hb dX1_moneyOn_5 rfl (lv_at hl 0 rfl) ?_
  refine lv_aload_n hx hb dX1_moneyOn_6 rfl (lv_at hl 1 rfl) ?_
  refine lv_aload_n hx hb dX1_moneyOn_7 rfl (lv_at hl 0 rfl) ?_
  refine lv_aload_n hx hb dX1_moneyOn_8 rfl (lv_at hl 1 rfl) ?_
  refine k_V (As := [.ref (d + 2*u + 19)]) (rest := [.ref (d + 2*u + 19), .ref d]) S hK (c_X1_gradeOf l E d z u hI hu) gX1_moneyOn_X1_gradeOf rfl hd_X1_gradeOf ⟨rfl, rfl⟩ ⟨Nat.le_of_ble_eq_true rfl, Nat.le_of_ble_eq_true rfl⟩ (k_recv hK (dz_d hP) rfl) hP rfl hl.1 rfl (Nat.le_of_ble_eq_true rfl) dX1_moneyOn_9 ⟨Nat.le_of_ble_eq_true rfl, Nat.le_of_ble_eq_true rfl⟩ ?_
  refine k_top (y := nI (gN z u (nI 0))) ((grT_t ht).trans gN_e.1) ?_
  refine k_V (As := [.ref (d + 2*u + 19), .int (nI (gN z u (nI 0)))]) (rest := []) S hK (c_X1_priceOf l E d z u (gN z u (nI 0)) hI hu gN_e.2) gX1_moneyOn_X1_priceOf rfl hd_X1_priceOf ⟨rfl, rfl⟩ ⟨Nat.le_of_ble_eq_true rfl, Nat.le_of_ble_eq_true rfl⟩ (k_recv hK (dz_d hP) rfl) hP rfl hl.1 rfl (Nat.le_of_ble_eq_true rfl) dX1_moneyOn_12 ⟨Nat.le_of_ble_eq_true rfl, Nat.le_of_ble_eq_true rfl⟩ ?_
  exact k_iret hx hb hr hlk dX1_moneyOn_15 (brg_2.trans (by rw [← gN_e.1]))
def rm_X1_moneyOn_3 : Room := { frames := 0, cells := 0, slots := 0, locals := 0 }
set_option maxHeartbeats 4000000 in
set_option maxRecDepth 100000 in
theorem c_X1_moneyOn_3 (l : Launch) (E : ke_E) (d : Nat) (z : Nat → Int32) (u : Nat) (hI : iv z) (hu : u < cn z) : Met l yX1_moneyOn wsX1_moneyOn rm_X1_moneyOn_3 (kp E [.ref d, .ref (d + 2*u + 19), .int (nI 3)] (dz E d z)) (qp (some (.int (brg z u 3)))) 0 0 nof := by
  refine k_hd (cc := cX1_moneyOn) (maxL := 3) (ret := (some .int)) (by decide) rfl (Nat.le_of_ble_eq_true rfl) ?_
  intro p e s m below meth c ls S hr hlk hnm hK hP hl
  have hx := S.1
  have hb := S.2.1
  have hts := S.2.2.2.2
  have hP : dz E d z s.heap := hP
  have hl : lv_has ls 3 [(0, .ref d), (1, .ref (d + 2*u + 19)), (2, .int (nI 3))] := hl
  have hc20 := iv_c hI
  have hup6 := iv_upl hI hu
  refine lv_iload_n hx hb dX1_moneyOn_0 rfl (lv_at hl 2 rfl) ?_
  refine lv_iconst (v := nI 2) hx hb dX1_moneyOn_1 (by decide) ?_
  refine n_ine (tgt := 16) hx hb dX1_moneyOn_2 (by decide) (by omega) (by omega) (fun c2 => ?_) (fun h => absurd h (by decide))
  refine lv_iload_n hx hb dX1_moneyOn_16 rfl (lv_at hl 2 rfl) ?_
  refine lv_iconst (v := nI 4) hx hb dX1_moneyOn_17 (by decide) ?_
  refine n_ine (tgt := 32) hx hb dX1_moneyOn_18 (by decide) (by omega) (by omega) (fun c18 => ?_) (fun h => absurd h (by decide))
  refine lv_iconst (v := nI 0) hx hb dX1_moneyOn_32 (by decide) ?_
  exact k_iret hx hb hr hlk dX1_moneyOn_33 (brg_3)
def rm_X1_moneyOn_4 : Room := { frames := 2, cells := 0, slots := 0, locals := 42 }
set_option maxHeartbeats 4000000 in
set_option maxRecDepth 100000 in
theorem c_X1_moneyOn_4 (l : Launch) (E : ke_E) (d : Nat) (z : Nat → Int32) (u : Nat) (hI : iv z) (hu : u < cn z) : Met l yX1_moneyOn wsX1_moneyOn rm_X1_moneyOn_4 (kp E [.ref d, .ref (d + 2*u + 19), .int (nI 4)] (dz E d z)) (qp (some (.int (brg z u 4)))) 0 0 nof := by
  refine k_hd (cc := cX1_moneyOn) (maxL := 3) (ret := (some .int)) (by decide) rfl (Nat.le_of_ble_eq_true rfl) ?_
  intro p e s m below meth c ls S hr hlk hnm hK hP hl
  have hx := S.1
  have hb := S.2.1
  have hts := S.2.2.2.2
  have hP : dz E d z s.heap := hP
  have hl : lv_has ls 3 [(0, .ref d), (1, .ref (d + 2*u + 19)), (2, .int (nI 4))] := hl
  have hc20 := iv_c hI
  have hup6 := iv_upl hI hu
  refine lv_iload_n hx hb dX1_moneyOn_0 rfl (lv_at hl 2 rfl) ?_
  refine lv_iconst (v := nI 2) hx hb dX1_moneyOn_1 (by decide) ?_
  refine n_ine (tgt := 16) hx hb dX1_moneyOn_2 (by decide) (by omega) (by omega) (fun c2 => ?_) (fun h => absurd h (by decide))
  refine lv_iload_n hx hb dX1_moneyOn_16 rfl (lv_at hl 2 rfl) ?_
  refine lv_iconst (v := nI 4) hx hb dX1_moneyOn_17 (by decide) ?_
  refine n_ine (tgt := 32) hx hb dX1_moneyOn_18 (by decide) (by omega) (by omega) (fun h => absurd h (by decide)) (fun c18 => ?_)
  refine lv_aload_n hx hb dX1_moneyOn_21 rfl (lv_at hl 0 rfl) ?_
  refine lv_aload_n hx hb dX1_moneyOn_22 rfl (lv_at hl 1 rfl) ?_
  refine k_V (As := [.ref (d + 2*u + 19)]) (rest := []) S hK (c_X1_productUnder l E d z u hI hu) gX1_moneyOn_X1_productUnder rfl hd_X1_productUnder ⟨rfl, rfl⟩ ⟨Nat.le_of_ble_eq_true rfl, Nat.le_of_ble_eq_true rfl⟩ (k_recv hK (dz_d hP) rfl) hP rfl hl.1 rfl (Nat.le_of_ble_eq_true rfl) dX1_moneyOn_23 ⟨Nat.le_of_ble_eq_true rfl, Nat.le_of_ble_eq_true rfl⟩ ?_
  refine k_get S hK (dz_p hP (up z u) (by omega)) rfl (fun _ h => List.mem_cons_of_mem _ (List.mem_append_left _ (List.mem_append_left _ (List.mem_append_right _ (h))))) 0 (by decide) (List.mem_cons_of_mem _ (List.mem_append_left _ (List.mem_append_left _ (List.mem_append_left _ (List.mem_append_left _ (List.mem_of_getElem? (i := 0) rfl)))))) rfl (v := .int (z (3*up z u + 12))) rfl dX1_moneyOn_26 ?_
  refine lv_goto (tgt := 33) hx hb dX1_moneyOn_29 (by decide) ?_
  exact k_iret hx hb hr hlk dX1_moneyOn_33 (brg_4)
def rm_X1_moneyBehindWorkshop : Room := { frames := 3, cells := 0, slots := 0, locals := 65 }
theorem hd_X1_moneyBehindWorkshop : k_hd1 yX1_moneyBehindWorkshop RX1 1 := by decide +kernel
set_option maxHeartbeats 4000000 in
set_option maxRecDepth 100000 in
theorem c_X1_moneyBehindWorkshop (l : Launch) (E : ke_E) (d : Nat) (z : Nat → Int32) (u : Nat) (hI : iv z) (hu : u < cn z) (ht : tst z u) : Met l yX1_moneyBehindWorkshop wsX1_moneyBehindWorkshop rm_X1_moneyBehindWorkshop (kp E [.ref d, .ref (d + 2*u + 19)] (dz E d z)) (qp (some (.int (mon z u 1)))) 0 0 nof := by
  refine k_hd (cc := cX1_moneyBehindWorkshop) (maxL := 2) (ret := (some .int)) (by decide) rfl (Nat.le_of_ble_eq_true rfl) ?_
  intro p e s m below meth c ls S hr hlk hnm hK hP hl
  have hx := S.1
  have hb := S.2.1
  have hts := S.2.2.2.2
  have hP : dz E d z s.heap := hP
  have hl : lv_has ls 2 [(0, .ref d), (1, .ref (d + 2*u + 19))] := hl
  have hc20 := iv_c hI
  refine lv_aload_n hx hb dX1_moneyBehindWorkshop_0 rfl (lv_at hl 0 rfl) ?_
  refine lv_aload_n hx hb dX1_moneyBehindWorkshop_1 rfl (lv_at hl 1 rfl) ?_
  refine lv_aload_n hx hb dX1_moneyBehindWorkshop_2 rfl (lv_at hl 0 rfl) ?_
  refine lv_aload_n hx hb dX1_moneyBehindWorkshop_3 rfl (lv_at hl 1 rfl) ?_
  refine k_V (As := [.ref (d + 2*u + 19)]) (rest := [.ref (d + 2*u + 19), .ref d]) S hK (c_X1_repairedGradeOf l E d z u hu) gX1_moneyBehindWorkshop_X1_repairedGradeOf rfl hd_X1_repairedGradeOf ⟨rfl, rfl⟩ ⟨Nat.le_of_ble_eq_true rfl, Nat.le_of_ble_eq_true rfl⟩ (k_recv hK (dz_d hP) rfl) hP rfl hl.1 rfl (Nat.le_of_ble_eq_true rfl) dX1_moneyBehindWorkshop_4 ⟨Nat.le_of_ble_eq_true rfl, Nat.le_of_ble_eq_true rfl⟩ ?_
  refine k_top (y := nI (gN z u (nI 1))) (gN_e.1) ?_
  refine k_V (As := [.ref (d + 2*u + 19), .int (nI (gN z u (nI 1)))]) (rest := []) S hK (c_X1_priceOf l E d z u (gN z u (nI 1)) hI hu gN_e.2) gX1_moneyBehindWorkshop_X1_priceOf rfl hd_X1_priceOf ⟨rfl, rfl⟩ ⟨Nat.le_of_ble_eq_true rfl, Nat.le_of_ble_eq_true rfl⟩ (k_recv hK (dz_d hP) rfl) hP rfl hl.1 rfl (Nat.le_of_ble_eq_true rfl) dX1_moneyBehindWorkshop_7 ⟨Nat.le_of_ble_eq_true rfl, Nat.le_of_ble_eq_true rfl⟩ ?_
  refine lv_aload_n hx hb dX1_moneyBehindWorkshop_10 rfl (lv_at hl 0 rfl) ?_
  refine lv_aload_n hx hb dX1_moneyBehindWorkshop_11 rfl (lv_at hl 1 rfl) ?_
  refine k_V (As := [.ref (d + 2*u + 19)]) (rest := [.int (prc z u (nI (gN z u (nI 1))))]) S hK (c_X1_repairCostOf l E d z u hu ht) gX1_moneyBehindWorkshop_X1_repairCostOf rfl hd_X1_repairCostOf ⟨rfl, rfl⟩ ⟨Nat.le_of_ble_eq_true rfl, Nat.le_of_ble_eq_true rfl⟩ (k_recv hK (dz_d hP) rfl) hP rfl hl.1 rfl (Nat.le_of_ble_eq_true rfl) dX1_moneyBehindWorkshop_12 ⟨Nat.le_of_ble_eq_true rfl, Nat.le_of_ble_eq_true rfl⟩ ?_
  refine lv_isub hx hb dX1_moneyBehindWorkshop_15 ?_
  exact k_iret hx hb hr hlk dX1_moneyBehindWorkshop_16 ((iF_t rfl).trans (by unfold rpa1 rpa2; rw [iF_t ht, iF_t ht, ← gN_e.1]; rfl))
