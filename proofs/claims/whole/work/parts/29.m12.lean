/-! ===== copies of desks; units that come ===== -/
theorem zb_nar {x : Int32} (h : rg x 0 1) : narrow .boolean (.int x) = .int x := by
  obtain ⟨j, rfl, h1, h2⟩ := rg_nI h (by decide)
  rcases (by omega : j = 0 ∨ j = 1) with e | e <;> subst e <;> rfl
theorem zb_fit {x : Int32} (h : rg x 0 1) : fits .boolean (.int x) = true := by
  obtain ⟨j, rfl, h1, h2⟩ := rg_nI h (by decide)
  rcases (by omega : j = 0 ∨ j = 1) with e | e <;> subst e <;> rfl
theorem cpU_00 {w y : Nat → Int32} {k : Nat} (h : iv y) : cpU (upd w 0 (y 0)) y k 0 = nI (cn y) := by
  show (if 62 ≤ 0 ∧ 0 < 13*k + 62 then y 0 else upd w 0 (y 0) 0) = _
  rw [if_neg (by omega), upd_s]
  exact iv_n h
def rm_X6_copyNumbers : Room := { frames := 0, cells := 0, slots := 0, locals := 0 }
theorem hd_X6_copyNumbers : k_hd1 yX6_copyNumbers RX6 2 := by decide +kernel
set_option maxHeartbeats 4000000 in
set_option maxRecDepth 100000 in
theorem c_X6_copyNumbers_5 (l : Launch) (E : ke_E) (d : Nat) (x : Nat → Int32) (g : Nat) (y : Nat → Int32) (hd : d + 59 ≤ g ∨ g + 59 ≤ d) : Met l yX6_copyNumbers wsX6_copyNumbers rm_X6_copyNumbers (kp E [.ref (g + 4), .ref (d + 4)] (fun H => dp E d x H ∧ dp E g y H)) (qm none (bl d 59) (dp E d (upd (upd (upd (upd (upd x 7 (y 7)) 8 (y 8)) 9 (y 9)) 10 (y 10)) 11 (y 11)))) 0 0 (bl d 59) := by
  refine k_hd (cc := cX6_copyNumbers) (maxL := 3) (ret := none) (by decide) rfl (Nat.le_of_ble_eq_true rfl) ?_
  intro p e s m below meth c ls S hr hlk hnm hK hP hl
  have hx := S.1
  have hb := S.2.1
  have hts := S.2.2.2.2
  obtain ⟨hP0, hP1⟩ := hP
  have hl : lv_has ls 3 [(0, .ref (g + 4)), (1, .ref (d + 4))] := hl
  have hS : va_S (bl d 59) s.heap s.heap [] := va_S.rf
  refine lv_iconst (v := nI 0) hx hb dX6_copyNumbers_0 (by decide) ?_
  refine lv_istore_n (lv' := [(2, .int (nI 0)), (0, .ref (g + 4)), (1, .ref (d + 4))]) hx hb dX6_copyNumbers_1 rfl hl (by decide) rfl (fun ls hl => ?_)
  refine lv_iload_n hx hb dX6_copyNumbers_2 rfl (lv_at hl 0 rfl) ?_
  refine lv_aload_n hx hb dX6_copyNumbers_3 rfl (lv_at hl 1 rfl) ?_
  refine k_alen hx hb hK (t := 0) rfl hP1.2.2.2.2.1 dX6_copyNumbers_4 ?_
  refine k_top (y := nI 5) rfl ?_
  refine n_ige (tgt := 26) hx hb dX6_copyNumbers_5 (by decide) (by omega) (by omega) (fun h => absurd h (by decide)) (fun c5 => ?_)
  refine lv_iload_n hx hb dX6_copyNumbers_8 rfl (lv_at hl 0 rfl) ?_
  refine lv_aload_n hx hb dX6_copyNumbers_9 rfl (lv_at hl 2 rfl) ?_
  refine k_alen hx hb hK (t := 0) rfl hP0.2.2.2.2.1 dX6_copyNumbers_10 ?_
  refine k_top (y := nI 5) rfl ?_
  refine n_ige (tgt := 26) hx hb dX6_copyNumbers_11 (by decide) (by omega) (by omega) (fun h => absurd h (by decide)) (fun c11 => ?_)
  refine lv_aload_n hx hb dX6_copyNumbers_14 rfl (lv_at hl 2 rfl) ?_
  refine lv_iload_n hx hb dX6_copyNumbers_15 rfl (lv_at hl 0 rfl) ?_
  refine lv_aload_n hx hb dX6_copyNumbers_16 rfl (lv_at hl 1 rfl) ?_
  refine lv_iload_n hx hb dX6_copyNumbers_17 rfl (lv_at hl 0 rfl) ?_
  refine k_iald hx hb hK hP1.2.2.2.2.1 (by omega) (by decide) (v := y 7) rfl dX6_copyNumbers_18 ?_
  refine dp_astS hx hb hK hP0 (by omega) hS (fun _ h => h) dX6_copyNumbers_19 (fun H locs hP zH fH hS => ?_)
  have hk1 := dp_fr2 hP1 (fun q _ hq => fH q (bl_ne hq (by omega)))
  refine lv_iinc (v := nI 1) (lv' := [(2, .int (nI 1)), (0, .ref (g + 4)), (1, .ref (d + 4))]) hx hb dX6_copyNumbers_20 hl (k := 0) rfl (by decide) (by decide) rfl (fun ls hl => ?_)
  refine lv_goto (tgt := 2) hx hb dX6_copyNumbers_23 (by decide) ?_
  refine lv_iload_n hx hb dX6_copyNumbers_2 rfl (lv_at hl 0 rfl) ?_
  refine lv_aload_n hx hb dX6_copyNumbers_3 rfl (lv_at hl 1 rfl) ?_
  refine k_alen hx hb hK (t := 0) rfl hk1.2.2.2.2.1 dX6_copyNumbers_4 ?_
  refine k_top (y := nI 5) rfl ?_
  refine n_ige (tgt := 26) hx hb dX6_copyNumbers_5 (by decide) (by omega) (by omega) (fun h => absurd h (by decide)) (fun c5_1 => ?_)
  refine lv_iload_n hx hb dX6_copyNumbers_8 rfl (lv_at hl 0 rfl) ?_
  refine lv_aload_n hx hb dX6_copyNumbers_9 rfl (lv_at hl 2 rfl) ?_
  refine k_alen hx hb hK (t := 0) rfl hP.2.2.2.2.1 dX6_copyNumbers_10 ?_
  refine k_top (y := nI 5) rfl ?_
  refine n_ige (tgt := 26) hx hb dX6_copyNumbers_11 (by decide) (by omega) (by omega) (fun h => absurd h (by decide)) (fun c11_1 => ?_)
  refine lv_aload_n hx hb dX6_copyNumbers_14 rfl (lv_at hl 2 rfl) ?_
  refine lv_iload_n hx hb dX6_copyNumbers_15 rfl (lv_at hl 0 rfl) ?_
  refine lv_aload_n hx hb dX6_copyNumbers_16 rfl (lv_at hl 1 rfl) ?_
  refine lv_iload_n hx hb dX6_copyNumbers_17 rfl (lv_at hl 0 rfl) ?_
  refine k_iald hx hb hK hk1.2.2.2.2.1 (by omega) (by decide) (v := y 8) rfl dX6_copyNumbers_18 ?_
  refine dp_astS hx hb hK hP (by omega) hS (fun _ h => h) dX6_copyNumbers_19 (fun H locs hP zH fH hS => ?_)
  have hk1 := dp_fr2 hk1 (fun q _ hq => fH q (bl_ne hq (by omega)))
  refine lv_iinc (v := nI 2) (lv' := [(2, .int (nI 2)), (0, .ref (g + 4)), (1, .ref (d + 4))]) hx hb dX6_copyNumbers_20 hl (k := 0) rfl (by decide) (by decide) rfl (fun ls hl => ?_)
  refine lv_goto (tgt := 2) hx hb dX6_copyNumbers_23 (by decide) ?_
  refine lv_iload_n hx hb dX6_copyNumbers_2 rfl (lv_at hl 0 rfl) ?_
  refine lv_aload_n hx hb dX6_copyNumbers_3 rfl (lv_at hl 1 rfl) ?_
  refine k_alen hx hb hK (t := 0) rfl hk1.2.2.2.2.1 dX6_copyNumbers_4 ?_
  refine k_top (y := nI 5) rfl ?_
  refine n_ige (tgt := 26) hx hb dX6_copyNumbers_5 (by decide) (by omega) (by omega) (fun h => absurd h (by decide)) (fun c5_2 => ?_)
  refine lv_iload_n hx hb dX6_copyNumbers_8 rfl (lv_at hl 0 rfl) ?_
  refine lv_aload_n hx hb dX6_copyNumbers_9 rfl (lv_at hl 2 rfl) ?_
  refine k_alen hx hb hK (t := 0) rfl hP.2.2.2.2.1 dX6_copyNumbers_10 ?_
  refine k_top (y := nI 5) rfl ?_
  refine n_ige (tgt := 26) hx hb dX6_copyNumbers_11 (by decide) (by omega) (by omega) (fun h => absurd h (by decide)) (fun c11_2 => ?_)
  refine lv_aload_n hx hb dX6_copyNumbers_14 rfl (lv_at hl 2 rfl) ?_
  refine lv_iload_n hx hb dX6_copyNumbers_15 rfl (lv_at hl 0 rfl) ?_
  refine lv_aload_n hx hb dX6_copyNumbers_16 rfl (lv_at hl 1 rfl) ?_
  refine lv_iload_n hx hb dX6_copyNumbers_17 rfl (lv_at hl 0 rfl) ?_
  refine k_iald hx hb hK hk1.2.2.2.2.1 (by omega) (by decide) (v := y 9) rfl dX6_copyNumbers_18 ?_
  refine dp_astS hx hb hK hP (by omega) hS (fun _ h => h) dX6_copyNumbers_19 (fun H locs hP zH fH hS => ?_)
  have hk1 := dp_fr2 hk1 (fun q _ hq => fH q (bl_ne hq (by omega)))
  refine lv_iinc (v := nI 3) (lv' := [(2, .int (nI 3)), (0, .ref (g + 4)), (1, .ref (d + 4))]) hx hb dX6_copyNumbers_20 hl (k := 0) rfl (by decide) (by decide) rfl (fun ls hl => ?_)
  refine lv_goto (tgt := 2) hx hb dX6_copyNumbers_23 (by decide) ?_
  refine lv_iload_n hx hb dX6_copyNumbers_2 rfl (lv_at hl 0 rfl) ?_
  refine lv_aload_n hx hb dX6_copyNumbers_3 rfl (lv_at hl 1 rfl) ?_
  refine k_alen hx hb hK (t := 0) rfl hk1.2.2.2.2.1 dX6_copyNumbers_4 ?_
  refine k_top (y := nI 5) rfl ?_
  refine n_ige (tgt := 26) hx hb dX6_copyNumbers_5 (by decide) (by omega) (by omega) (fun h => absurd h (by decide)) (fun c5_3 => ?_)
  refine lv_iload_n hx hb dX6_copyNumbers_8 rfl (lv_at hl 0 rfl) ?_
  refine lv_aload_n hx hb dX6_copyNumbers_9 rfl (lv_at hl 2 rfl) ?_
  refine k_alen hx hb hK (t := 0) rfl hP.2.2.2.2.1 dX6_copyNumbers_10 ?_
  refine k_top (y := nI 5) rfl ?_
  refine n_ige (tgt := 26) hx hb dX6_copyNumbers_11 (by decide) (by omega) (by omega) (fun h => absurd h (by decide)) (fun c11_3 => ?_)
  refine lv_aload_n hx hb dX6_copyNumbers_14 rfl (lv_at hl 2 rfl) ?_
  refine lv_iload_n hx hb dX6_copyNumbers_15 rfl (lv_at hl 0 rfl) ?_
  refine lv_aload_n hx hb dX6_copyNumbers_16 rfl (lv_at hl 1 rfl) ?_
  refine lv_iload_n hx hb dX6_copyNumbers_17 rfl (lv_at hl 0 rfl) ?_
  refine k_iald hx hb hK hk1.2.2.2.2.1 (by omega) (by decide) (v := y 10) rfl dX6_copyNumbers_18 ?_
  refine dp_astS hx hb hK hP (by omega) hS (fun _ h => h) dX6_copyNumbers_19 (fun H locs hP zH fH hS => ?_)
  have hk1 := dp_fr2 hk1 (fun q _ hq => fH q (bl_ne hq (by omega)))
  refine lv_iinc (v := nI 4) (lv' := [(2, .int (nI 4)), (0, .ref (g + 4)), (1, .ref (d + 4))]) hx hb dX6_copyNumbers_20 hl (k := 0) rfl (by decide) (by decide) rfl (fun ls hl => ?_)
  refine lv_goto (tgt := 2) hx hb dX6_copyNumbers_23 (by decide) ?_
  refine lv_iload_n hx hb dX6_copyNumbers_2 rfl (lv_at hl 0 rfl) ?_
  refine lv_aload_n hx hb dX6_copyNumbers_3 rfl (lv_at hl 1 rfl) ?_
  refine k_alen hx hb hK (t := 0) rfl hk1.2.2.2.2.1 dX6_copyNumbers_4 ?_
  refine k_top (y := nI 5) rfl ?_
  refine n_ige (tgt := 26) hx hb dX6_copyNumbers_5 (by decide) (by omega) (by omega) (fun h => absurd h (by decide)) (fun c5_4 => ?_)
  refine lv_iload_n hx hb dX6_copyNumbers_8 rfl (lv_at hl 0 rfl) ?_
  refine lv_aload_n hx hb dX6_copyNumbers_9 rfl (lv_at hl 2 rfl) ?_
  refine k_alen hx hb hK (t := 0) rfl hP.2.2.2.2.1 dX6_copyNumbers_10 ?_
  refine k_top (y := nI 5) rfl ?_
  refine n_ige (tgt := 26) hx hb dX6_copyNumbers_11 (by decide) (by omega) (by omega) (fun h => absurd h (by decide)) (fun c11_4 => ?_)
  refine lv_aload_n hx hb dX6_copyNumbers_14 rfl (lv_at hl 2 rfl) ?_
  refine lv_iload_n hx hb dX6_copyNumbers_15 rfl (lv_at hl 0 rfl) ?_
  refine lv_aload_n hx hb dX6_copyNumbers_16 rfl (lv_at hl 1 rfl) ?_
  refine lv_iload_n hx hb dX6_copyNumbers_17 rfl (lv_at hl 0 rfl) ?_
  refine k_iald hx hb hK hk1.2.2.2.2.1 (by omega) (by decide) (v := y 11) rfl dX6_copyNumbers_18 ?_
  refine dp_astS hx hb hK hP (by omega) hS (fun _ h => h) dX6_copyNumbers_19 (fun H locs hP zH fH hS => ?_)
  have hk1 := dp_fr2 hk1 (fun q _ hq => fH q (bl_ne hq (by omega)))
  refine lv_iinc (v := nI 5) (lv' := [(2, .int (nI 5)), (0, .ref (g + 4)), (1, .ref (d + 4))]) hx hb dX6_copyNumbers_20 hl (k := 0) rfl (by decide) (by decide) rfl (fun ls hl => ?_)
  refine lv_goto (tgt := 2) hx hb dX6_copyNumbers_23 (by decide) ?_
  refine lv_iload_n hx hb dX6_copyNumbers_2 rfl (lv_at hl 0 rfl) ?_
  refine lv_aload_n hx hb dX6_copyNumbers_3 rfl (lv_at hl 1 rfl) ?_
  refine k_alen hx hb hK (t := 0) rfl hk1.2.2.2.2.1 dX6_copyNumbers_4 ?_
  refine k_top (y := nI 5) rfl ?_
  refine n_ige (tgt := 26) hx hb dX6_copyNumbers_5 (by decide) (by omega) (by omega) (fun c5_5 => ?_) (fun h => absurd h (by decide))
  exact k_vretM hx hb hr hlk dX6_copyNumbers_26 hS hP
set_option maxHeartbeats 4000000 in
set_option maxRecDepth 100000 in
theorem c_X6_copyNumbers_a (l : Launch) (E : ke_E) (d : Nat) (x : Nat → Int32) (g : Nat) (y : Nat → Int32) (v : Nat) (hd : d + 59 ≤ g ∨ g + 59 ≤ d) (hv4 : v < 4) : Met l yX6_copyNumbers wsX6_copyNumbers rm_X6_copyNumbers (kp E [.ref (g + 2*v + 12), .ref (d + 2*v + 12)] (fun H => dp E d x H ∧ dp E g y H)) (qm none (bl d 59) (dp E d (upd (upd (upd (upd x (8*v + 34) (y (8*v + 34))) (8*v + 35) (y (8*v + 35))) (8*v + 36) (y (8*v + 36))) (8*v + 37) (y (8*v + 37))))) 0 0 (bl d 59) := by
  refine k_hd (cc := cX6_copyNumbers) (maxL := 3) (ret := none) (by decide) rfl (Nat.le_of_ble_eq_true rfl) ?_
  intro p e s m below meth c ls S hr hlk hnm hK hP hl
  have hx := S.1
  have hb := S.2.1
  have hts := S.2.2.2.2
  obtain ⟨hP0, hP1⟩ := hP
  have hl : lv_has ls 3 [(0, .ref (g + 2*v + 12)), (1, .ref (d + 2*v + 12))] := hl
  have hS : va_S (bl d 59) s.heap s.heap [] := va_S.rf
  refine lv_iconst (v := nI 0) hx hb dX6_copyNumbers_0 (by decide) ?_
  refine lv_istore_n (lv' := [(2, .int (nI 0)), (0, .ref (g + 2*v + 12)), (1, .ref (d + 2*v + 12))]) hx hb dX6_copyNumbers_1 rfl hl (by decide) rfl (fun ls hl => ?_)
  refine lv_iload_n hx hb dX6_copyNumbers_2 rfl (lv_at hl 0 rfl) ?_
  refine lv_aload_n hx hb dX6_copyNumbers_3 rfl (lv_at hl 1 rfl) ?_
  refine k_alen hx hb hK (t := 0) rfl (hP1.2.2.2.2.2.2.2.1 v hv4) dX6_copyNumbers_4 ?_
  refine k_top (y := nI 4) rfl ?_
  refine n_ige (tgt := 26) hx hb dX6_copyNumbers_5 (by decide) (by omega) (by omega) (fun h => absurd h (by decide)) (fun c5 => ?_)
  refine lv_iload_n hx hb dX6_copyNumbers_8 rfl (lv_at hl 0 rfl) ?_
  refine lv_aload_n hx hb dX6_copyNumbers_9 rfl (lv_at hl 2 rfl) ?_
  refine k_alen hx hb hK (t := 0) rfl (hP0.2.2.2.2.2.2.2.1 v hv4) dX6_copyNumbers_10 ?_
  refine k_top (y := nI 4) rfl ?_
  refine n_ige (tgt := 26) hx hb dX6_copyNumbers_11 (by decide) (by omega) (by omega) (fun h => absurd h (by decide)) (fun c11 => ?_)
  refine lv_aload_n hx hb dX6_copyNumbers_14 rfl (lv_at hl 2 rfl) ?_
  refine lv_iload_n hx hb dX6_copyNumbers_15 rfl (lv_at hl 0 rfl) ?_
  refine lv_aload_n hx hb dX6_copyNumbers_16 rfl (lv_at hl 1 rfl) ?_
  refine lv_iload_n hx hb dX6_copyNumbers_17 rfl (lv_at hl 0 rfl) ?_
  refine k_iald hx hb hK (hP1.2.2.2.2.2.2.2.1 v hv4) (by omega) (by decide) (v := y (8*v + 34)) (congrArg _ (show 8*v + 0 + 34 = 8*v + 34 by omega)) dX6_copyNumbers_18 ?_
  refine dp_astA hv4 hx hb hK hP0 (by omega) hS (fun _ h => h) dX6_copyNumbers_19 (fun H locs hP zH fH hS => ?_)
  rw [show 8*v + 0 + 34 = 8*v + 34 by omega] at hP
  have hk1 := dp_fr2 hP1 (fun q _ hq => fH q (bl_ne hq (by omega)))
  refine lv_iinc (v := nI 1) (lv' := [(2, .int (nI 1)), (0, .ref (g + 2*v + 12)), (1, .ref (d + 2*v + 12))]) hx hb dX6_copyNumbers_20 hl (k := 0) rfl (by decide) (by decide) rfl (fun ls hl => ?_)
  refine lv_goto (tgt := 2) hx hb dX6_copyNumbers_23 (by decide) ?_
  refine lv_iload_n hx hb dX6_copyNumbers_2 rfl (lv_at hl 0 rfl) ?_
  refine lv_aload_n hx hb dX6_copyNumbers_3 rfl (lv_at hl 1 rfl) ?_
  refine k_alen hx hb hK (t := 0) rfl (hk1.2.2.2.2.2.2.2.1 v hv4) dX6_copyNumbers_4 ?_
  refine k_top (y := nI 4) rfl ?_
  refine n_ige (tgt := 26) hx hb dX6_copyNumbers_5 (by decide) (by omega) (by omega) (fun h => absurd h (by decide)) (fun c5_1 => ?_)
  refine lv_iload_n hx hb dX6_copyNumbers_8 rfl (lv_at hl 0 rfl) ?_
  refine lv_aload_n hx hb dX6_copyNumbers_9 rfl (lv_at hl 2 rfl) ?_
  refine k_alen hx hb hK (t := 0) rfl (hP.2.2.2.2.2.2.2.1 v hv4) dX6_copyNumbers_10 ?_
  refine k_top (y := nI 4) rfl ?_
  refine n_ige (tgt := 26) hx hb dX6_copyNumbers_11 (by decide) (by omega) (by omega) (fun h => absurd h (by decide)) (fun c11_1 => ?_)
  refine lv_aload_n hx hb dX6_copyNumbers_14 rfl (lv_at hl 2 rfl) ?_
  refine lv_iload_n hx hb dX6_copyNumbers_15 rfl (lv_at hl 0 rfl) ?_
  refine lv_aload_n hx hb dX6_copyNumbers_16 rfl (lv_at hl 1 rfl) ?_
  refine lv_iload_n hx hb dX6_copyNumbers_17 rfl (lv_at hl 0 rfl) ?_
  refine k_iald hx hb hK (hk1.2.2.2.2.2.2.2.1 v hv4) (by omega) (by decide) (v := y (8*v + 35)) (congrArg _ (show 8*v + 1 + 34 = 8*v + 35 by omega)) dX6_copyNumbers_18 ?_
  refine dp_astA hv4 hx hb hK hP (by omega) hS (fun _ h => h) dX6_copyNumbers_19 (fun H locs hP zH fH hS => ?_)
  rw [show 8*v + 1 + 34 = 8*v + 35 by omega] at hP
  have hk1 := dp_fr2 hk1 (fun q _ hq => fH q (bl_ne hq (by omega)))
  refine lv_iinc (v := nI 2) (lv' := [(2, .int (nI 2)), (0, .ref (g + 2*v + 12)), (1, .ref (d + 2*v + 12))]) hx hb dX6_copyNumbers_20 hl (k := 0) rfl (by decide) (by decide) rfl (fun ls hl => ?_)
  refine lv_goto (tgt := 2) hx hb dX6_copyNumbers_23 (by decide) ?_
  refine lv_iload_n hx hb dX6_copyNumbers_2 rfl (lv_at hl 0 rfl) ?_
  refine lv_aload_n hx hb dX6_copyNumbers_3 rfl (lv_at hl 1 rfl) ?_
  refine k_alen hx hb hK (t := 0) rfl (hk1.2.2.2.2.2.2.2.1 v hv4) dX6_copyNumbers_4 ?_
  refine k_top (y := nI 4) rfl ?_
  refine n_ige (tgt := 26) hx hb dX6_copyNumbers_5 (by decide) (by omega) (by omega) (fun h => absurd h (by decide)) (fun c5_2 => ?_)
  refine lv_iload_n hx hb dX6_copyNumbers_8 rfl (lv_at hl 0 rfl) ?_
  refine lv_aload_n hx hb dX6_copyNumbers_9 rfl (lv_at hl 2 rfl) ?_
  refine k_alen hx hb hK (t := 0) rfl (hP.2.2.2.2.2.2.2.1 v hv4) dX6_copyNumbers_10 ?_
  refine k_top (y := nI 4) rfl ?_
  refine n_ige (tgt := 26) hx hb dX6_copyNumbers_11 (by decide) (by omega) (by omega) (fun h => absurd h (by decide)) (fun c11_2 => ?_)
  refine lv_aload_n hx hb dX6_copyNumbers_14 rfl (lv_at hl 2 rfl) ?_
  refine lv_iload_n hx hb dX6_copyNumbers_15 rfl (lv_at hl 0 rfl) ?_
  refine lv_aload_n hx hb dX6_copyNumbers_16 rfl (lv_at hl 1 rfl) ?_
  refine lv_iload_n hx hb dX6_copyNumbers_17 rfl (lv_at hl 0 rfl) ?_
  refine k_iald hx hb hK (hk1.2.2.2.2.2.2.2.1 v hv4) (by omega) (by decide) (v := y (8*v + 36)) (congrArg _ (show 8*v + 2 + 34 = 8*v + 36 by omega)) dX6_copyNumbers_18 ?_
  refine dp_astA hv4 hx hb hK hP (by omega) hS (fun _ h => h) dX6_copyNumbers_19 (fun H locs hP zH fH hS => ?_)
  rw [show 8*v + 2 + 34 = 8*v + 36 by omega] at hP
  have hk1 := dp_fr2 hk1 (fun q _ hq => fH q (bl_ne hq (by omega)))
  refine lv_iinc (v := nI 3) (lv' := [(2, .int (nI 3)), (0, .ref (g + 2*v + 12)), (1, .ref (d + 2*v + 12))]) hx hb dX6_copyNumbers_20 hl (k := 0) rfl (by decide) (by decide) rfl (fun ls hl => ?_)
  refine lv_goto (tgt := 2) hx hb dX6_copyNumbers_23 (by decide) ?_
  refine lv_iload_n hx hb dX6_copyNumbers_2 rfl (lv_at hl 0 rfl) ?_
  refine lv_aload_n hx hb dX6_copyNumbers_3 rfl (lv_at hl 1 rfl) ?_
  refine k_alen hx hb hK (t := 0) rfl (hk1.2.2.2.2.2.2.2.1 v hv4) dX6_copyNumbers_4 ?_
  refine k_top (y := nI 4) rfl ?_
  refine n_ige (tgt := 26) hx hb dX6_copyNumbers_5 (by decide) (by omega) (by omega) (fun h => absurd h (by decide)) (fun c5_3 => ?_)
  refine lv_iload_n hx hb dX6_copyNumbers_8 rfl (lv_at hl 0 rfl) ?_
  refine lv_aload_n hx hb dX6_copyNumbers_9 rfl (lv_at hl 2 rfl) ?_
  refine k_alen hx hb hK (t := 0) rfl (hP.2.2.2.2.2.2.2.1 v hv4) dX6_copyNumbers_10 ?_
  refine k_top (y := nI 4) rfl ?_
  refine n_ige (tgt := 26) hx hb dX6_copyNumbers_11 (by decide) (by omega) (by omega) (fun h => absurd h (by decide)) (fun c11_3 => ?_)
  refine lv_aload_n hx hb dX6_copyNumbers_14 rfl (lv_at hl 2 rfl) ?_
  refine lv_iload_n hx hb dX6_copyNumbers_15 rfl (lv_at hl 0 rfl) ?_
  refine lv_aload_n hx hb dX6_copyNumbers_16 rfl (lv_at hl 1 rfl) ?_
  refine lv_iload_n hx hb dX6_copyNumbers_17 rfl (lv_at hl 0 rfl) ?_
  refine k_iald hx hb hK (hk1.2.2.2.2.2.2.2.1 v hv4) (by omega) (by decide) (v := y (8*v + 37)) (congrArg _ (show 8*v + 3 + 34 = 8*v + 37 by omega)) dX6_copyNumbers_18 ?_
  refine dp_astA hv4 hx hb hK hP (by omega) hS (fun _ h => h) dX6_copyNumbers_19 (fun H locs hP zH fH hS => ?_)
  rw [show 8*v + 3 + 34 = 8*v + 37 by omega] at hP
  have hk1 := dp_fr2 hk1 (fun q _ hq => fH q (bl_ne hq (by omega)))
  refine lv_iinc (v := nI 4) (lv' := [(2, .int (nI 4)), (0, .ref (g + 2*v + 12)), (1, .ref (d + 2*v + 12))]) hx hb dX6_copyNumbers_20 hl (k := 0) rfl (by decide) (by decide) rfl (fun ls hl => ?_)
  refine lv_goto (tgt := 2) hx hb dX6_copyNumbers_23 (by decide) ?_
  refine lv_iload_n hx hb dX6_copyNumbers_2 rfl (lv_at hl 0 rfl) ?_
  refine lv_aload_n hx hb dX6_copyNumbers_3 rfl (lv_at hl 1 rfl) ?_
  refine k_alen hx hb hK (t := 0) rfl (hk1.2.2.2.2.2.2.2.1 v hv4) dX6_copyNumbers_4 ?_
  refine k_top (y := nI 4) rfl ?_
  refine n_ige (tgt := 26) hx hb dX6_copyNumbers_5 (by decide) (by omega) (by omega) (fun c5_4 => ?_) (fun h => absurd h (by decide))
  exact k_vretM hx hb hr hlk dX6_copyNumbers_26 hS hP
set_option maxHeartbeats 4000000 in
set_option maxRecDepth 100000 in
theorem c_X6_copyNumbers_s (l : Launch) (E : ke_E) (d : Nat) (x : Nat → Int32) (g : Nat) (y : Nat → Int32) (u : Nat) (hd : d + 59 ≤ g ∨ g + 59 ≤ d) (hu20 : u < 20) : Met l yX6_copyNumbers wsX6_copyNumbers rm_X6_copyNumbers (kp E [.ref (g + 2*u + 20), .ref (d + 2*u + 20)] (fun H => dp E d x H ∧ dp E g y H)) (qm none (bl d 59) (dp E d (upd (upd (upd (upd x (13*u + 64) (y (13*u + 64))) (13*u + 65) (y (13*u + 65))) (13*u + 66) (y (13*u + 66))) (13*u + 67) (y (13*u + 67))))) 0 0 (bl d 59) := by
  refine k_hd (cc := cX6_copyNumbers) (maxL := 3) (ret := none) (by decide) rfl (Nat.le_of_ble_eq_true rfl) ?_
  intro p e s m below meth c ls S hr hlk hnm hK hP hl
  have hx := S.1
  have hb := S.2.1
  have hts := S.2.2.2.2
  obtain ⟨hP0, hP1⟩ := hP
  have hl : lv_has ls 3 [(0, .ref (g + 2*u + 20)), (1, .ref (d + 2*u + 20))] := hl
  have hS : va_S (bl d 59) s.heap s.heap [] := va_S.rf
  refine lv_iconst (v := nI 0) hx hb dX6_copyNumbers_0 (by decide) ?_
  refine lv_istore_n (lv' := [(2, .int (nI 0)), (0, .ref (g + 2*u + 20)), (1, .ref (d + 2*u + 20))]) hx hb dX6_copyNumbers_1 rfl hl (by decide) rfl (fun ls hl => ?_)
  refine lv_iload_n hx hb dX6_copyNumbers_2 rfl (lv_at hl 0 rfl) ?_
  refine lv_aload_n hx hb dX6_copyNumbers_3 rfl (lv_at hl 1 rfl) ?_
  refine k_alen hx hb hK (t := 0) rfl (hP1.2.2.2.2.2.2.2.2.2 u hu20) dX6_copyNumbers_4 ?_
  refine k_top (y := nI 4) rfl ?_
  refine n_ige (tgt := 26) hx hb dX6_copyNumbers_5 (by decide) (by omega) (by omega) (fun h => absurd h (by decide)) (fun c5 => ?_)
  refine lv_iload_n hx hb dX6_copyNumbers_8 rfl (lv_at hl 0 rfl) ?_
  refine lv_aload_n hx hb dX6_copyNumbers_9 rfl (lv_at hl 2 rfl) ?_
  refine k_alen hx hb hK (t := 0) rfl (hP0.2.2.2.2.2.2.2.2.2 u hu20) dX6_copyNumbers_10 ?_
  refine k_top (y := nI 4) rfl ?_
  refine n_ige (tgt := 26) hx hb dX6_copyNumbers_11 (by decide) (by omega) (by omega) (fun h => absurd h (by decide)) (fun c11 => ?_)
  refine lv_aload_n hx hb dX6_copyNumbers_14 rfl (lv_at hl 2 rfl) ?_
  refine lv_iload_n hx hb dX6_copyNumbers_15 rfl (lv_at hl 0 rfl) ?_
  refine lv_aload_n hx hb dX6_copyNumbers_16 rfl (lv_at hl 1 rfl) ?_
  refine lv_iload_n hx hb dX6_copyNumbers_17 rfl (lv_at hl 0 rfl) ?_
  refine k_iald hx hb hK (hP1.2.2.2.2.2.2.2.2.2 u hu20) (by omega) (by decide) (v := y (13*u + 64)) (congrArg _ (show 13*u + 0 + 64 = 13*u + 64 by omega)) dX6_copyNumbers_18 ?_
  refine dp_astU hu20 hx hb hK hP0 (by omega) hS (fun _ h => h) dX6_copyNumbers_19 (fun H locs hP zH fH hS => ?_)
  rw [show 13*u + 0 + 64 = 13*u + 64 by omega] at hP
  have hk1 := dp_fr2 hP1 (fun q _ hq => fH q (bl_ne hq (by omega)))
  refine lv_iinc (v := nI 1) (lv' := [(2, .int (nI 1)), (0, .ref (g + 2*u + 20)), (1, .ref (d + 2*u + 20))]) hx hb dX6_copyNumbers_20 hl (k := 0) rfl (by decide) (by decide) rfl (fun ls hl => ?_)
  refine lv_goto (tgt := 2) hx hb dX6_copyNumbers_23 (by decide) ?_
  refine lv_iload_n hx hb dX6_copyNumbers_2 rfl (lv_at hl 0 rfl) ?_
  refine lv_aload_n hx hb dX6_copyNumbers_3 rfl (lv_at hl 1 rfl) ?_
  refine k_alen hx hb hK (t := 0) rfl (hk1.2.2.2.2.2.2.2.2.2 u hu20) dX6_copyNumbers_4 ?_
  refine k_top (y := nI 4) rfl ?_
  refine n_ige (tgt := 26) hx hb dX6_copyNumbers_5 (by decide) (by omega) (by omega) (fun h => absurd h (by decide)) (fun c5_1 => ?_)
  refine lv_iload_n hx hb dX6_copyNumbers_8 rfl (lv_at hl 0 rfl) ?_
  refine lv_aload_n hx hb dX6_copyNumbers_9 rfl (lv_at hl 2 rfl) ?_
  refine k_alen hx hb hK (t := 0) rfl (hP.2.2.2.2.2.2.2.2.2 u hu20) dX6_copyNumbers_10 ?_
  refine k_top (y := nI 4) rfl ?_
  refine n_ige (tgt := 26) hx hb dX6_copyNumbers_11 (by decide) (by omega) (by omega) (fun h => absurd h (by decide)) (fun c11_1 => ?_)
  refine lv_aload_n hx hb dX6_copyNumbers_14 rfl (lv_at hl 2 rfl) ?_
  refine lv_iload_n hx hb dX6_copyNumbers_15 rfl (lv_at hl 0 rfl) ?_
  refine lv_aload_n hx hb dX6_copyNumbers_16 rfl (lv_at hl 1 rfl) ?_
  refine lv_iload_n hx hb dX6_copyNumbers_17 rfl (lv_at hl 0 rfl) ?_
  refine k_iald hx hb hK (hk1.2.2.2.2.2.2.2.2.2 u hu20) (by omega) (by decide) (v := y (13*u + 65)) (congrArg _ (show 13*u + 1 + 64 = 13*u + 65 by omega)) dX6_copyNumbers_18 ?_
  refine dp_astU hu20 hx hb hK hP (by omega) hS (fun _ h => h) dX6_copyNumbers_19 (fun H locs hP zH fH hS => ?_)
  rw [show 13*u + 1 + 64 = 13*u + 65 by omega] at hP
  have hk1 := dp_fr2 hk1 (fun q _ hq => fH q (bl_ne hq (by omega)))
  refine lv_iinc (v := nI 2) (lv' := [(2, .int (nI 2)), (0, .ref (g + 2*u + 20)), (1, .ref (d + 2*u + 20))]) hx hb dX6_copyNumbers_20 hl (k := 0) rfl (by decide) (by decide) rfl (fun ls hl => ?_)
  refine lv_goto (tgt := 2) hx hb dX6_copyNumbers_23 (by decide) ?_
  refine lv_iload_n hx hb dX6_copyNumbers_2 rfl (lv_at hl 0 rfl) ?_
  refine lv_aload_n hx hb dX6_copyNumbers_3 rfl (lv_at hl 1 rfl) ?_
  refine k_alen hx hb hK (t := 0) rfl (hk1.2.2.2.2.2.2.2.2.2 u hu20) dX6_copyNumbers_4 ?_
  refine k_top (y := nI 4) rfl ?_
  refine n_ige (tgt := 26) hx hb dX6_copyNumbers_5 (by decide) (by omega) (by omega) (fun h => absurd h (by decide)) (fun c5_2 => ?_)
  refine lv_iload_n hx hb dX6_copyNumbers_8 rfl (lv_at hl 0 rfl) ?_
  refine lv_aload_n hx hb dX6_copyNumbers_9 rfl (lv_at hl 2 rfl) ?_
  refine k_alen hx hb hK (t := 0) rfl (hP.2.2.2.2.2.2.2.2.2 u hu20) dX6_copyNumbers_10 ?_
  refine k_top (y := nI 4) rfl ?_
  refine n_ige (tgt := 26) hx hb dX6_copyNumbers_11 (by decide) (by omega) (by omega) (fun h => absurd h (by decide)) (fun c11_2 => ?_)
  refine lv_aload_n hx hb dX6_copyNumbers_14 rfl (lv_at hl 2 rfl) ?_
  refine lv_iload_n hx hb dX6_copyNumbers_15 rfl (lv_at hl 0 rfl) ?_
  refine lv_aload_n hx hb dX6_copyNumbers_16 rfl (lv_at hl 1 rfl) ?_
  refine lv_iload_n hx hb dX6_copyNumbers_17 rfl (lv_at hl 0 rfl) ?_
  refine k_iald hx hb hK (hk1.2.2.2.2.2.2.2.2.2 u hu20) (by omega) (by decide) (v := y (13*u + 66)) (congrArg _ (show 13*u + 2 + 64 = 13*u + 66 by omega)) dX6_copyNumbers_18 ?_
  refine dp_astU hu20 hx hb hK hP (by omega) hS (fun _ h => h) dX6_copyNumbers_19 (fun H locs hP zH fH hS => ?_)
  rw [show 13*u + 2 + 64 = 13*u + 66 by omega] at hP
  have hk1 := dp_fr2 hk1 (fun q _ hq => fH q (bl_ne hq (by omega)))
  refine lv_iinc (v := nI 3) (lv' := [(2, .int (nI 3)), (0, .ref (g + 2*u + 20)), (1, .ref (d + 2*u + 20))]) hx hb dX6_copyNumbers_20 hl (k := 0) rfl (by decide) (by decide) rfl (fun ls hl => ?_)
  refine lv_goto (tgt := 2) hx hb dX6_copyNumbers_23 (by decide) ?_
  refine lv_iload_n hx hb dX6_copyNumbers_2 rfl (lv_at hl 0 rfl) ?_
  refine lv_aload_n hx hb dX6_copyNumbers_3 rfl (lv_at hl 1 rfl) ?_
  refine k_alen hx hb hK (t := 0) rfl (hk1.2.2.2.2.2.2.2.2.2 u hu20) dX6_copyNumbers_4 ?_
  refine k_top (y := nI 4) rfl ?_
  refine n_ige (tgt := 26) hx hb dX6_copyNumbers_5 (by decide) (by omega) (by omega) (fun h => absurd h (by decide)) (fun c5_3 => ?_)
  refine lv_iload_n hx hb dX6_copyNumbers_8 rfl (lv_at hl 0 rfl) ?_
  refine lv_aload_n hx hb dX6_copyNumbers_9 rfl (lv_at hl 2 rfl) ?_
  refine k_alen hx hb hK (t := 0) rfl (hP.2.2.2.2.2.2.2.2.2 u hu20) dX6_copyNumbers_10 ?_
  refine k_top (y := nI 4) rfl ?_
  refine n_ige (tgt := 26) hx hb dX6_copyNumbers_11 (by decide) (by omega) (by omega) (fun h => absurd h (by decide)) (fun c11_3 => ?_)
  refine lv_aload_n hx hb dX6_copyNumbers_14 rfl (lv_at hl 2 rfl) ?_
  refine lv_iload_n hx hb dX6_copyNumbers_15 rfl (lv_at hl 0 rfl) ?_
  refine lv_aload_n hx hb dX6_copyNumbers_16 rfl (lv_at hl 1 rfl) ?_
  refine lv_iload_n hx hb dX6_copyNumbers_17 rfl (lv_at hl 0 rfl) ?_
  refine k_iald hx hb hK (hk1.2.2.2.2.2.2.2.2.2 u hu20) (by omega) (by decide) (v := y (13*u + 67)) (congrArg _ (show 13*u + 3 + 64 = 13*u + 67 by omega)) dX6_copyNumbers_18 ?_
  refine dp_astU hu20 hx hb hK hP (by omega) hS (fun _ h => h) dX6_copyNumbers_19 (fun H locs hP zH fH hS => ?_)
  rw [show 13*u + 3 + 64 = 13*u + 67 by omega] at hP
  have hk1 := dp_fr2 hk1 (fun q _ hq => fH q (bl_ne hq (by omega)))
  refine lv_iinc (v := nI 4) (lv' := [(2, .int (nI 4)), (0, .ref (g + 2*u + 20)), (1, .ref (d + 2*u + 20))]) hx hb dX6_copyNumbers_20 hl (k := 0) rfl (by decide) (by decide) rfl (fun ls hl => ?_)
  refine lv_goto (tgt := 2) hx hb dX6_copyNumbers_23 (by decide) ?_
  refine lv_iload_n hx hb dX6_copyNumbers_2 rfl (lv_at hl 0 rfl) ?_
  refine lv_aload_n hx hb dX6_copyNumbers_3 rfl (lv_at hl 1 rfl) ?_
  refine k_alen hx hb hK (t := 0) rfl (hk1.2.2.2.2.2.2.2.2.2 u hu20) dX6_copyNumbers_4 ?_
  refine k_top (y := nI 4) rfl ?_
  refine n_ige (tgt := 26) hx hb dX6_copyNumbers_5 (by decide) (by omega) (by omega) (fun c5_4 => ?_) (fun h => absurd h (by decide))
  exact k_vretM hx hb hr hlk dX6_copyNumbers_26 hS hP
def rm_X3_copyFrom : Room := { frames := 0, cells := 0, slots := 0, locals := 0 }
theorem hd_X3_copyFrom : k_hd1 yX3_copyFrom RX3 1 := by decide +kernel
set_option maxHeartbeats 4000000 in
set_option maxRecDepth 100000 in
theorem c_X3_copyFrom (l : Launch) (E : ke_E) (d : Nat) (x : Nat → Int32) (g : Nat) (y : Nat → Int32) (i : Nat) (hd : d + 59 ≤ g ∨ g + 59 ≤ d) (hi : i < 6) (hz : rg (y (3*i + 14)) 0 1) : Met l yX3_copyFrom wsX3_copyFrom rm_X3_copyFrom (kp E [.ref (d + i + 5), .ref (g + i + 5)] (fun H => dp E d x H ∧ dp E g y H)) (qm none (bl d 59) (dp E d (cp3 y i x))) 0 0 (bl d 59) := by
  refine k_hd (cc := cX3_copyFrom) (maxL := 2) (ret := none) (by decide) rfl (Nat.le_of_ble_eq_true rfl) ?_
  intro p e s m below meth c ls S hr hlk hnm hK hP hl
  have hx := S.1
  have hb := S.2.1
  have hts := S.2.2.2.2
  obtain ⟨hP0, hP1⟩ := hP
  have hl : lv_has ls 2 [(0, .ref (d + i + 5)), (1, .ref (g + i + 5))] := hl
  have hS : va_S (bl d 59) s.heap s.heap [] := va_S.rf
  refine lv_aload_n hx hb dX3_copyFrom_0 rfl (lv_at hl 0 rfl) ?_
  refine lv_aload_n hx hb dX3_copyFrom_1 rfl (lv_at hl 1 rfl) ?_
  refine k_get S hK (hP1.2.2.2.2.2.1 i hi) rfl (fun _ h => List.mem_cons_of_mem _ (List.mem_append_right _ (h))) 0 (by decide) (List.mem_cons_of_mem _ (List.mem_append_left _ (List.mem_of_getElem? (i := 0) rfl))) rfl (v := .int (y (3*i + 12))) rfl dX3_copyFrom_2 ?_
  refine dp_putP hi S hK hP0 (fun _ h => List.mem_cons_of_mem _ (List.mem_append_right _ (h))) 0 (by decide) (List.mem_cons_of_mem _ (List.mem_append_left _ (List.mem_of_getElem? (i := 0) rfl))) rfl rfl rfl rfl (j := 12) (by simp [pr_F, upd]) (by decide) hS (fun _ h => h) dX3_copyFrom_5 (fun H locs hP zH fH hS => ?_)
  have hk1 := dp_fr2 hP1 (fun q _ hq => fH q (bl_ne hq (by omega)))
  refine lv_aload_n hx hb dX3_copyFrom_8 rfl (lv_at hl 0 rfl) ?_
  refine lv_aload_n hx hb dX3_copyFrom_9 rfl (lv_at hl 1 rfl) ?_
  refine k_get S hK (hk1.2.2.2.2.2.1 i hi) rfl (fun _ h => List.mem_cons_of_mem _ (List.mem_append_right _ (h))) 1 (by decide) (List.mem_cons_of_mem _ (List.mem_append_left _ (List.mem_of_getElem? (i := 1) rfl))) rfl (v := .int (y (3*i + 13))) rfl dX3_copyFrom_10 ?_
  refine dp_putP hi S hK hP (fun _ h => List.mem_cons_of_mem _ (List.mem_append_right _ (h))) 1 (by decide) (List.mem_cons_of_mem _ (List.mem_append_left _ (List.mem_of_getElem? (i := 1) rfl))) rfl rfl rfl rfl (j := 13) (by simp [pr_F, upd]) (by decide) hS (fun _ h => h) dX3_copyFrom_13 (fun H locs hP zH fH hS => ?_)
  have hk1 := dp_fr2 hk1 (fun q _ hq => fH q (bl_ne hq (by omega)))
  refine lv_aload_n hx hb dX3_copyFrom_16 rfl (lv_at hl 0 rfl) ?_
  refine lv_aload_n hx hb dX3_copyFrom_17 rfl (lv_at hl 1 rfl) ?_
  refine k_get S hK (hk1.2.2.2.2.2.1 i hi) rfl (fun _ h => List.mem_cons_of_mem _ (List.mem_append_right _ (h))) 2 (by decide) (List.mem_cons_of_mem _ (List.mem_append_left _ (List.mem_of_getElem? (i := 2) rfl))) rfl (v := .int (y (3*i + 14))) rfl dX3_copyFrom_18 ?_
  refine dp_putP hi S hK hP (fun _ h => List.mem_cons_of_mem _ (List.mem_append_right _ (h))) 2 (by decide) (List.mem_cons_of_mem _ (List.mem_append_left _ (List.mem_of_getElem? (i := 2) rfl))) rfl rfl (zb_nar hz) (zb_fit hz) (j := 14) (by simp [pr_F, upd]) (by decide) hS (fun _ h => h) dX3_copyFrom_21 (fun H locs hP zH fH hS => ?_)
  have hk1 := dp_fr2 hk1 (fun q _ hq => fH q (bl_ne hq (by omega)))
  exact k_vretM hx hb hr hlk dX3_copyFrom_24 hS (show dp E d (cp3 y i x) _ from hP)
def rm_X5_copyFrom : Room := { frames := 1, cells := 0, slots := 0, locals := 22 }
theorem hd_X5_copyFrom : k_hd1 yX5_copyFrom RX5 1 := by decide +kernel
set_option maxHeartbeats 4000000 in
set_option maxRecDepth 100000 in
theorem c_X5_copyFrom (l : Launch) (E : ke_E) (d : Nat) (x : Nat → Int32) (g : Nat) (y : Nat → Int32) (v : Nat) (hd : d + 59 ≤ g ∨ g + 59 ≤ d) (hv4 : v < 4) : Met l yX5_copyFrom wsX5_copyFrom rm_X5_copyFrom (kp E [.ref (d + 2*v + 11), .ref (g + 2*v + 11)] (fun H => dp E d x H ∧ dp E g y H)) (qm none (bl d 59) (dp E d (cp8 y v x))) 0 0 (bl d 59) := by
  refine k_hd (cc := cX5_copyFrom) (maxL := 2) (ret := none) (by decide) rfl (Nat.le_of_ble_eq_true rfl) ?_
  intro p e s m below meth c ls S hr hlk hnm hK hP hl
  have hx := S.1
  have hb := S.2.1
  have hts := S.2.2.2.2
  obtain ⟨hP0, hP1⟩ := hP
  have hl : lv_has ls 2 [(0, .ref (d + 2*v + 11)), (1, .ref (g + 2*v + 11))] := hl
  have hS : va_S (bl d 59) s.heap s.heap [] := va_S.rf
  refine lv_aload_n hx hb dX5_copyFrom_0 rfl (lv_at hl 1 rfl) ?_
  refine k_get S hK (hP1.2.2.2.2.2.2.1 v hv4) rfl (fun _ h => List.mem_cons_of_mem _ (List.mem_append_right _ (h))) 0 (by decide) (List.mem_cons_of_mem _ (List.mem_append_left _ (List.mem_of_getElem? (i := 0) rfl))) rfl (v := .ref (g + 2*v + 12)) rfl dX5_copyFrom_1 ?_
  refine lv_aload_n hx hb dX5_copyFrom_4 rfl (lv_at hl 0 rfl) ?_
  refine k_get S hK (hP0.2.2.2.2.2.2.1 v hv4) rfl (fun _ h => List.mem_cons_of_mem _ (List.mem_append_right _ (h))) 0 (by decide) (List.mem_cons_of_mem _ (List.mem_append_left _ (List.mem_of_getElem? (i := 0) rfl))) rfl (v := .ref (d + 2*v + 12)) rfl dX5_copyFrom_5 ?_
  refine k_SNM (q := (RX5, 23, yX6_copyNumbers, RX6)) (As := [.ref (g + 2*v + 12), .ref (d + 2*v + 12)]) (rest := []) S hK (List.mem_of_getElem? (i := 10) rfl) (c_X6_copyNumbers_a l E d x g y v hd hv4) ggX5_copyFrom_X6_copyNumbers rfl hd_X6_copyNumbers (List.mem_cons_of_mem _ (List.mem_append_left _ (List.mem_of_getElem? (i := 5) rfl))) (List.mem_cons_of_mem _ (List.mem_append_left _ (List.mem_of_getElem? (i := 6) rfl))) ⟨rfl, rfl⟩ ⟨Nat.le_of_ble_eq_true rfl, Nat.le_of_ble_eq_true rfl⟩ ⟨hP0, hP1⟩ rfl hl.1 rfl (Nat.le_of_ble_eq_true rfl) dX5_copyFrom_8 ⟨Nat.le_of_ble_eq_true rfl, Nat.le_of_ble_eq_true rfl⟩ hS (fun q h => h) (fun q h => h) (fun H locs hQ zH fH hS => ?_)
  have hP := hQ
  have hk1 := dp_fr2 hP1 (fun q hz hq => fH q hz (bl_ne hq (by omega)))
  refine lv_aload_n hx hb dX5_copyFrom_11 rfl (lv_at hl 0 rfl) ?_
  refine lv_aload_n hx hb dX5_copyFrom_12 rfl (lv_at hl 1 rfl) ?_
  refine k_get S hK (hk1.2.2.2.2.2.2.1 v hv4) rfl (fun _ h => List.mem_cons_of_mem _ (List.mem_append_right _ (h))) 1 (by decide) (List.mem_cons_of_mem _ (List.mem_append_left _ (List.mem_of_getElem? (i := 1) rfl))) rfl (v := .int (y (8*v + 30))) rfl dX5_copyFrom_13 ?_
  refine dp_putV hv4 S hK hP (fun _ h => List.mem_cons_of_mem _ (List.mem_append_right _ (h))) 1 (by decide) (List.mem_cons_of_mem _ (List.mem_append_left _ (List.mem_of_getElem? (i := 1) rfl))) rfl rfl rfl rfl (j := 30) (by simp [ve_F, upd]) (by decide) hS (fun _ h => h) dX5_copyFrom_16 (fun H locs hP zH fH hS => ?_)
  have hk1 := dp_fr2 hk1 (fun q _ hq => fH q (bl_ne hq (by omega)))
  refine lv_aload_n hx hb dX5_copyFrom_19 rfl (lv_at hl 0 rfl) ?_
  refine lv_aload_n hx hb dX5_copyFrom_20 rfl (lv_at hl 1 rfl) ?_
  refine k_get S hK (hk1.2.2.2.2.2.2.1 v hv4) rfl (fun _ h => List.mem_cons_of_mem _ (List.mem_append_right _ (h))) 2 (by decide) (List.mem_cons_of_mem _ (List.mem_append_left _ (List.mem_of_getElem? (i := 2) rfl))) rfl (v := .int (y (8*v + 31))) rfl dX5_copyFrom_21 ?_
  refine dp_putV hv4 S hK hP (fun _ h => List.mem_cons_of_mem _ (List.mem_append_right _ (h))) 2 (by decide) (List.mem_cons_of_mem _ (List.mem_append_left _ (List.mem_of_getElem? (i := 2) rfl))) rfl rfl rfl rfl (j := 31) (by simp [ve_F, upd]) (by decide) hS (fun _ h => h) dX5_copyFrom_24 (fun H locs hP zH fH hS => ?_)
  have hk1 := dp_fr2 hk1 (fun q _ hq => fH q (bl_ne hq (by omega)))
  refine lv_aload_n hx hb dX5_copyFrom_27 rfl (lv_at hl 0 rfl) ?_
  refine lv_aload_n hx hb dX5_copyFrom_28 rfl (lv_at hl 1 rfl) ?_
  refine k_get S hK (hk1.2.2.2.2.2.2.1 v hv4) rfl (fun _ h => List.mem_cons_of_mem _ (List.mem_append_right _ (h))) 3 (by decide) (List.mem_cons_of_mem _ (List.mem_append_left _ (List.mem_of_getElem? (i := 3) rfl))) rfl (v := .int (y (8*v + 32))) rfl dX5_copyFrom_29 ?_
  refine dp_putV hv4 S hK hP (fun _ h => List.mem_cons_of_mem _ (List.mem_append_right _ (h))) 3 (by decide) (List.mem_cons_of_mem _ (List.mem_append_left _ (List.mem_of_getElem? (i := 3) rfl))) rfl rfl rfl rfl (j := 32) (by simp [ve_F, upd]) (by decide) hS (fun _ h => h) dX5_copyFrom_32 (fun H locs hP zH fH hS => ?_)
  have hk1 := dp_fr2 hk1 (fun q _ hq => fH q (bl_ne hq (by omega)))
  refine lv_aload_n hx hb dX5_copyFrom_35 rfl (lv_at hl 0 rfl) ?_
  refine lv_aload_n hx hb dX5_copyFrom_36 rfl (lv_at hl 1 rfl) ?_
  refine k_get S hK (hk1.2.2.2.2.2.2.1 v hv4) rfl (fun _ h => List.mem_cons_of_mem _ (List.mem_append_right _ (h))) 4 (by decide) (List.mem_cons_of_mem _ (List.mem_append_left _ (List.mem_of_getElem? (i := 4) rfl))) rfl (v := .int (y (8*v + 33))) rfl dX5_copyFrom_37 ?_
  refine dp_putV hv4 S hK hP (fun _ h => List.mem_cons_of_mem _ (List.mem_append_right _ (h))) 4 (by decide) (List.mem_cons_of_mem _ (List.mem_append_left _ (List.mem_of_getElem? (i := 4) rfl))) rfl rfl rfl rfl (j := 33) (by simp [ve_F, upd]) (by decide) hS (fun _ h => h) dX5_copyFrom_40 (fun H locs hP zH fH hS => ?_)
  have hk1 := dp_fr2 hk1 (fun q _ hq => fH q (bl_ne hq (by omega)))
  exact k_vretM hx hb hr hlk dX5_copyFrom_43 hS (show dp E d (cp8 y v x) _ from hP)
def rm_X4_copyFrom : Room := { frames := 1, cells := 0, slots := 0, locals := 22 }
theorem hd_X4_copyFrom : k_hd1 yX4_copyFrom RX4 1 := by decide +kernel
set_option maxHeartbeats 4000000 in
set_option maxRecDepth 100000 in
theorem c_X4_copyFrom (l : Launch) (E : ke_E) (d : Nat) (x : Nat → Int32) (g : Nat) (y : Nat → Int32) (u : Nat) (hd : d + 59 ≤ g ∨ g + 59 ≤ d) (hu20 : u < 20) (hz : rg (y (13*u + 72)) 0 1) : Met l yX4_copyFrom wsX4_copyFrom rm_X4_copyFrom (kp E [.ref (d + 2*u + 19), .ref (g + 2*u + 19)] (fun H => dp E d x H ∧ dp E g y H)) (qm none (bl d 59) (dp E d (cp13 y u x))) 0 0 (bl d 59) := by
  refine k_hd (cc := cX4_copyFrom) (maxL := 2) (ret := none) (by decide) rfl (Nat.le_of_ble_eq_true rfl) ?_
  intro p e s m below meth c ls S hr hlk hnm hK hP hl
  have hx := S.1
  have hb := S.2.1
  have hts := S.2.2.2.2
  obtain ⟨hP0, hP1⟩ := hP
  have hl : lv_has ls 2 [(0, .ref (d + 2*u + 19)), (1, .ref (g + 2*u + 19))] := hl
  have hS : va_S (bl d 59) s.heap s.heap [] := va_S.rf
  refine lv_aload_n hx hb dX4_copyFrom_0 rfl (lv_at hl 1 rfl) ?_
  refine k_get S hK (hP1.2.2.2.2.2.2.2.2.1 u hu20) rfl (fun _ h => List.mem_cons_of_mem _ (List.mem_append_right _ (h))) 0 (by decide) (List.mem_cons_of_mem _ (List.mem_append_left _ (List.mem_of_getElem? (i := 0) rfl))) rfl (v := .ref (g + 2*u + 20)) rfl dX4_copyFrom_1 ?_
  refine lv_aload_n hx hb dX4_copyFrom_4 rfl (lv_at hl 0 rfl) ?_
  refine k_get S hK (hP0.2.2.2.2.2.2.2.2.1 u hu20) rfl (fun _ h => List.mem_cons_of_mem _ (List.mem_append_right _ (h))) 0 (by decide) (List.mem_cons_of_mem _ (List.mem_append_left _ (List.mem_of_getElem? (i := 0) rfl))) rfl (v := .ref (d + 2*u + 20)) rfl dX4_copyFrom_5 ?_
  refine k_SNM (q := (RX4, 61, yX6_copyNumbers, RX6)) (As := [.ref (g + 2*u + 20), .ref (d + 2*u + 20)]) (rest := []) S hK (List.mem_of_getElem? (i := 9) rfl) (c_X6_copyNumbers_s l E d x g y u hd hu20) ggX4_copyFrom_X6_copyNumbers rfl hd_X6_copyNumbers (List.mem_cons_of_mem _ (List.mem_append_left _ (List.mem_of_getElem? (i := 10) rfl))) (List.mem_cons_of_mem _ (List.mem_append_left _ (List.mem_of_getElem? (i := 11) rfl))) ⟨rfl, rfl⟩ ⟨Nat.le_of_ble_eq_true rfl, Nat.le_of_ble_eq_true rfl⟩ ⟨hP0, hP1⟩ rfl hl.1 rfl (Nat.le_of_ble_eq_true rfl) dX4_copyFrom_8 ⟨Nat.le_of_ble_eq_true rfl, Nat.le_of_ble_eq_true rfl⟩ hS (fun q h => h) (fun q h => h) (fun H locs hQ zH fH hS => ?_)
  have hP := hQ
  have hk1 := dp_fr2 hP1 (fun q hz hq => fH q hz (bl_ne hq (by omega)))
  refine lv_aload_n hx hb dX4_copyFrom_11 rfl (lv_at hl 0 rfl) ?_
  refine lv_aload_n hx hb dX4_copyFrom_12 rfl (lv_at hl 1 rfl) ?_
  refine k_get S hK (hk1.2.2.2.2.2.2.2.2.1 u hu20) rfl (fun _ h => List.mem_cons_of_mem _ (List.mem_append_right _ (h))) 1 (by decide) (List.mem_cons_of_mem _ (List.mem_append_left _ (List.mem_of_getElem? (i := 1) rfl))) rfl (v := .int (y (13*u + 62))) rfl dX4_copyFrom_13 ?_
  refine dp_putU hu20 S hK hP (fun _ h => List.mem_cons_of_mem _ (List.mem_append_right _ (h))) 1 (by decide) (List.mem_cons_of_mem _ (List.mem_append_left _ (List.mem_of_getElem? (i := 1) rfl))) rfl rfl rfl rfl (j := 62) (by simp [un_F, upd]) (by decide) hS (fun _ h => h) dX4_copyFrom_16 (fun H locs hP zH fH hS => ?_)
  have hk1 := dp_fr2 hk1 (fun q _ hq => fH q (bl_ne hq (by omega)))
  refine lv_aload_n hx hb dX4_copyFrom_19 rfl (lv_at hl 0 rfl) ?_
  refine lv_aload_n hx hb dX4_copyFrom_20 rfl (lv_at hl 1 rfl) ?_
  refine k_get S hK (hk1.2.2.2.2.2.2.2.2.1 u hu20) rfl (fun _ h => List.mem_cons_of_mem _ (List.mem_append_right _ (h))) 2 (by decide) (List.mem_cons_of_mem _ (List.mem_append_left _ (List.mem_of_getElem? (i := 2) rfl))) rfl (v := .int (y (13*u + 63))) rfl dX4_copyFrom_21 ?_
  refine dp_putU hu20 S hK hP (fun _ h => List.mem_cons_of_mem _ (List.mem_append_right _ (h))) 2 (by decide) (List.mem_cons_of_mem _ (List.mem_append_left _ (List.mem_of_getElem? (i := 2) rfl))) rfl rfl rfl rfl (j := 63) (by simp [un_F, upd]) (by decide) hS (fun _ h => h) dX4_copyFrom_24 (fun H locs hP zH fH hS => ?_)
  have hk1 := dp_fr2 hk1 (fun q _ hq => fH q (bl_ne hq (by omega)))
  refine lv_aload_n hx hb dX4_copyFrom_27 rfl (lv_at hl 0 rfl) ?_
  refine lv_aload_n hx hb dX4_copyFrom_28 rfl (lv_at hl 1 rfl) ?_
  refine k_get S hK (hk1.2.2.2.2.2.2.2.2.1 u hu20) rfl (fun _ h => List.mem_cons_of_mem _ (List.mem_append_right _ (h))) 3 (by decide) (List.mem_cons_of_mem _ (List.mem_append_left _ (List.mem_of_getElem? (i := 3) rfl))) rfl (v := .int (y (13*u + 68))) rfl dX4_copyFrom_29 ?_
  refine dp_putU hu20 S hK hP (fun _ h => List.mem_cons_of_mem _ (List.mem_append_right _ (h))) 3 (by decide) (List.mem_cons_of_mem _ (List.mem_append_left _ (List.mem_of_getElem? (i := 3) rfl))) rfl rfl rfl rfl (j := 68) (by simp [un_F, upd]) (by decide) hS (fun _ h => h) dX4_copyFrom_32 (fun H locs hP zH fH hS => ?_)
  have hk1 := dp_fr2 hk1 (fun q _ hq => fH q (bl_ne hq (by omega)))
  refine lv_aload_n hx hb dX4_copyFrom_35 rfl (lv_at hl 0 rfl) ?_
  refine lv_aload_n hx hb dX4_copyFrom_36 rfl (lv_at hl 1 rfl) ?_
  refine k_get S hK (hk1.2.2.2.2.2.2.2.2.1 u hu20) rfl (fun _ h => List.mem_cons_of_mem _ (List.mem_append_right _ (h))) 4 (by decide) (List.mem_cons_of_mem _ (List.mem_append_left _ (List.mem_of_getElem? (i := 4) rfl))) rfl (v := .int (y (13*u + 69))) rfl dX4_copyFrom_37 ?_
  refine dp_putU hu20 S hK hP (fun _ h => List.mem_cons_of_mem _ (List.mem_append_right _ (h))) 4 (by decide) (List.mem_cons_of_mem _ (List.mem_append_left _ (List.mem_of_getElem? (i := 4) rfl))) rfl rfl rfl rfl (j := 69) (by simp [un_F, upd]) (by decide) hS (fun _ h => h) dX4_copyFrom_40 (fun H locs hP zH fH hS => ?_)
  have hk1 := dp_fr2 hk1 (fun q _ hq => fH q (bl_ne hq (by omega)))
  refine lv_aload_n hx hb dX4_copyFrom_43 rfl (lv_at hl 0 rfl) ?_
  refine lv_aload_n hx hb dX4_copyFrom_44 rfl (lv_at hl 1 rfl) ?_
  refine k_get S hK (hk1.2.2.2.2.2.2.2.2.1 u hu20) rfl (fun _ h => List.mem_cons_of_mem _ (List.mem_append_right _ (h))) 5 (by decide) (List.mem_cons_of_mem _ (List.mem_append_left _ (List.mem_of_getElem? (i := 5) rfl))) rfl (v := .int (y (13*u + 70))) rfl dX4_copyFrom_45 ?_
  refine dp_putU hu20 S hK hP (fun _ h => List.mem_cons_of_mem _ (List.mem_append_right _ (h))) 5 (by decide) (List.mem_cons_of_mem _ (List.mem_append_left _ (List.mem_of_getElem? (i := 5) rfl))) rfl rfl rfl rfl (j := 70) (by simp [un_F, upd]) (by decide) hS (fun _ h => h) dX4_copyFrom_48 (fun H locs hP zH fH hS => ?_)
  have hk1 := dp_fr2 hk1 (fun q _ hq => fH q (bl_ne hq (by omega)))
  refine lv_aload_n hx hb dX4_copyFrom_51 rfl (lv_at hl 0 rfl) ?_
  refine lv_aload_n hx hb dX4_copyFrom_52 rfl (lv_at hl 1 rfl) ?_
  refine k_get S hK (hk1.2.2.2.2.2.2.2.2.1 u hu20) rfl (fun _ h => List.mem_cons_of_mem _ (List.mem_append_right _ (h))) 6 (by decide) (List.mem_cons_of_mem _ (List.mem_append_left _ (List.mem_of_getElem? (i := 6) rfl))) rfl (v := .int (y (13*u + 71))) rfl dX4_copyFrom_53 ?_
  refine dp_putU hu20 S hK hP (fun _ h => List.mem_cons_of_mem _ (List.mem_append_right _ (h))) 6 (by decide) (List.mem_cons_of_mem _ (List.mem_append_left _ (List.mem_of_getElem? (i := 6) rfl))) rfl rfl rfl rfl (j := 71) (by simp [un_F, upd]) (by decide) hS (fun _ h => h) dX4_copyFrom_56 (fun H locs hP zH fH hS => ?_)
  have hk1 := dp_fr2 hk1 (fun q _ hq => fH q (bl_ne hq (by omega)))
  refine lv_aload_n hx hb dX4_copyFrom_59 rfl (lv_at hl 0 rfl) ?_
  refine lv_aload_n hx hb dX4_copyFrom_60 rfl (lv_at hl 1 rfl) ?_
  refine k_get S hK (hk1.2.2.2.2.2.2.2.2.1 u hu20) rfl (fun _ h => List.mem_cons_of_mem _ (List.mem_append_right _ (h))) 7 (by decide) (List.mem_cons_of_mem _ (List.mem_append_left _ (List.mem_of_getElem? (i := 7) rfl))) rfl (v := .int (y (13*u + 72))) rfl dX4_copyFrom_61 ?_
  refine dp_putU hu20 S hK hP (fun _ h => List.mem_cons_of_mem _ (List.mem_append_right _ (h))) 7 (by decide) (List.mem_cons_of_mem _ (List.mem_append_left _ (List.mem_of_getElem? (i := 7) rfl))) rfl rfl (zb_nar hz) (zb_fit hz) (j := 72) (by simp [un_F, upd]) (by decide) hS (fun _ h => h) dX4_copyFrom_64 (fun H locs hP zH fH hS => ?_)
  have hk1 := dp_fr2 hk1 (fun q _ hq => fH q (bl_ne hq (by omega)))
  refine lv_aload_n hx hb dX4_copyFrom_67 rfl (lv_at hl 0 rfl) ?_
  refine lv_aload_n hx hb dX4_copyFrom_68 rfl (lv_at hl 1 rfl) ?_
  refine k_get S hK (hk1.2.2.2.2.2.2.2.2.1 u hu20) rfl (fun _ h => List.mem_cons_of_mem _ (List.mem_append_right _ (h))) 8 (by decide) (List.mem_cons_of_mem _ (List.mem_append_left _ (List.mem_of_getElem? (i := 8) rfl))) rfl (v := .int (y (13*u + 73))) rfl dX4_copyFrom_69 ?_
  refine dp_putU hu20 S hK hP (fun _ h => List.mem_cons_of_mem _ (List.mem_append_right _ (h))) 8 (by decide) (List.mem_cons_of_mem _ (List.mem_append_left _ (List.mem_of_getElem? (i := 8) rfl))) rfl rfl rfl rfl (j := 73) (by simp [un_F, upd]) (by decide) hS (fun _ h => h) dX4_copyFrom_72 (fun H locs hP zH fH hS => ?_)
  have hk1 := dp_fr2 hk1 (fun q _ hq => fH q (bl_ne hq (by omega)))
  refine lv_aload_n hx hb dX4_copyFrom_75 rfl (lv_at hl 0 rfl) ?_
  refine lv_aload_n hx hb dX4_copyFrom_76 rfl (lv_at hl 1 rfl) ?_
  refine k_get S hK (hk1.2.2.2.2.2.2.2.2.1 u hu20) rfl (fun _ h => List.mem_cons_of_mem _ (List.mem_append_right _ (h))) 9 (by decide) (List.mem_cons_of_mem _ (List.mem_append_left _ (List.mem_of_getElem? (i := 9) rfl))) rfl (v := .int (y (13*u + 74))) rfl dX4_copyFrom_77 ?_
  refine dp_putU hu20 S hK hP (fun _ h => List.mem_cons_of_mem _ (List.mem_append_right _ (h))) 9 (by decide) (List.mem_cons_of_mem _ (List.mem_append_left _ (List.mem_of_getElem? (i := 9) rfl))) rfl rfl rfl rfl (j := 74) (by simp [un_F, upd]) (by decide) hS (fun _ h => h) dX4_copyFrom_80 (fun H locs hP zH fH hS => ?_)
  have hk1 := dp_fr2 hk1 (fun q _ hq => fH q (bl_ne hq (by omega)))
  exact k_vretM hx hb hr hlk dX4_copyFrom_83 hS (show dp E d (cp13 y u x) _ from hP)
def rm_X1_copyFrom : Room := { frames := 2, cells := 0, slots := 0, locals := 43 }
theorem hd_X1_copyFrom : k_hd1 yX1_copyFrom RX1 1 := by decide +kernel
set_option maxHeartbeats 4000000 in
set_option maxRecDepth 100000 in
theorem c_X1_copyFrom_D (l : Launch) (E : ke_E) (d : Nat) (x : Nat → Int32) (g : Nat) (y : Nat → Int32) (hd : d + 59 ≤ g ∨ g + 59 ≤ d) (hI : iv y) : Met l yX1_copyFrom wsX1_copyFrom rm_X1_copyFrom (kp E [.ref d, .ref g] (fun H => dp E d x H ∧ dp E g y H)) (qm none (bl d 59) (dp E d (cpF x y))) 0 0 (bl d 59) := by
  refine k_hd (cc := cX1_copyFrom) (maxL := 3) (ret := none) (by decide) rfl (Nat.le_of_ble_eq_true rfl) ?_
  intro p e s m below meth c ls S hr hlk hnm hK hP hl
  have hx := S.1
  have hb := S.2.1
  have hts := S.2.2.2.2
  obtain ⟨hP0, hP1⟩ := hP
  have hl : lv_has ls 3 [(0, .ref d), (1, .ref g)] := hl
  have hS : va_S (bl d 59) s.heap s.heap [] := va_S.rf
  have hc20 := iv_c hI
  have J92 : ∀ (n_ : Nat), ∀ (k : Nat), k ≤ cn y → cn y < k + n_ → ∀ (H : Heap) (locs : List Loc), dp E d (cpU (upd (cpR x y 62) 0 (y 0)) y k) H → dp E g y H → va_S (bl d 59) s.heap H locs → ∀ (ls : Array Slot), lv_has ls 3 [(0, .ref d), (1, .ref g), (2, .int (nI k))] → W p l e (headSpec wsX1_copyFrom rm_X1_copyFrom).room s m ([.ref d, .ref g] : List Value).toArray below meth c H locs 0 0 (MQ below (qm none (bl d 59) (dp E d (cpF x y))) ([.ref d, .ref g] : List Value).toArray s 0 0 (bl d 59)) (F0 m 92 ls []) := by
    intro n_
    induction n_ with
    | zero =>
      intro k hk hn_ _ _ _ _ _ _ _
      exact absurd hn_ (by omega)
    | succ n_ ih =>
      intro k hk hn_ H locs hW0 hW1 hS ls hl
      refine lv_iload_n hx hb dX1_copyFrom_92 rfl (lv_at hl 2 rfl) ?_
      refine lv_aload_n hx hb dX1_copyFrom_93 rfl (lv_at hl 0 rfl) ?_
      refine k_get S hK hW0.1 rfl (fun _ h => List.mem_cons_of_mem _ (List.mem_append_left _ (List.mem_append_left _ (List.mem_append_left _ (List.mem_append_right _ (h)))))) 4 (by decide) (List.mem_cons_of_mem _ (List.mem_append_left _ (List.mem_append_left _ (List.mem_append_left _ (List.mem_append_left _ (List.mem_append_left _ (List.mem_of_getElem? (i := 2) rfl))))))) rfl (v := .int (nI (cn y))) (congrArg (fun x => some (Value.int x)) ((cpU_00 hI))) dX1_copyFrom_94 ?_
      refine n_ige (tgt := 139) hx hb dX1_copyFrom_97 (by decide) (by omega) (by omega) (fun c97 => ?_) (fun c97 => ?_)
      · refine lv_aload_n hx hb dX1_copyFrom_139 rfl (lv_at hl 1 rfl) ?_
        refine k_get S hK hW1.1 rfl (fun _ h => List.mem_cons_of_mem _ (List.mem_append_left _ (List.mem_append_left _ (List.mem_append_left _ (List.mem_append_right _ (h)))))) 3 (by decide) (List.mem_cons_of_mem _ (List.mem_append_left _ (List.mem_append_left _ (List.mem_append_left _ (List.mem_append_left _ (List.mem_append_left _ (List.mem_of_getElem? (i := 4) rfl))))))) rfl (v := .ref (g + 4)) rfl dX1_copyFrom_140 ?_
        refine lv_aload_n hx hb dX1_copyFrom_143 rfl (lv_at hl 0 rfl) ?_
        refine k_get S hK hW0.1 rfl (fun _ h => List.mem_cons_of_mem _ (List.mem_append_left _ (List.mem_append_left _ (List.mem_append_left _ (List.mem_append_right _ (h)))))) 3 (by decide) (List.mem_cons_of_mem _ (List.mem_append_left _ (List.mem_append_left _ (List.mem_append_left _ (List.mem_append_left _ (List.mem_append_left _ (List.mem_of_getElem? (i := 4) rfl))))))) rfl (v := .ref (d + 4)) rfl dX1_copyFrom_144 ?_
        refine k_SNM (q := (RX1, 50, yX6_copyNumbers, RX6)) (As := [.ref (g + 4), .ref (d + 4)]) (rest := []) S hK (List.mem_of_getElem? (i := 5) rfl) (c_X6_copyNumbers_5 l E d (cpU (upd (cpR x y 62) 0 (y 0)) y k) g y hd) ggX1_copyFrom_X6_copyNumbers rfl hd_X6_copyNumbers (List.mem_cons_of_mem _ (List.mem_append_left _ (List.mem_append_left _ (List.mem_append_left _ (List.mem_append_left _ (List.mem_append_right _ (List.mem_of_getElem? (i := 1) rfl))))))) (List.mem_cons_of_mem _ (List.mem_append_left _ (List.mem_append_left _ (List.mem_append_left _ (List.mem_append_left _ (List.mem_append_right _ (List.mem_of_getElem? (i := 2) rfl))))))) ⟨rfl, rfl⟩ ⟨Nat.le_of_ble_eq_true rfl, Nat.le_of_ble_eq_true rfl⟩ ⟨hW0, hW1⟩ rfl hl.1 rfl (Nat.le_of_ble_eq_true rfl) dX1_copyFrom_147 ⟨Nat.le_of_ble_eq_true rfl, Nat.le_of_ble_eq_true rfl⟩ hS (fun q h => h) (fun q h => h) (fun H locs hQ zH fH hS => ?_)
        have hP := hQ
        have hk1 := dp_fr2 hW1 (fun q hz hq => fH q hz (bl_ne hq (by omega)))
        refine lv_aload_n hx hb dX1_copyFrom_150 rfl (lv_at hl 0 rfl) ?_
        refine lv_aload_n hx hb dX1_copyFrom_151 rfl (lv_at hl 1 rfl) ?_
        refine k_get S hK hk1.1 rfl (fun _ h => List.mem_cons_of_mem _ (List.mem_append_left _ (List.mem_append_left _ (List.mem_append_left _ (List.mem_append_right _ (h)))))) 5 (by decide) (List.mem_cons_of_mem _ (List.mem_append_left _ (List.mem_append_left _ (List.mem_append_left _ (List.mem_append_left _ (List.mem_append_left _ (List.mem_of_getElem? (i := 5) rfl))))))) rfl (v := .int (y 1)) rfl dX1_copyFrom_152 ?_
        refine dp_putD S hK hP (fun _ h => List.mem_cons_of_mem _ (List.mem_append_left _ (List.mem_append_left _ (List.mem_append_left _ (List.mem_append_right _ (h)))))) 5 (by decide) (List.mem_cons_of_mem _ (List.mem_append_left _ (List.mem_append_left _ (List.mem_append_left _ (List.mem_append_left _ (List.mem_append_left _ (List.mem_of_getElem? (i := 5) rfl))))))) rfl rfl rfl rfl (j := 1) (by simp [dk_F, upd]) (by decide) hS (fun _ h => h) dX1_copyFrom_155 (fun H locs hP zH fH hS => ?_)
        have hk1 := dp_fr2 hk1 (fun q _ hq => fH q (bl_ne hq (by omega)))
        refine lv_aload_n hx hb dX1_copyFrom_158 rfl (lv_at hl 0 rfl) ?_
        refine lv_aload_n hx hb dX1_copyFrom_159 rfl (lv_at hl 1 rfl) ?_
        refine k_get S hK hk1.1 rfl (fun _ h => List.mem_cons_of_mem _ (List.mem_append_left _ (List.mem_append_left _ (List.mem_append_left _ (List.mem_append_right _ (h)))))) 6 (by decide) (List.mem_cons_of_mem _ (List.mem_append_left _ (List.mem_append_left _ (List.mem_append_left _ (List.mem_append_left _ (List.mem_append_left _ (List.mem_of_getElem? (i := 6) rfl))))))) rfl (v := .int (y 5)) rfl dX1_copyFrom_160 ?_
        refine dp_putD S hK hP (fun _ h => List.mem_cons_of_mem _ (List.mem_append_left _ (List.mem_append_left _ (List.mem_append_left _ (List.mem_append_right _ (h)))))) 6 (by decide) (List.mem_cons_of_mem _ (List.mem_append_left _ (List.mem_append_left _ (List.mem_append_left _ (List.mem_append_left _ (List.mem_append_left _ (List.mem_of_getElem? (i := 6) rfl))))))) rfl rfl rfl rfl (j := 5) (by simp [dk_F, upd]) (by decide) hS (fun _ h => h) dX1_copyFrom_163 (fun H locs hP zH fH hS => ?_)
        have hk1 := dp_fr2 hk1 (fun q _ hq => fH q (bl_ne hq (by omega)))
        exact k_vretM hx hb hr hlk dX1_copyFrom_166 hS (show dp E d (cpF x y) _ from (by unfold cpF; rw [show cn y = k by omega]; exact hP))
      · refine lv_iload_n hx hb dX1_copyFrom_100 rfl (lv_at hl 2 rfl) ?_
        refine lv_aload_n hx hb dX1_copyFrom_101 rfl (lv_at hl 0 rfl) ?_
        refine k_get S hK hW0.1 rfl (fun _ h => List.mem_cons_of_mem _ (List.mem_append_left _ (List.mem_append_left _ (List.mem_append_left _ (List.mem_append_right _ (h)))))) 2 (by decide) (List.mem_cons_of_mem _ (List.mem_append_left _ (List.mem_append_left _ (List.mem_append_left _ (List.mem_append_left _ (List.mem_append_left _ (List.mem_of_getElem? (i := 3) rfl))))))) rfl (v := .ref (d + 3)) rfl dX1_copyFrom_102 ?_
        refine k_alen hx hb hK (t := 3) rfl hW0.2.2.2.1 dX1_copyFrom_105 ?_
        refine k_top (y := nI 20) rfl ?_
        refine n_ige (tgt := 139) hx hb dX1_copyFrom_106 (by decide) (by omega) (by omega) (fun c106 => ?_) (fun c106 => ?_)
        · refine lv_aload_n hx hb dX1_copyFrom_139 rfl (lv_at hl 1 rfl) ?_
          refine k_get S hK hW1.1 rfl (fun _ h => List.mem_cons_of_mem _ (List.mem_append_left _ (List.mem_append_left _ (List.mem_append_left _ (List.mem_append_right _ (h)))))) 3 (by decide) (List.mem_cons_of_mem _ (List.mem_append_left _ (List.mem_append_left _ (List.mem_append_left _ (List.mem_append_left _ (List.mem_append_left _ (List.mem_of_getElem? (i := 4) rfl))))))) rfl (v := .ref (g + 4)) rfl dX1_copyFrom_140 ?_
          refine lv_aload_n hx hb dX1_copyFrom_143 rfl (lv_at hl 0 rfl) ?_
          refine k_get S hK hW0.1 rfl (fun _ h => List.mem_cons_of_mem _ (List.mem_append_left _ (List.mem_append_left _ (List.mem_append_left _ (List.mem_append_right _ (h)))))) 3 (by decide) (List.mem_cons_of_mem _ (List.mem_append_left _ (List.mem_append_left _ (List.mem_append_left _ (List.mem_append_left _ (List.mem_append_left _ (List.mem_of_getElem? (i := 4) rfl))))))) rfl (v := .ref (d + 4)) rfl dX1_copyFrom_144 ?_
          refine k_SNM (q := (RX1, 50, yX6_copyNumbers, RX6)) (As := [.ref (g + 4), .ref (d + 4)]) (rest := []) S hK (List.mem_of_getElem? (i := 5) rfl) (c_X6_copyNumbers_5 l E d (cpU (upd (cpR x y 62) 0 (y 0)) y k) g y hd) ggX1_copyFrom_X6_copyNumbers rfl hd_X6_copyNumbers (List.mem_cons_of_mem _ (List.mem_append_left _ (List.mem_append_left _ (List.mem_append_left _ (List.mem_append_left _ (List.mem_append_right _ (List.mem_of_getElem? (i := 1) rfl))))))) (List.mem_cons_of_mem _ (List.mem_append_left _ (List.mem_append_left _ (List.mem_append_left _ (List.mem_append_left _ (List.mem_append_right _ (List.mem_of_getElem? (i := 2) rfl))))))) ⟨rfl, rfl⟩ ⟨Nat.le_of_ble_eq_true rfl, Nat.le_of_ble_eq_true rfl⟩ ⟨hW0, hW1⟩ rfl hl.1 rfl (Nat.le_of_ble_eq_true rfl) dX1_copyFrom_147 ⟨Nat.le_of_ble_eq_true rfl, Nat.le_of_ble_eq_true rfl⟩ hS (fun q h => h) (fun q h => h) (fun H locs hQ zH fH hS => ?_)
          have hP := hQ
          have hk1 := dp_fr2 hW1 (fun q hz hq => fH q hz (bl_ne hq (by omega)))
          refine lv_aload_n hx hb dX1_copyFrom_150 rfl (lv_at hl 0 rfl) ?_
          refine lv_aload_n hx hb dX1_copyFrom_151 rfl (lv_at hl 1 rfl) ?_
          refine k_get S hK hk1.1 rfl (fun _ h => List.mem_cons_of_mem _ (List.mem_append_left _ (List.mem_append_left _ (List.mem_append_left _ (List.mem_append_right _ (h)))))) 5 (by decide) (List.mem_cons_of_mem _ (List.mem_append_left _ (List.mem_append_left _ (List.mem_append_left _ (List.mem_append_left _ (List.mem_append_left _ (List.mem_of_getElem? (i := 5) rfl))))))) rfl (v := .int (y 1)) rfl dX1_copyFrom_152 ?_
          refine dp_putD S hK hP (fun _ h => List.mem_cons_of_mem _ (List.mem_append_left _ (List.mem_append_left _ (List.mem_append_left _ (List.mem_append_right _ (h)))))) 5 (by decide) (List.mem_cons_of_mem _ (List.mem_append_left _ (List.mem_append_left _ (List.mem_append_left _ (List.mem_append_left _ (List.mem_append_left _ (List.mem_of_getElem? (i := 5) rfl))))))) rfl rfl rfl rfl (j := 1) (by simp [dk_F, upd]) (by decide) hS (fun _ h => h) dX1_copyFrom_155 (fun H locs hP zH fH hS => ?_)
          have hk1 := dp_fr2 hk1 (fun q _ hq => fH q (bl_ne hq (by omega)))
          refine lv_aload_n hx hb dX1_copyFrom_158 rfl (lv_at hl 0 rfl) ?_
          refine lv_aload_n hx hb dX1_copyFrom_159 rfl (lv_at hl 1 rfl) ?_
          refine k_get S hK hk1.1 rfl (fun _ h => List.mem_cons_of_mem _ (List.mem_append_left _ (List.mem_append_left _ (List.mem_append_left _ (List.mem_append_right _ (h)))))) 6 (by decide) (List.mem_cons_of_mem _ (List.mem_append_left _ (List.mem_append_left _ (List.mem_append_left _ (List.mem_append_left _ (List.mem_append_left _ (List.mem_of_getElem? (i := 6) rfl))))))) rfl (v := .int (y 5)) rfl dX1_copyFrom_160 ?_
          refine dp_putD S hK hP (fun _ h => List.mem_cons_of_mem _ (List.mem_append_left _ (List.mem_append_left _ (List.mem_append_left _ (List.mem_append_right _ (h)))))) 6 (by decide) (List.mem_cons_of_mem _ (List.mem_append_left _ (List.mem_append_left _ (List.mem_append_left _ (List.mem_append_left _ (List.mem_append_left _ (List.mem_of_getElem? (i := 6) rfl))))))) rfl rfl rfl rfl (j := 5) (by simp [dk_F, upd]) (by decide) hS (fun _ h => h) dX1_copyFrom_163 (fun H locs hP zH fH hS => ?_)
          have hk1 := dp_fr2 hk1 (fun q _ hq => fH q (bl_ne hq (by omega)))
          exact k_vretM hx hb hr hlk dX1_copyFrom_166 hS (show dp E d (cpF x y) _ from (by unfold cpF; rw [show cn y = k by omega]; exact hP))
        · refine lv_iload_n hx hb dX1_copyFrom_109 rfl (lv_at hl 2 rfl) ?_
          refine lv_aload_n hx hb dX1_copyFrom_110 rfl (lv_at hl 1 rfl) ?_
          refine k_get S hK hW1.1 rfl (fun _ h => List.mem_cons_of_mem _ (List.mem_append_left _ (List.mem_append_left _ (List.mem_append_left _ (List.mem_append_right _ (h)))))) 2 (by decide) (List.mem_cons_of_mem _ (List.mem_append_left _ (List.mem_append_left _ (List.mem_append_left _ (List.mem_append_left _ (List.mem_append_left _ (List.mem_of_getElem? (i := 3) rfl))))))) rfl (v := .ref (g + 3)) rfl dX1_copyFrom_111 ?_
          refine k_alen hx hb hK (t := 3) rfl hW1.2.2.2.1 dX1_copyFrom_114 ?_
          refine k_top (y := nI 20) rfl ?_
          refine n_ige (tgt := 139) hx hb dX1_copyFrom_115 (by decide) (by omega) (by omega) (fun h => absurd h (by omega)) (fun c115 => ?_)
          refine lv_aload_n hx hb dX1_copyFrom_118 rfl (lv_at hl 0 rfl) ?_
          refine k_get S hK hW0.1 rfl (fun _ h => List.mem_cons_of_mem _ (List.mem_append_left _ (List.mem_append_left _ (List.mem_append_left _ (List.mem_append_right _ (h)))))) 2 (by decide) (List.mem_cons_of_mem _ (List.mem_append_left _ (List.mem_append_left _ (List.mem_append_left _ (List.mem_append_left _ (List.mem_append_left _ (List.mem_of_getElem? (i := 3) rfl))))))) rfl (v := .ref (d + 3)) rfl dX1_copyFrom_119 ?_
          refine lv_iload_n hx hb dX1_copyFrom_122 rfl (lv_at hl 2 rfl) ?_
          refine k_aald hx hb hK (t := 3) rfl hW0.2.2.2.1 (by omega) (by decide) (v := d + 2*k + 19) rfl dX1_copyFrom_123 ?_
          refine lv_aload_n hx hb dX1_copyFrom_124 rfl (lv_at hl 1 rfl) ?_
          refine k_get S hK hW1.1 rfl (fun _ h => List.mem_cons_of_mem _ (List.mem_append_left _ (List.mem_append_left _ (List.mem_append_left _ (List.mem_append_right _ (h)))))) 2 (by decide) (List.mem_cons_of_mem _ (List.mem_append_left _ (List.mem_append_left _ (List.mem_append_left _ (List.mem_append_left _ (List.mem_append_left _ (List.mem_of_getElem? (i := 3) rfl))))))) rfl (v := .ref (g + 3)) rfl dX1_copyFrom_125 ?_
          refine lv_iload_n hx hb dX1_copyFrom_128 rfl (lv_at hl 2 rfl) ?_
          refine k_aald hx hb hK (t := 3) rfl hW1.2.2.2.1 (by omega) (by decide) (v := g + 2*k + 19) rfl dX1_copyFrom_129 ?_
          refine k_VM (As := [.ref (g + 2*k + 19)]) (rest := []) S hK (c_X4_copyFrom l E d (cpU (upd (cpR x y 62) 0 (y 0)) y k) g y k hd c115 (iv_u hI (u := k) (by omega)).2.2.2.2.2.2.1) gX1_copyFrom_X4_copyFrom rfl hd_X4_copyFrom ⟨rfl, rfl⟩ ⟨Nat.le_of_ble_eq_true rfl, Nat.le_of_ble_eq_true rfl⟩ (k_recv hK (hW0.2.2.2.2.2.2.2.2.1 k c115) rfl) ⟨hW0, hW1⟩ rfl hl.1 rfl (Nat.le_of_ble_eq_true rfl) dX1_copyFrom_130 ⟨Nat.le_of_ble_eq_true rfl, Nat.le_of_ble_eq_true rfl⟩ hS (fun q h => h) (fun q h => h) (fun H locs hQ zH fH hS => ?_)
          have hP := hQ
          have hk1 := dp_fr2 hW1 (fun q hz hq => fH q hz (bl_ne hq (by omega)))
          refine lv_iinc (v := nI (k + 1)) (lv' := [(2, .int (nI (k + 1))), (0, .ref d), (1, .ref g)]) hx hb dX1_copyFrom_133 hl (k := 2) rfl (inc_1 _) (by decide) rfl (fun ls hl => ?_)
          refine lv_goto (tgt := 92) hx hb dX1_copyFrom_136 (by decide) ?_
          exact ih (k + 1) (by omega) (by omega) _ _ (show dp E d (cpU (upd (cpR x y 62) 0 (y 0)) y (k + 1)) _ from (by have e9 := hP; rw [cpU_s] at e9; exact e9)) hk1 hS _ (lv_sub hl [1, 2, 0] rfl)
  have J43 : ∀ (n_ : Nat), ∀ (k : Nat), k ≤ 4 → 4 < k + n_ → ∀ (H : Heap) (locs : List Loc), dp E d (cpR x y (8*k + 30)) H → dp E g y H → va_S (bl d 59) s.heap H locs → ∀ (ls : Array Slot), lv_has ls 3 [(0, .ref d), (1, .ref g), (2, .int (nI k))] → W p l e (headSpec wsX1_copyFrom rm_X1_copyFrom).room s m ([.ref d, .ref g] : List Value).toArray below meth c H locs 0 0 (MQ below (qm none (bl d 59) (dp E d (cpF x y))) ([.ref d, .ref g] : List Value).toArray s 0 0 (bl d 59)) (F0 m 43 ls []) := by
    intro n_
    induction n_ with
    | zero =>
      intro k hk hn_ _ _ _ _ _ _ _
      exact absurd hn_ (by omega)
    | succ n_ ih =>
      intro k hk hn_ H locs hW0 hW1 hS ls hl
      refine lv_iload_n hx hb dX1_copyFrom_43 rfl (lv_at hl 2 rfl) ?_
      refine lv_aload_n hx hb dX1_copyFrom_44 rfl (lv_at hl 0 rfl) ?_
      refine k_get S hK hW0.1 rfl (fun _ h => List.mem_cons_of_mem _ (List.mem_append_left _ (List.mem_append_left _ (List.mem_append_left _ (List.mem_append_right _ (h)))))) 1 (by decide) (List.mem_cons_of_mem _ (List.mem_append_left _ (List.mem_append_left _ (List.mem_append_left _ (List.mem_append_left _ (List.mem_append_left _ (List.mem_of_getElem? (i := 1) rfl))))))) rfl (v := .ref (d + 2)) rfl dX1_copyFrom_45 ?_
      refine k_alen hx hb hK (t := 2) rfl hW0.2.2.1 dX1_copyFrom_48 ?_
      refine k_top (y := nI 4) rfl ?_
      refine n_ige (tgt := 82) hx hb dX1_copyFrom_49 (by decide) (by omega) (by omega) (fun c49 => ?_) (fun c49 => ?_)
      · refine lv_aload_n hx hb dX1_copyFrom_82 rfl (lv_at hl 0 rfl) ?_
        refine lv_aload_n hx hb dX1_copyFrom_83 rfl (lv_at hl 1 rfl) ?_
        refine k_get S hK hW1.1 rfl (fun _ h => List.mem_cons_of_mem _ (List.mem_append_left _ (List.mem_append_left _ (List.mem_append_left _ (List.mem_append_right _ (h)))))) 4 (by decide) (List.mem_cons_of_mem _ (List.mem_append_left _ (List.mem_append_left _ (List.mem_append_left _ (List.mem_append_left _ (List.mem_append_left _ (List.mem_of_getElem? (i := 2) rfl))))))) rfl (v := .int (nI (cn y))) (congrArg (fun x => some (Value.int x)) ((iv_n hI))) dX1_copyFrom_84 ?_
        refine dp_putD S hK hW0 (fun _ h => List.mem_cons_of_mem _ (List.mem_append_left _ (List.mem_append_left _ (List.mem_append_left _ (List.mem_append_right _ (h)))))) 4 (by decide) (List.mem_cons_of_mem _ (List.mem_append_left _ (List.mem_append_left _ (List.mem_append_left _ (List.mem_append_left _ (List.mem_append_left _ (List.mem_of_getElem? (i := 2) rfl))))))) rfl rfl rfl rfl (j := 0) (by simp [dk_F, upd]) (by decide) hS (fun _ h => h) dX1_copyFrom_87 (fun H locs hP zH fH hS => ?_)
        have hk1 := dp_fr2 hW1 (fun q _ hq => fH q (bl_ne hq (by omega)))
        refine lv_iconst (v := nI 0) hx hb dX1_copyFrom_90 (by decide) ?_
        refine lv_istore_n (lv' := [(2, .int (nI 0)), (0, .ref d), (1, .ref g)]) hx hb dX1_copyFrom_91 rfl hl (by decide) rfl (fun ls hl => ?_)
        exact J92 (cn y + 1) 0 (by omega) (by omega) _ _ (show dp E d (cpU (upd (cpR x y 62) 0 (y 0)) y 0) _ from (by rw [cpU_0, iv_n hI, show 62 = 8*k + 30 by omega]; exact hP)) hk1 hS _ (lv_sub hl [1, 2, 0] rfl)
      · refine lv_iload_n hx hb dX1_copyFrom_52 rfl (lv_at hl 2 rfl) ?_
        refine lv_aload_n hx hb dX1_copyFrom_53 rfl (lv_at hl 1 rfl) ?_
        refine k_get S hK hW1.1 rfl (fun _ h => List.mem_cons_of_mem _ (List.mem_append_left _ (List.mem_append_left _ (List.mem_append_left _ (List.mem_append_right _ (h)))))) 1 (by decide) (List.mem_cons_of_mem _ (List.mem_append_left _ (List.mem_append_left _ (List.mem_append_left _ (List.mem_append_left _ (List.mem_append_left _ (List.mem_of_getElem? (i := 1) rfl))))))) rfl (v := .ref (g + 2)) rfl dX1_copyFrom_54 ?_
        refine k_alen hx hb hK (t := 2) rfl hW1.2.2.1 dX1_copyFrom_57 ?_
        refine k_top (y := nI 4) rfl ?_
        refine n_ige (tgt := 82) hx hb dX1_copyFrom_58 (by decide) (by omega) (by omega) (fun h => absurd h (by omega)) (fun c58 => ?_)
        refine lv_aload_n hx hb dX1_copyFrom_61 rfl (lv_at hl 0 rfl) ?_
        refine k_get S hK hW0.1 rfl (fun _ h => List.mem_cons_of_mem _ (List.mem_append_left _ (List.mem_append_left _ (List.mem_append_left _ (List.mem_append_right _ (h)))))) 1 (by decide) (List.mem_cons_of_mem _ (List.mem_append_left _ (List.mem_append_left _ (List.mem_append_left _ (List.mem_append_left _ (List.mem_append_left _ (List.mem_of_getElem? (i := 1) rfl))))))) rfl (v := .ref (d + 2)) rfl dX1_copyFrom_62 ?_
        refine lv_iload_n hx hb dX1_copyFrom_65 rfl (lv_at hl 2 rfl) ?_
        refine k_aald hx hb hK (t := 2) rfl hW0.2.2.1 (by omega) (by decide) (v := d + 2*k + 11) rfl dX1_copyFrom_66 ?_
        refine lv_aload_n hx hb dX1_copyFrom_67 rfl (lv_at hl 1 rfl) ?_
        refine k_get S hK hW1.1 rfl (fun _ h => List.mem_cons_of_mem _ (List.mem_append_left _ (List.mem_append_left _ (List.mem_append_left _ (List.mem_append_right _ (h)))))) 1 (by decide) (List.mem_cons_of_mem _ (List.mem_append_left _ (List.mem_append_left _ (List.mem_append_left _ (List.mem_append_left _ (List.mem_append_left _ (List.mem_of_getElem? (i := 1) rfl))))))) rfl (v := .ref (g + 2)) rfl dX1_copyFrom_68 ?_
        refine lv_iload_n hx hb dX1_copyFrom_71 rfl (lv_at hl 2 rfl) ?_
        refine k_aald hx hb hK (t := 2) rfl hW1.2.2.1 (by omega) (by decide) (v := g + 2*k + 11) rfl dX1_copyFrom_72 ?_
        refine k_VM (As := [.ref (g + 2*k + 11)]) (rest := []) S hK (c_X5_copyFrom l E d (cpR x y (8*k + 30)) g y k hd c58) gX1_copyFrom_X5_copyFrom rfl hd_X5_copyFrom ⟨rfl, rfl⟩ ⟨Nat.le_of_ble_eq_true rfl, Nat.le_of_ble_eq_true rfl⟩ (k_recv hK (hW0.2.2.2.2.2.2.1 k c58) rfl) ⟨hW0, hW1⟩ rfl hl.1 rfl (Nat.le_of_ble_eq_true rfl) dX1_copyFrom_73 ⟨Nat.le_of_ble_eq_true rfl, Nat.le_of_ble_eq_true rfl⟩ hS (fun q h => h) (fun q h => h) (fun H locs hQ zH fH hS => ?_)
        have hP := hQ
        have hk1 := dp_fr2 hW1 (fun q hz hq => fH q hz (bl_ne hq (by omega)))
        refine lv_iinc (v := nI (k + 1)) (lv' := [(2, .int (nI (k + 1))), (0, .ref d), (1, .ref g)]) hx hb dX1_copyFrom_76 hl (k := 2) rfl (inc_1 _) (by decide) rfl (fun ls hl => ?_)
        refine lv_goto (tgt := 43) hx hb dX1_copyFrom_79 (by decide) ?_
        exact ih (k + 1) (by omega) (by omega) _ _ (show dp E d (cpR x y (8*(k + 1) + 30)) _ from (by have e9 := hP; rw [cpR_8] at e9; exact e9)) hk1 hS _ (lv_sub hl [1, 2, 0] rfl)
  have J2 : ∀ (n_ : Nat), ∀ (k : Nat), k ≤ 6 → 6 < k + n_ → ∀ (H : Heap) (locs : List Loc), dp E d (cpR x y (3*k + 12)) H → dp E g y H → va_S (bl d 59) s.heap H locs → ∀ (ls : Array Slot), lv_has ls 3 [(0, .ref d), (1, .ref g), (2, .int (nI k))] → W p l e (headSpec wsX1_copyFrom rm_X1_copyFrom).room s m ([.ref d, .ref g] : List Value).toArray below meth c H locs 0 0 (MQ below (qm none (bl d 59) (dp E d (cpF x y))) ([.ref d, .ref g] : List Value).toArray s 0 0 (bl d 59)) (F0 m 2 ls []) := by
    intro n_
    induction n_ with
    | zero =>
      intro k hk hn_ _ _ _ _ _ _ _
      exact absurd hn_ (by omega)
    | succ n_ ih =>
      intro k hk hn_ H locs hW0 hW1 hS ls hl
      refine lv_iload_n hx hb dX1_copyFrom_2 rfl (lv_at hl 2 rfl) ?_
      refine lv_aload_n hx hb dX1_copyFrom_3 rfl (lv_at hl 0 rfl) ?_
      refine k_get S hK hW0.1 rfl (fun _ h => List.mem_cons_of_mem _ (List.mem_append_left _ (List.mem_append_left _ (List.mem_append_left _ (List.mem_append_right _ (h)))))) 0 (by decide) (List.mem_cons_of_mem _ (List.mem_append_left _ (List.mem_append_left _ (List.mem_append_left _ (List.mem_append_left _ (List.mem_append_left _ (List.mem_of_getElem? (i := 0) rfl))))))) rfl (v := .ref (d + 1)) rfl dX1_copyFrom_4 ?_
      refine k_alen hx hb hK (t := 1) rfl hW0.2.1 dX1_copyFrom_7 ?_
      refine k_top (y := nI 6) rfl ?_
      refine n_ige (tgt := 41) hx hb dX1_copyFrom_8 (by decide) (by omega) (by omega) (fun c8 => ?_) (fun c8 => ?_)
      · refine lv_iconst (v := nI 0) hx hb dX1_copyFrom_41 (by decide) ?_
        refine lv_istore_n (lv' := [(2, .int (nI 0)), (0, .ref d), (1, .ref g)]) hx hb dX1_copyFrom_42 rfl hl (by decide) rfl (fun ls hl => ?_)
        exact J43 (4 + 1) 0 (by omega) (by omega) _ _ (show dp E d (cpR x y (8*0 + 30)) _ from (by rw [show 8*0 + 30 = 3*k + 12 by omega]; exact hW0)) hW1 hS _ (lv_sub hl [1, 2, 0] rfl)
      · refine lv_iload_n hx hb dX1_copyFrom_11 rfl (lv_at hl 2 rfl) ?_
        refine lv_aload_n hx hb dX1_copyFrom_12 rfl (lv_at hl 1 rfl) ?_
        refine k_get S hK hW1.1 rfl (fun _ h => List.mem_cons_of_mem _ (List.mem_append_left _ (List.mem_append_left _ (List.mem_append_left _ (List.mem_append_right _ (h)))))) 0 (by decide) (List.mem_cons_of_mem _ (List.mem_append_left _ (List.mem_append_left _ (List.mem_append_left _ (List.mem_append_left _ (List.mem_append_left _ (List.mem_of_getElem? (i := 0) rfl))))))) rfl (v := .ref (g + 1)) rfl dX1_copyFrom_13 ?_
        refine k_alen hx hb hK (t := 1) rfl hW1.2.1 dX1_copyFrom_16 ?_
        refine k_top (y := nI 6) rfl ?_
        refine n_ige (tgt := 41) hx hb dX1_copyFrom_17 (by decide) (by omega) (by omega) (fun h => absurd h (by omega)) (fun c17 => ?_)
        refine lv_aload_n hx hb dX1_copyFrom_20 rfl (lv_at hl 0 rfl) ?_
        refine k_get S hK hW0.1 rfl (fun _ h => List.mem_cons_of_mem _ (List.mem_append_left _ (List.mem_append_left _ (List.mem_append_left _ (List.mem_append_right _ (h)))))) 0 (by decide) (List.mem_cons_of_mem _ (List.mem_append_left _ (List.mem_append_left _ (List.mem_append_left _ (List.mem_append_left _ (List.mem_append_left _ (List.mem_of_getElem? (i := 0) rfl))))))) rfl (v := .ref (d + 1)) rfl dX1_copyFrom_21 ?_
        refine lv_iload_n hx hb dX1_copyFrom_24 rfl (lv_at hl 2 rfl) ?_
        refine k_aald hx hb hK (t := 1) rfl hW0.2.1 (by omega) (by decide) (v := d + k + 5) rfl dX1_copyFrom_25 ?_
        refine lv_aload_n hx hb dX1_copyFrom_26 rfl (lv_at hl 1 rfl) ?_
        refine k_get S hK hW1.1 rfl (fun _ h => List.mem_cons_of_mem _ (List.mem_append_left _ (List.mem_append_left _ (List.mem_append_left _ (List.mem_append_right _ (h)))))) 0 (by decide) (List.mem_cons_of_mem _ (List.mem_append_left _ (List.mem_append_left _ (List.mem_append_left _ (List.mem_append_left _ (List.mem_append_left _ (List.mem_of_getElem? (i := 0) rfl))))))) rfl (v := .ref (g + 1)) rfl dX1_copyFrom_27 ?_
        refine lv_iload_n hx hb dX1_copyFrom_30 rfl (lv_at hl 2 rfl) ?_
        refine k_aald hx hb hK (t := 1) rfl hW1.2.1 (by omega) (by decide) (v := g + k + 5) rfl dX1_copyFrom_31 ?_
        refine k_VM (As := [.ref (g + k + 5)]) (rest := []) S hK (c_X3_copyFrom l E d (cpR x y (3*k + 12)) g y k hd c17 (hI.2.2.2.1 k (by omega)).2.2) gX1_copyFrom_X3_copyFrom rfl hd_X3_copyFrom ⟨rfl, rfl⟩ ⟨Nat.le_of_ble_eq_true rfl, Nat.le_of_ble_eq_true rfl⟩ (k_recv hK (hW0.2.2.2.2.2.1 k c17) rfl) ⟨hW0, hW1⟩ rfl hl.1 rfl (Nat.le_of_ble_eq_true rfl) dX1_copyFrom_32 ⟨Nat.le_of_ble_eq_true rfl, Nat.le_of_ble_eq_true rfl⟩ hS (fun q h => h) (fun q h => h) (fun H locs hQ zH fH hS => ?_)
        have hP := hQ
        have hk1 := dp_fr2 hW1 (fun q hz hq => fH q hz (bl_ne hq (by omega)))
        refine lv_iinc (v := nI (k + 1)) (lv' := [(2, .int (nI (k + 1))), (0, .ref d), (1, .ref g)]) hx hb dX1_copyFrom_35 hl (k := 2) rfl (inc_1 _) (by decide) rfl (fun ls hl => ?_)
        refine lv_goto (tgt := 2) hx hb dX1_copyFrom_38 (by decide) ?_
        exact ih (k + 1) (by omega) (by omega) _ _ (show dp E d (cpR x y (3*(k + 1) + 12)) _ from (by have e9 := hP; rw [cpR_3] at e9; exact e9)) hk1 hS _ (lv_sub hl [1, 2, 0] rfl)
  refine lv_iconst (v := nI 0) hx hb dX1_copyFrom_0 (by decide) ?_
  refine lv_istore_n (lv' := [(2, .int (nI 0)), (0, .ref d), (1, .ref g)]) hx hb dX1_copyFrom_1 rfl hl (by decide) rfl (fun ls hl => ?_)
  exact J2 (6 + 1) 0 (by omega) (by omega) _ _ (show dp E d (cpR x y (3*0 + 12)) _ from (by rw [show 3*0 + 12 = 12 from rfl, cpR_0]; exact hP0)) hP1 hS _ (lv_sub hl [1, 2, 0] rfl)
theorem c_X1_copyFrom (l : Launch) (E : ke_E) (d : Nat) (x : Nat → Int32) (g : Nat) (z : Nat → Int32) (hd : d + 59 ≤ g ∨ g + 59 ≤ d) (hI : iv z) : Met l yX1_copyFrom wsX1_copyFrom rm_X1_copyFrom (kp E [.ref d, .ref g] (fun H => dz E d x H ∧ dz E g z H)) (qm none (bl d 59) (dz E d z)) 0 0 (bl d 59) := by
  refine met_ex (X := (Nat → Int32) × (Nat → Int32)) (C := fun y => iv y.2 ∧ ag (cn z) y.2 z) (P := fun y H => dp E d y.1 H ∧ dp E g y.2 H) (Q0 := fun y => dp E d (cpF y.1 y.2)) (fun y hC => c_X1_copyFrom_D l E d y.1 g y.2 hd hC.1) ?_
  intro H hP
  obtain ⟨⟨_, y1, h1, _⟩, c2, y2, h2, a2⟩ := hP
  refine ⟨(y1, y2), ⟨iv_ag hI a2, a2⟩, ⟨h1, h2⟩, fun H1 h => ⟨c2, _, h, ?_⟩⟩
  have k := cpF_ag (y2 := y1) (y := y2)
  rw [← ag_cn a2] at k
  exact ag_tr k a2
def rm_X4_begin : Room := { frames := 0, cells := 0, slots := 0, locals := 0 }
theorem hd_X4_begin : k_hd1 yX4_begin RX4 2 := by decide +kernel
set_option maxHeartbeats 4000000 in
set_option maxRecDepth 100000 in
theorem c_X4_begin (l : Launch) (E : ke_E) (d : Nat) (y : Nat → Int32) (u : Nat) (x : Int32) (r : Int32) (hu20 : u < 20) : Met l yX4_begin wsX4_begin rm_X4_begin (kp E [.ref (d + 2*u + 19), .int x, .int r] (dp E d y)) (qm none (bl d 59) (dp E d (begZ y u x r))) 0 0 (bl d 59) := by
  refine k_hd (cc := cX4_begin) (maxL := 4) (ret := none) (by decide) rfl (Nat.le_of_ble_eq_true rfl) ?_
  intro p e s m below meth c ls S hr hlk hnm hK hP hl
  have hx := S.1
  have hb := S.2.1
  have hts := S.2.2.2.2
  have hP : dp E d y s.heap := hP
  have hl : lv_has ls 4 [(0, .ref (d + 2*u + 19)), (1, .int x), (2, .int r)] := hl
  have hS : va_S (bl d 59) s.heap s.heap [] := va_S.rf
  refine lv_iconst (v := nI 0) hx hb dX4_begin_0 (by decide) ?_
  refine lv_istore_n (lv' := [(3, .int (nI 0)), (0, .ref (d + 2*u + 19)), (1, .int x), (2, .int r)]) hx hb dX4_begin_1 rfl hl (by decide) rfl (fun ls hl => ?_)
  refine lv_iload_n hx hb dX4_begin_2 rfl (lv_at hl 0 rfl) ?_
  refine lv_aload_n hx hb dX4_begin_3 rfl (lv_at hl 1 rfl) ?_
  refine k_get S hK (hP.2.2.2.2.2.2.2.2.1 u hu20) rfl (fun _ h => List.mem_cons_of_mem _ (List.mem_append_right _ (h))) 0 (by decide) (List.mem_cons_of_mem _ (List.mem_append_left _ (List.mem_of_getElem? (i := 0) rfl))) rfl (v := .ref (d + 2*u + 20)) rfl dX4_begin_4 ?_
  refine k_alen hx hb hK (t := 0) rfl (hP.2.2.2.2.2.2.2.2.2 u hu20) dX4_begin_7 ?_
  refine k_top (y := nI 4) rfl ?_
  refine n_ige (tgt := 24) hx hb dX4_begin_8 (by decide) (by omega) (by omega) (fun h => absurd h (by decide)) (fun c8 => ?_)
  refine lv_aload_n hx hb dX4_begin_11 rfl (lv_at hl 1 rfl) ?_
  refine k_get S hK (hP.2.2.2.2.2.2.2.2.1 u hu20) rfl (fun _ h => List.mem_cons_of_mem _ (List.mem_append_right _ (h))) 0 (by decide) (List.mem_cons_of_mem _ (List.mem_append_left _ (List.mem_of_getElem? (i := 0) rfl))) rfl (v := .ref (d + 2*u + 20)) rfl dX4_begin_12 ?_
  refine lv_iload_n hx hb dX4_begin_15 rfl (lv_at hl 0 rfl) ?_
  refine lv_iconst (v := (-1)) hx hb dX4_begin_16 (by decide) ?_
  refine dp_astU hu20 hx hb hK hP (by omega) hS (fun _ h => h) dX4_begin_17 (fun H locs hP zH fH hS => ?_)
  rw [show 13*u + 0 + 64 = 13*u + 64 by omega] at hP
  refine lv_iinc (v := nI 1) (lv' := [(3, .int (nI 1)), (0, .ref (d + 2*u + 19)), (1, .int x), (2, .int r)]) hx hb dX4_begin_18 hl (k := 0) rfl (by decide) (by decide) rfl (fun ls hl => ?_)
  refine lv_goto (tgt := 2) hx hb dX4_begin_21 (by decide) ?_
  refine lv_iload_n hx hb dX4_begin_2 rfl (lv_at hl 0 rfl) ?_
  refine lv_aload_n hx hb dX4_begin_3 rfl (lv_at hl 1 rfl) ?_
  refine k_get S hK (hP.2.2.2.2.2.2.2.2.1 u hu20) rfl (fun _ h => List.mem_cons_of_mem _ (List.mem_append_right _ (h))) 0 (by decide) (List.mem_cons_of_mem _ (List.mem_append_left _ (List.mem_of_getElem? (i := 0) rfl))) rfl (v := .ref (d + 2*u + 20)) rfl dX4_begin_4 ?_
  refine k_alen hx hb hK (t := 0) rfl (hP.2.2.2.2.2.2.2.2.2 u hu20) dX4_begin_7 ?_
  refine k_top (y := nI 4) rfl ?_
  refine n_ige (tgt := 24) hx hb dX4_begin_8 (by decide) (by omega) (by omega) (fun h => absurd h (by decide)) (fun c8_1 => ?_)
  refine lv_aload_n hx hb dX4_begin_11 rfl (lv_at hl 1 rfl) ?_
  refine k_get S hK (hP.2.2.2.2.2.2.2.2.1 u hu20) rfl (fun _ h => List.mem_cons_of_mem _ (List.mem_append_right _ (h))) 0 (by decide) (List.mem_cons_of_mem _ (List.mem_append_left _ (List.mem_of_getElem? (i := 0) rfl))) rfl (v := .ref (d + 2*u + 20)) rfl dX4_begin_12 ?_
  refine lv_iload_n hx hb dX4_begin_15 rfl (lv_at hl 0 rfl) ?_
  refine lv_iconst (v := (-1)) hx hb dX4_begin_16 (by decide) ?_
  refine dp_astU hu20 hx hb hK hP (by omega) hS (fun _ h => h) dX4_begin_17 (fun H locs hP zH fH hS => ?_)
  rw [show 13*u + 1 + 64 = 13*u + 65 by omega] at hP
  refine lv_iinc (v := nI 2) (lv' := [(3, .int (nI 2)), (0, .ref (d + 2*u + 19)), (1, .int x), (2, .int r)]) hx hb dX4_begin_18 hl (k := 0) rfl (by decide) (by decide) rfl (fun ls hl => ?_)
  refine lv_goto (tgt := 2) hx hb dX4_begin_21 (by decide) ?_
  refine lv_iload_n hx hb dX4_begin_2 rfl (lv_at hl 0 rfl) ?_
  refine lv_aload_n hx hb dX4_begin_3 rfl (lv_at hl 1 rfl) ?_
  refine k_get S hK (hP.2.2.2.2.2.2.2.2.1 u hu20) rfl (fun _ h => List.mem_cons_of_mem _ (List.mem_append_right _ (h))) 0 (by decide) (List.mem_cons_of_mem _ (List.mem_append_left _ (List.mem_of_getElem? (i := 0) rfl))) rfl (v := .ref (d + 2*u + 20)) rfl dX4_begin_4 ?_
  refine k_alen hx hb hK (t := 0) rfl (hP.2.2.2.2.2.2.2.2.2 u hu20) dX4_begin_7 ?_
  refine k_top (y := nI 4) rfl ?_
  refine n_ige (tgt := 24) hx hb dX4_begin_8 (by decide) (by omega) (by omega) (fun h => absurd h (by decide)) (fun c8_2 => ?_)
  refine lv_aload_n hx hb dX4_begin_11 rfl (lv_at hl 1 rfl) ?_
  refine k_get S hK (hP.2.2.2.2.2.2.2.2.1 u hu20) rfl (fun _ h => List.mem_cons_of_mem _ (List.mem_append_right _ (h))) 0 (by decide) (List.mem_cons_of_mem _ (List.mem_append_left _ (List.mem_of_getElem? (i := 0) rfl))) rfl (v := .ref (d + 2*u + 20)) rfl dX4_begin_12 ?_
  refine lv_iload_n hx hb dX4_begin_15 rfl (lv_at hl 0 rfl) ?_
  refine lv_iconst (v := (-1)) hx hb dX4_begin_16 (by decide) ?_
  refine dp_astU hu20 hx hb hK hP (by omega) hS (fun _ h => h) dX4_begin_17 (fun H locs hP zH fH hS => ?_)
  rw [show 13*u + 2 + 64 = 13*u + 66 by omega] at hP
  refine lv_iinc (v := nI 3) (lv' := [(3, .int (nI 3)), (0, .ref (d + 2*u + 19)), (1, .int x), (2, .int r)]) hx hb dX4_begin_18 hl (k := 0) rfl (by decide) (by decide) rfl (fun ls hl => ?_)
  refine lv_goto (tgt := 2) hx hb dX4_begin_21 (by decide) ?_
  refine lv_iload_n hx hb dX4_begin_2 rfl (lv_at hl 0 rfl) ?_
  refine lv_aload_n hx hb dX4_begin_3 rfl (lv_at hl 1 rfl) ?_
  refine k_get S hK (hP.2.2.2.2.2.2.2.2.1 u hu20) rfl (fun _ h => List.mem_cons_of_mem _ (List.mem_append_right _ (h))) 0 (by decide) (List.mem_cons_of_mem _ (List.mem_append_left _ (List.mem_of_getElem? (i := 0) rfl))) rfl (v := .ref (d + 2*u + 20)) rfl dX4_begin_4 ?_
  refine k_alen hx hb hK (t := 0) rfl (hP.2.2.2.2.2.2.2.2.2 u hu20) dX4_begin_7 ?_
  refine k_top (y := nI 4) rfl ?_
  refine n_ige (tgt := 24) hx hb dX4_begin_8 (by decide) (by omega) (by omega) (fun h => absurd h (by decide)) (fun c8_3 => ?_)
  refine lv_aload_n hx hb dX4_begin_11 rfl (lv_at hl 1 rfl) ?_
  refine k_get S hK (hP.2.2.2.2.2.2.2.2.1 u hu20) rfl (fun _ h => List.mem_cons_of_mem _ (List.mem_append_right _ (h))) 0 (by decide) (List.mem_cons_of_mem _ (List.mem_append_left _ (List.mem_of_getElem? (i := 0) rfl))) rfl (v := .ref (d + 2*u + 20)) rfl dX4_begin_12 ?_
  refine lv_iload_n hx hb dX4_begin_15 rfl (lv_at hl 0 rfl) ?_
  refine lv_iconst (v := (-1)) hx hb dX4_begin_16 (by decide) ?_
  refine dp_astU hu20 hx hb hK hP (by omega) hS (fun _ h => h) dX4_begin_17 (fun H locs hP zH fH hS => ?_)
  rw [show 13*u + 3 + 64 = 13*u + 67 by omega] at hP
  refine lv_iinc (v := nI 4) (lv' := [(3, .int (nI 4)), (0, .ref (d + 2*u + 19)), (1, .int x), (2, .int r)]) hx hb dX4_begin_18 hl (k := 0) rfl (by decide) (by decide) rfl (fun ls hl => ?_)
  refine lv_goto (tgt := 2) hx hb dX4_begin_21 (by decide) ?_
  refine lv_iload_n hx hb dX4_begin_2 rfl (lv_at hl 0 rfl) ?_
  refine lv_aload_n hx hb dX4_begin_3 rfl (lv_at hl 1 rfl) ?_
  refine k_get S hK (hP.2.2.2.2.2.2.2.2.1 u hu20) rfl (fun _ h => List.mem_cons_of_mem _ (List.mem_append_right _ (h))) 0 (by decide) (List.mem_cons_of_mem _ (List.mem_append_left _ (List.mem_of_getElem? (i := 0) rfl))) rfl (v := .ref (d + 2*u + 20)) rfl dX4_begin_4 ?_
  refine k_alen hx hb hK (t := 0) rfl (hP.2.2.2.2.2.2.2.2.2 u hu20) dX4_begin_7 ?_
  refine k_top (y := nI 4) rfl ?_
  refine n_ige (tgt := 24) hx hb dX4_begin_8 (by decide) (by omega) (by omega) (fun c8_4 => ?_) (fun h => absurd h (by decide))
  refine lv_aload_n hx hb dX4_begin_24 rfl (lv_at hl 1 rfl) ?_
  refine lv_iload_n hx hb dX4_begin_25 rfl (lv_at hl 2 rfl) ?_
  refine dp_putU hu20 S hK hP (fun _ h => List.mem_cons_of_mem _ (List.mem_append_right _ (h))) 1 (by decide) (List.mem_cons_of_mem _ (List.mem_append_left _ (List.mem_of_getElem? (i := 1) rfl))) rfl rfl rfl rfl (j := 62) (by simp [un_F, upd]) (by decide) hS (fun _ h => h) dX4_begin_26 (fun H locs hP zH fH hS => ?_)
  refine lv_aload_n hx hb dX4_begin_29 rfl (lv_at hl 1 rfl) ?_
  refine lv_iload_n hx hb dX4_begin_30 rfl (lv_at hl 3 rfl) ?_
  refine dp_putU hu20 S hK hP (fun _ h => List.mem_cons_of_mem _ (List.mem_append_right _ (h))) 2 (by decide) (List.mem_cons_of_mem _ (List.mem_append_left _ (List.mem_of_getElem? (i := 2) rfl))) rfl rfl rfl rfl (j := 63) (by simp [un_F, upd]) (by decide) hS (fun _ h => h) dX4_begin_31 (fun H locs hP zH fH hS => ?_)
  refine lv_aload_n hx hb dX4_begin_34 rfl (lv_at hl 1 rfl) ?_
  refine lv_iconst (v := nI 0) hx hb dX4_begin_35 (by decide) ?_
  refine dp_putU hu20 S hK hP (fun _ h => List.mem_cons_of_mem _ (List.mem_append_right _ (h))) 3 (by decide) (List.mem_cons_of_mem _ (List.mem_append_left _ (List.mem_of_getElem? (i := 3) rfl))) rfl rfl rfl rfl (j := 68) (by simp [un_F, upd]) (by decide) hS (fun _ h => h) dX4_begin_36 (fun H locs hP zH fH hS => ?_)
  refine lv_aload_n hx hb dX4_begin_39 rfl (lv_at hl 1 rfl) ?_
  refine lv_iconst (v := nI 0) hx hb dX4_begin_40 (by decide) ?_
  refine dp_putU hu20 S hK hP (fun _ h => List.mem_cons_of_mem _ (List.mem_append_right _ (h))) 4 (by decide) (List.mem_cons_of_mem _ (List.mem_append_left _ (List.mem_of_getElem? (i := 4) rfl))) rfl rfl rfl rfl (j := 69) (by simp [un_F, upd]) (by decide) hS (fun _ h => h) dX4_begin_41 (fun H locs hP zH fH hS => ?_)
  refine lv_aload_n hx hb dX4_begin_44 rfl (lv_at hl 1 rfl) ?_
  refine lv_iconst (v := (-1)) hx hb dX4_begin_45 (by decide) ?_
  refine dp_putU hu20 S hK hP (fun _ h => List.mem_cons_of_mem _ (List.mem_append_right _ (h))) 5 (by decide) (List.mem_cons_of_mem _ (List.mem_append_left _ (List.mem_of_getElem? (i := 5) rfl))) rfl rfl rfl rfl (j := 70) (by simp [un_F, upd]) (by decide) hS (fun _ h => h) dX4_begin_46 (fun H locs hP zH fH hS => ?_)
  refine lv_aload_n hx hb dX4_begin_49 rfl (lv_at hl 1 rfl) ?_
  refine lv_iconst (v := nI 0) hx hb dX4_begin_50 (by decide) ?_
  refine dp_putU hu20 S hK hP (fun _ h => List.mem_cons_of_mem _ (List.mem_append_right _ (h))) 6 (by decide) (List.mem_cons_of_mem _ (List.mem_append_left _ (List.mem_of_getElem? (i := 6) rfl))) rfl rfl rfl rfl (j := 71) (by simp [un_F, upd]) (by decide) hS (fun _ h => h) dX4_begin_51 (fun H locs hP zH fH hS => ?_)
  refine lv_aload_n hx hb dX4_begin_54 rfl (lv_at hl 1 rfl) ?_
  refine lv_iconst (v := nI 0) hx hb dX4_begin_55 (by decide) ?_
  refine dp_putU hu20 S hK hP (fun _ h => List.mem_cons_of_mem _ (List.mem_append_right _ (h))) 7 (by decide) (List.mem_cons_of_mem _ (List.mem_append_left _ (List.mem_of_getElem? (i := 7) rfl))) rfl rfl rfl rfl (j := 72) (by simp [un_F, upd]) (by decide) hS (fun _ h => h) dX4_begin_56 (fun H locs hP zH fH hS => ?_)
  refine lv_aload_n hx hb dX4_begin_59 rfl (lv_at hl 1 rfl) ?_
  refine lv_iconst (v := nI 0) hx hb dX4_begin_60 (by decide) ?_
  refine dp_putU hu20 S hK hP (fun _ h => List.mem_cons_of_mem _ (List.mem_append_right _ (h))) 8 (by decide) (List.mem_cons_of_mem _ (List.mem_append_left _ (List.mem_of_getElem? (i := 8) rfl))) rfl rfl rfl rfl (j := 73) (by simp [un_F, upd]) (by decide) hS (fun _ h => h) dX4_begin_61 (fun H locs hP zH fH hS => ?_)
  refine lv_aload_n hx hb dX4_begin_64 rfl (lv_at hl 1 rfl) ?_
  refine lv_iconst (v := nI 0) hx hb dX4_begin_65 (by decide) ?_
  refine dp_putU hu20 S hK hP (fun _ h => List.mem_cons_of_mem _ (List.mem_append_right _ (h))) 9 (by decide) (List.mem_cons_of_mem _ (List.mem_append_left _ (List.mem_of_getElem? (i := 9) rfl))) rfl rfl rfl rfl (j := 74) (by simp [un_F, upd]) (by decide) hS (fun _ h => h) dX4_begin_66 (fun H locs hP zH fH hS => ?_)
  exact k_vretM hx hb hr hlk dX4_begin_69 hS (show dp E d (begZ y u x r) _ from hP)
def rm_X1_addUnit : Room := { frames := 1, cells := 0, slots := 0, locals := 23 }
theorem hd_X1_addUnit : k_hd1 yX1_addUnit RX1 2 := by decide +kernel
set_option maxHeartbeats 4000000 in
set_option maxRecDepth 100000 in
theorem c_X1_addUnit_D (l : Launch) (E : ke_E) (d : Nat) (y : Nat → Int32) (n : Nat) (q : Nat) (r : Nat) (hn20 : n < 20) (h0 : y 0 = nI n) : Met l yX1_addUnit wsX1_addUnit rm_X1_addUnit (kp E [.ref d, .int (nI q), .int (nI r)] (dp E d y)) (qm none (bl d 59) (dp E d (upd (begZ y n (nI q) (nI r)) 0 (nI (n + 1))))) 0 0 (bl d 59) := by
  refine k_hd (cc := cX1_addUnit) (maxL := 3) (ret := none) (by decide) rfl (Nat.le_of_ble_eq_true rfl) ?_
  intro p e s m below meth c ls S hr hlk hnm hK hP hl
  have hx := S.1
  have hb := S.2.1
  have hts := S.2.2.2.2
  have hP : dp E d y s.heap := hP
  have hl : lv_has ls 3 [(0, .ref d), (1, .int (nI q)), (2, .int (nI r))] := hl
  have hS : va_S (bl d 59) s.heap s.heap [] := va_S.rf
  refine lv_aload_n hx hb dX1_addUnit_0 rfl (lv_at hl 0 rfl) ?_
  refine k_get S hK hP.1 rfl (fun _ h => List.mem_cons_of_mem _ (List.mem_append_left _ (List.mem_append_right _ (h)))) 4 (by decide) (List.mem_cons_of_mem _ (List.mem_append_left _ (List.mem_append_left _ (List.mem_of_getElem? (i := 0) rfl)))) rfl (v := .int (nI n)) (congrArg (fun x => some (Value.int x)) (h0)) dX1_addUnit_1 ?_
  refine lv_aload_n hx hb dX1_addUnit_4 rfl (lv_at hl 0 rfl) ?_
  refine k_get S hK hP.1 rfl (fun _ h => List.mem_cons_of_mem _ (List.mem_append_left _ (List.mem_append_right _ (h)))) 2 (by decide) (List.mem_cons_of_mem _ (List.mem_append_left _ (List.mem_append_left _ (List.mem_of_getElem? (i := 1) rfl)))) rfl (v := .ref (d + 3)) rfl dX1_addUnit_5 ?_
  refine k_alen hx hb hK (t := 3) rfl hP.2.2.2.1 dX1_addUnit_8 ?_
  refine k_top (y := nI 20) rfl ?_
  refine k_SN (q := (RX1, 60, yX6_isIndex, RX6)) (As := [.int (nI n), .int (nI 20)]) (rest := []) S hK (List.mem_of_getElem? (i := 6) rfl) (c_X6_isIndex_n l E n 20 (by omega) (by omega)) ggX1_addUnit_X6_isIndex rfl hd_X6_isIndex (List.mem_cons_of_mem _ (List.mem_append_left _ (List.mem_append_left _ (List.mem_of_getElem? (i := 2) rfl)))) (List.mem_cons_of_mem _ (List.mem_append_left _ (List.mem_append_left _ (List.mem_of_getElem? (i := 3) rfl)))) ⟨rfl, rfl⟩ ⟨Nat.le_of_ble_eq_true rfl, Nat.le_of_ble_eq_true rfl⟩ trivial rfl hl.1 rfl (Nat.le_of_ble_eq_true rfl) dX1_addUnit_9 ⟨Nat.le_of_ble_eq_true rfl, Nat.le_of_ble_eq_true rfl⟩ ?_
  refine b_eq (tgt := 39) hx hb dX1_addUnit_12 (by decide) (fun h => absurd hn20 h) (fun c12 => ?_)
  refine lv_aload_n hx hb dX1_addUnit_15 rfl (lv_at hl 0 rfl) ?_
  refine k_get S hK hP.1 rfl (fun _ h => List.mem_cons_of_mem _ (List.mem_append_left _ (List.mem_append_right _ (h)))) 2 (by decide) (List.mem_cons_of_mem _ (List.mem_append_left _ (List.mem_append_left _ (List.mem_of_getElem? (i := 1) rfl)))) rfl (v := .ref (d + 3)) rfl dX1_addUnit_16 ?_
  refine lv_aload_n hx hb dX1_addUnit_19 rfl (lv_at hl 0 rfl) ?_
  refine k_get S hK hP.1 rfl (fun _ h => List.mem_cons_of_mem _ (List.mem_append_left _ (List.mem_append_right _ (h)))) 4 (by decide) (List.mem_cons_of_mem _ (List.mem_append_left _ (List.mem_append_left _ (List.mem_of_getElem? (i := 0) rfl)))) rfl (v := .int (nI n)) (congrArg (fun x => some (Value.int x)) (h0)) dX1_addUnit_20 ?_
  refine k_aald hx hb hK (t := 3) rfl hP.2.2.2.1 (by omega) (by decide) (v := d + 2*n + 19) rfl dX1_addUnit_23 ?_
  refine lv_iload_n hx hb dX1_addUnit_24 rfl (lv_at hl 1 rfl) ?_
  refine lv_iload_n hx hb dX1_addUnit_25 rfl (lv_at hl 2 rfl) ?_
  refine k_VM (As := [.int (nI q), .int (nI r)]) (rest := []) S hK (c_X4_begin l E d y n (nI q) (nI r) c12) gX1_addUnit_X4_begin rfl hd_X4_begin ⟨rfl, rfl⟩ ⟨Nat.le_of_ble_eq_true rfl, Nat.le_of_ble_eq_true rfl⟩ (k_recv hK (hP.2.2.2.2.2.2.2.2.1 n c12) rfl) hP rfl hl.1 rfl (Nat.le_of_ble_eq_true rfl) dX1_addUnit_26 ⟨Nat.le_of_ble_eq_true rfl, Nat.le_of_ble_eq_true rfl⟩ hS (fun q h => h) (fun q h => h) (fun H locs hQ zH fH hS => ?_)
  have hP := hQ
  refine lv_aload_n hx hb dX1_addUnit_29 rfl (lv_at hl 0 rfl) ?_
  refine lv_dup hx hb dX1_addUnit_30 rfl ?_
  refine k_get S hK hP.1 rfl (fun _ h => List.mem_cons_of_mem _ (List.mem_append_left _ (List.mem_append_right _ (h)))) 4 (by decide) (List.mem_cons_of_mem _ (List.mem_append_left _ (List.mem_append_left _ (List.mem_of_getElem? (i := 0) rfl)))) rfl (v := .int (nI n)) (congrArg (fun x => some (Value.int x)) (((begZ_lo (by omega)).trans h0))) dX1_addUnit_31 ?_
  refine lv_iconst (v := nI 1) hx hb dX1_addUnit_34 (by decide) ?_
  refine n_iadd (n := n + 1) hx hb dX1_addUnit_35 (by omega) ?_
  refine dp_putD S hK hP (fun _ h => List.mem_cons_of_mem _ (List.mem_append_left _ (List.mem_append_right _ (h)))) 4 (by decide) (List.mem_cons_of_mem _ (List.mem_append_left _ (List.mem_append_left _ (List.mem_of_getElem? (i := 0) rfl)))) rfl rfl rfl rfl (j := 0) (by simp [dk_F, upd]) (by decide) hS (fun _ h => h) dX1_addUnit_36 (fun H locs hP zH fH hS => ?_)
  exact k_vretM hx hb hr hlk dX1_addUnit_39 hS hP
theorem c_X1_addUnit (l : Launch) (E : ke_E) (d : Nat) (z : Nat → Int32) (q r : Nat) (hI : iv z) (hn20 : cn z < 20) : Met l yX1_addUnit wsX1_addUnit rm_X1_addUnit (kp E [.ref d, .int (nI q), .int (nI r)] (dz E d z)) (qm none (bl d 59) (dz E d (rcv z q r))) 0 0 (bl d 59) := by
  refine met_ex (X := Nat → Int32) (C := fun y => y 0 = nI (cn z) ∧ ag (cn z) y z) (P := fun y => dp E d y) (Q0 := fun y => dp E d (upd (begZ y (cn z) (nI q) (nI r)) 0 (nI (cn z + 1)))) (fun y hC => c_X1_addUnit_D l E d y (cn z) q r hn20 hC.1) ?_
  intro H hP
  obtain ⟨c2, y2, h2, a2⟩ := hP
  refine ⟨y2, ⟨(a2 0 (by omega) (by omega) (by omega) (by omega) (by omega)).trans (iv_n hI), a2⟩, h2, fun H1 h => ⟨?_, _, h, ?_⟩⟩
  · rw [cn_rcv hn20]; omega
  · rw [cn_rcv hn20]; exact begZ_ag a2
def rm_X1_scoreLastUnit : Room := { frames := 1, cells := 0, slots := 0, locals := 21 }
theorem hd_X1_scoreLastUnit : k_hd1 yX1_scoreLastUnit RX1 2 := by decide +kernel
set_option maxHeartbeats 4000000 in
set_option maxRecDepth 100000 in
theorem c_X1_scoreLastUnit (l : Launch) (E : ke_E) (d : Nat) (z : Nat → Int32) (u : Nat) (t : Nat) (x : Int32) (hI : iv z) (hcu : cn z = u + 1) (ht4 : t < 4) : Met l yX1_scoreLastUnit wsX1_scoreLastUnit rm_X1_scoreLastUnit (kp E [.ref d, .int (nI t), .int x] (dz E d z)) (qm none (bl d 59) (dz E d (upd z (13*u + t + 64) x))) 0 0 (bl d 59) := by
  refine k_hd (cc := cX1_scoreLastUnit) (maxL := 4) (ret := none) (by decide) rfl (Nat.le_of_ble_eq_true rfl) ?_
  intro p e s m below meth c ls S hr hlk hnm hK hP hl
  have hx := S.1
  have hb := S.2.1
  have hts := S.2.2.2.2
  have hP : dz E d z s.heap := hP
  have hl : lv_has ls 4 [(0, .ref d), (1, .int (nI t)), (2, .int x)] := hl
  have hS : va_S (bl d 59) s.heap s.heap [] := va_S.rf
  have hc20 := iv_c hI
  have hu20 : u < 20 := by omega
  have huc : u < cn z := by omega
  refine lv_aload_n hx hb dX1_scoreLastUnit_0 rfl (lv_at hl 0 rfl) ?_
  refine k_get S hK (dz_d hP) rfl (fun _ h => List.mem_cons_of_mem _ (List.mem_append_left _ (List.mem_append_right _ (h)))) 4 (by decide) (List.mem_cons_of_mem _ (List.mem_append_left _ (List.mem_append_left _ (List.mem_of_getElem? (i := 0) rfl)))) rfl (v := .int (nI (u + 1))) (congrArg (fun x => some (Value.int x)) (((iv_n hI).trans (congrArg nI hcu)))) dX1_scoreLastUnit_1 ?_
  refine lv_iconst (v := nI 1) hx hb dX1_scoreLastUnit_4 (by decide) ?_
  refine n_isub (n := u) hx hb dX1_scoreLastUnit_5 (by omega) ?_
  refine lv_istore_n (lv' := [(3, .int (nI u)), (0, .ref d), (1, .int (nI t)), (2, .int x)]) hx hb dX1_scoreLastUnit_6 rfl hl (by decide) rfl (fun ls hl => ?_)
  refine lv_iload_n hx hb dX1_scoreLastUnit_7 rfl (lv_at hl 0 rfl) ?_
  refine lv_aload_n hx hb dX1_scoreLastUnit_8 rfl (lv_at hl 1 rfl) ?_
  refine k_get S hK (dz_d hP) rfl (fun _ h => List.mem_cons_of_mem _ (List.mem_append_left _ (List.mem_append_right _ (h)))) 2 (by decide) (List.mem_cons_of_mem _ (List.mem_append_left _ (List.mem_append_left _ (List.mem_of_getElem? (i := 1) rfl)))) rfl (v := .ref (d + 3)) rfl dX1_scoreLastUnit_9 ?_
  refine k_alen hx hb hK (t := 3) rfl (dz_ua hP) dX1_scoreLastUnit_12 ?_
  refine k_top (y := nI 20) rfl ?_
  refine k_SN (q := (RX1, 60, yX6_isIndex, RX6)) (As := [.int (nI u), .int (nI 20)]) (rest := []) S hK (List.mem_of_getElem? (i := 6) rfl) (c_X6_isIndex_n l E u 20 (by omega) (by omega)) ggX1_scoreLastUnit_X6_isIndex rfl hd_X6_isIndex (List.mem_cons_of_mem _ (List.mem_append_left _ (List.mem_append_left _ (List.mem_of_getElem? (i := 3) rfl)))) (List.mem_cons_of_mem _ (List.mem_append_left _ (List.mem_append_left _ (List.mem_of_getElem? (i := 4) rfl)))) ⟨rfl, rfl⟩ ⟨Nat.le_of_ble_eq_true rfl, Nat.le_of_ble_eq_true rfl⟩ trivial rfl hl.1 rfl (Nat.le_of_ble_eq_true rfl) dX1_scoreLastUnit_13 ⟨Nat.le_of_ble_eq_true rfl, Nat.le_of_ble_eq_true rfl⟩ ?_
  refine b_eq (tgt := 48) hx hb dX1_scoreLastUnit_16 (by decide) (fun h => absurd hu20 h) (fun c16 => ?_)
  refine lv_iload_n hx hb dX1_scoreLastUnit_19 rfl (lv_at hl 2 rfl) ?_
  refine lv_aload_n hx hb dX1_scoreLastUnit_20 rfl (lv_at hl 1 rfl) ?_
  refine k_get S hK (dz_d hP) rfl (fun _ h => List.mem_cons_of_mem _ (List.mem_append_left _ (List.mem_append_right _ (h)))) 2 (by decide) (List.mem_cons_of_mem _ (List.mem_append_left _ (List.mem_append_left _ (List.mem_of_getElem? (i := 1) rfl)))) rfl (v := .ref (d + 3)) rfl dX1_scoreLastUnit_21 ?_
  refine lv_iload_n hx hb dX1_scoreLastUnit_24 rfl (lv_at hl 0 rfl) ?_
  refine k_aald hx hb hK (t := 3) rfl (dz_ua hP) (by omega) (by decide) (v := d + 2*u + 19) rfl dX1_scoreLastUnit_25 ?_
  refine k_get S hK (dz_u hP u huc) rfl (fun _ h => List.mem_cons_of_mem _ (List.mem_append_right _ (h))) 0 (by decide) (List.mem_cons_of_mem _ (List.mem_append_left _ (List.mem_append_left _ (List.mem_of_getElem? (i := 2) rfl)))) rfl (v := .ref (d + 2*u + 20)) rfl dX1_scoreLastUnit_26 ?_
  refine k_alen hx hb hK (t := 0) rfl (dz_sc hP u huc) dX1_scoreLastUnit_29 ?_
  refine k_top (y := nI 4) rfl ?_
  refine k_SN (q := (RX1, 60, yX6_isIndex, RX6)) (As := [.int (nI t), .int (nI 4)]) (rest := []) S hK (List.mem_of_getElem? (i := 6) rfl) (c_X6_isIndex_n l E t 4 (by omega) (by omega)) ggX1_scoreLastUnit_X6_isIndex rfl hd_X6_isIndex (List.mem_cons_of_mem _ (List.mem_append_left _ (List.mem_append_left _ (List.mem_of_getElem? (i := 3) rfl)))) (List.mem_cons_of_mem _ (List.mem_append_left _ (List.mem_append_left _ (List.mem_of_getElem? (i := 4) rfl)))) ⟨rfl, rfl⟩ ⟨Nat.le_of_ble_eq_true rfl, Nat.le_of_ble_eq_true rfl⟩ trivial rfl hl.1 rfl (Nat.le_of_ble_eq_true rfl) dX1_scoreLastUnit_30 ⟨Nat.le_of_ble_eq_true rfl, Nat.le_of_ble_eq_true rfl⟩ ?_
  refine b_eq (tgt := 48) hx hb dX1_scoreLastUnit_33 (by decide) (fun h => absurd ht4 h) (fun c33 => ?_)
  refine lv_aload_n hx hb dX1_scoreLastUnit_36 rfl (lv_at hl 1 rfl) ?_
  refine k_get S hK (dz_d hP) rfl (fun _ h => List.mem_cons_of_mem _ (List.mem_append_left _ (List.mem_append_right _ (h)))) 2 (by decide) (List.mem_cons_of_mem _ (List.mem_append_left _ (List.mem_append_left _ (List.mem_of_getElem? (i := 1) rfl)))) rfl (v := .ref (d + 3)) rfl dX1_scoreLastUnit_37 ?_
  refine lv_iload_n hx hb dX1_scoreLastUnit_40 rfl (lv_at hl 0 rfl) ?_
  refine k_aald hx hb hK (t := 3) rfl (dz_ua hP) (by omega) (by decide) (v := d + 2*u + 19) rfl dX1_scoreLastUnit_41 ?_
  refine k_get S hK (dz_u hP u huc) rfl (fun _ h => List.mem_cons_of_mem _ (List.mem_append_right _ (h))) 0 (by decide) (List.mem_cons_of_mem _ (List.mem_append_left _ (List.mem_append_left _ (List.mem_of_getElem? (i := 2) rfl)))) rfl (v := .ref (d + 2*u + 20)) rfl dX1_scoreLastUnit_42 ?_
  refine lv_iload_n hx hb dX1_scoreLastUnit_45 rfl (lv_at hl 2 rfl) ?_
  refine lv_iload_n hx hb dX1_scoreLastUnit_46 rfl (lv_at hl 3 rfl) ?_
  refine dz_astU huc hx hb hK hP (by omega) hS (fun _ h => h) dX1_scoreLastUnit_47 (fun H locs hP zH fH hS => ?_)
  exact k_vretM hx hb hr hlk dX1_scoreLastUnit_48 hS hP
