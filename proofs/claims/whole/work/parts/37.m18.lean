/-! ===== the class's digest ===== -/
theorem gs_e {z : Nat → Int32} {i k : Nat} (h : k < 6) : gsV z (6*i + k) = gdV z i k := by
  unfold gsV
  rw [show (6*i + k) / 6 = i by omega, show (6*i + k) % 6 = k by omega]
theorem vs_e {z : Nat → Int32} {i k : Nat} (h : k < 10) : vsV z (10*i + k) = veV z i k := by
  unfold vsV
  rw [show (10*i + k) / 10 = i by omega, show (10*i + k) % 10 = k by omega]
def rm_X6_withUnit : Room := { frames := 5, cells := 0, slots := 0, locals := 113 }
theorem hd_X6_withUnit : k_hd1 yX6_withUnit RX6 2 := by decide +kernel
set_option maxHeartbeats 4000000 in
set_option maxRecDepth 100000 in
theorem c_X6_withUnit (l : Launch) (E : ke_E) (o : Nat) (z : Nat → Int32) (x : Int64) (u : Nat) (hI : iv z) (hu : u < cn z) : Met l yX6_withUnit wsX6_withUnit rm_X6_withUnit (kp E [.ref o, .long x, .int (nI u)] (fun H => gg E o H ∧ dz E (o + 1) z H)) (qp (some (.long (muH z u x)))) 0 0 nof := by
  refine k_hd (cc := cX6_withUnit) (maxL := 7) (ret := (some .long)) (by decide) rfl (Nat.le_of_ble_eq_true rfl) ?_
  intro p e s m below meth c ls S hr hlk hnm hK hP hl
  have hx := S.1
  have hb := S.2.1
  have hts := S.2.2.2.2
  obtain ⟨hP0, hP1⟩ := hP
  have hl : lv_has ls 7 [(0, .ref o), (1, .long x), (3, .int (nI u))] := hl
  have hc20 := iv_c hI
  have J71 : ∀ (n_ : Nat), ∀ (k : Nat), k ≤ 3 → 3 < k + n_ → ∀ (ls : Array Slot), lv_has ls 7 [(0, .ref o), (3, .int (nI u)), (4, .long (fl (rpV z u) (mx (mx (mx (mx (fl (unV z u) x 14) (wy1 z u)) (wy2 z u)) (wy3 z u)) (wy4 z u)) k)), (6, .int (nI k))] → W p l e (headSpec wsX6_withUnit rm_X6_withUnit).room s m ([.ref o, .long x, .int (nI u)] : List Value).toArray below meth c s.heap [] 0 0 (MQ below (qp (some (.long (muH z u x)))) ([.ref o, .long x, .int (nI u)] : List Value).toArray s 0 0 nof) (F0 m 71 ls []) := by
    intro n_
    induction n_ with
    | zero =>
      intro k hk hn_ _ _
      exact absurd hn_ (by omega)
    | succ n_ ih =>
      intro k hk hn_ ls hl
      refine lv_iload hx hb dX6_withUnit_71 (lv_at hl 3 rfl) ?_
      refine lv_iconst (v := nI 2) hx hb dX6_withUnit_73 (by decide) ?_
      refine n_igt (tgt := 100) hx hb dX6_withUnit_74 (by decide) (by omega) (by omega) (fun c74 => ?_) (fun c74 => ?_)
      · refine lv_ldc2 (v := 31) hx hb S.2.2.2.1 (hts _ (List.mem_cons_of_mem _ (List.mem_append_left _ (List.mem_append_left _ (List.mem_append_left _ (List.mem_append_left _ (List.mem_append_left _ (List.mem_append_left _ (List.mem_append_left _ (List.mem_append_left _ (List.mem_of_getElem? (i := 0) rfl))))))))))) dX6_withUnit_100 ?_
        refine lv_lload hx hb dX6_withUnit_103 (lv_at hl 2 rfl) ?_
        refine lv_lmul hx hb dX6_withUnit_105 ?_
        refine lv_aload_n hx hb dX6_withUnit_106 rfl (lv_at hl 0 rfl) ?_
        refine lv_iload_n hx hb dX6_withUnit_107 rfl (lv_at hl 1 rfl) ?_
        refine k_V (As := [.int (nI u)]) (rest := [.long (31 * (fl (rpV z u) (mx (mx (mx (mx (fl (unV z u) x 14) (wy1 z u)) (wy2 z u)) (wy3 z u)) (wy4 z u)) k))]) S hK (c_X6_bestRoute l E o z u hI hu) gX6_withUnit_X6_bestRoute rfl hd_X6_bestRoute ⟨rfl, rfl⟩ ⟨Nat.le_of_ble_eq_true rfl, Nat.le_of_ble_eq_true rfl⟩ (k_recv hK hP0 rfl) ⟨hP0, hP1⟩ rfl hl.1 rfl (Nat.le_of_ble_eq_true rfl) dX6_withUnit_108 ⟨Nat.le_of_ble_eq_true rfl, Nat.le_of_ble_eq_true rfl⟩ ?_
        refine lv_i2l hx hb dX6_withUnit_111 rfl ?_
        refine lv_ladd hx hb dX6_withUnit_112 ?_
        refine lv_lstore (lv' := [(4, .long ((31 * (fl (rpV z u) (mx (mx (mx (mx (fl (unV z u) x 14) (wy1 z u)) (wy2 z u)) (wy3 z u)) (wy4 z u)) k)) + ((rt z u 5).1.toInt64))), (0, .ref o), (3, .int (nI u)), (6, .int (nI k))]) hx hb dX6_withUnit_113 hl (by decide) rfl (fun ls hl => ?_)
        refine lv_ldc2 (v := 31) hx hb S.2.2.2.1 (hts _ (List.mem_cons_of_mem _ (List.mem_append_left _ (List.mem_append_left _ (List.mem_append_left _ (List.mem_append_left _ (List.mem_append_left _ (List.mem_append_left _ (List.mem_append_left _ (List.mem_append_left _ (List.mem_of_getElem? (i := 0) rfl))))))))))) dX6_withUnit_115 ?_
        refine lv_lload hx hb dX6_withUnit_118 (lv_at hl 0 rfl) ?_
        refine lv_lmul hx hb dX6_withUnit_120 ?_
        refine lv_aload_n hx hb dX6_withUnit_121 rfl (lv_at hl 1 rfl) ?_
        refine lv_iload_n hx hb dX6_withUnit_122 rfl (lv_at hl 2 rfl) ?_
        refine k_V (As := [.int (nI u)]) (rest := [.long (31 * ((31 * (fl (rpV z u) (mx (mx (mx (mx (fl (unV z u) x 14) (wy1 z u)) (wy2 z u)) (wy3 z u)) (wy4 z u)) k)) + ((rt z u 5).1.toInt64)))]) S hK (c_X6_claimable l E o z u hI hu) gX6_withUnit_X6_claimable rfl hd_X6_claimable ⟨rfl, rfl⟩ ⟨Nat.le_of_ble_eq_true rfl, Nat.le_of_ble_eq_true rfl⟩ (k_recv hK hP0 rfl) ⟨hP0, hP1⟩ rfl hl.1 rfl (Nat.le_of_ble_eq_true rfl) dX6_withUnit_123 ⟨Nat.le_of_ble_eq_true rfl, Nat.le_of_ble_eq_true rfl⟩ ?_
        refine lv_i2l hx hb dX6_withUnit_126 rfl ?_
        refine lv_ladd hx hb dX6_withUnit_127 ?_
        exact k_lret hx hb hr hlk dX6_withUnit_128 (by rw [show k = 3 by omega]; rfl)
      · refine lv_ldc2 (v := 31) hx hb S.2.2.2.1 (hts _ (List.mem_cons_of_mem _ (List.mem_append_left _ (List.mem_append_left _ (List.mem_append_left _ (List.mem_append_left _ (List.mem_append_left _ (List.mem_append_left _ (List.mem_append_left _ (List.mem_append_left _ (List.mem_of_getElem? (i := 0) rfl))))))))))) dX6_withUnit_77 ?_
        refine lv_lload hx hb dX6_withUnit_80 (lv_at hl 2 rfl) ?_
        refine lv_lmul hx hb dX6_withUnit_82 ?_
        refine lv_aload_n hx hb dX6_withUnit_83 rfl (lv_at hl 0 rfl) ?_
        refine lv_iload_n hx hb dX6_withUnit_84 rfl (lv_at hl 1 rfl) ?_
        refine lv_iload hx hb dX6_withUnit_85 (lv_at hl 3 rfl) ?_
        refine k_V (As := [.int (nI u), .int (nI k)]) (rest := [.long (31 * (fl (rpV z u) (mx (mx (mx (mx (fl (unV z u) x 14) (wy1 z u)) (wy2 z u)) (wy3 z u)) (wy4 z u)) k))]) S hK (c_X6_ifRepaired l E o z u k hI hu (by omega)) gX6_withUnit_X6_ifRepaired rfl hd_X6_ifRepaired ⟨rfl, rfl⟩ ⟨Nat.le_of_ble_eq_true rfl, Nat.le_of_ble_eq_true rfl⟩ (k_recv hK hP0 rfl) ⟨hP0, hP1⟩ rfl hl.1 rfl (Nat.le_of_ble_eq_true rfl) dX6_withUnit_87 ⟨Nat.le_of_ble_eq_true rfl, Nat.le_of_ble_eq_true rfl⟩ ?_
        refine lv_i2l hx hb dX6_withUnit_90 rfl ?_
        refine lv_ladd hx hb dX6_withUnit_91 ?_
        refine lv_lstore (lv' := [(4, .long ((31 * (fl (rpV z u) (mx (mx (mx (mx (fl (unV z u) x 14) (wy1 z u)) (wy2 z u)) (wy3 z u)) (wy4 z u)) k)) + ((rpV z u k).toInt64))), (0, .ref o), (3, .int (nI u)), (6, .int (nI k))]) hx hb dX6_withUnit_92 hl (by decide) rfl (fun ls hl => ?_)
        refine lv_iinc (v := nI (k + 1)) (lv' := [(6, .int (nI (k + 1))), (4, .long ((31 * (fl (rpV z u) (mx (mx (mx (mx (fl (unV z u) x 14) (wy1 z u)) (wy2 z u)) (wy3 z u)) (wy4 z u)) k)) + ((rpV z u k).toInt64))), (0, .ref o), (3, .int (nI u))]) hx hb dX6_withUnit_94 hl (k := 3) rfl (inc_1 _) (by decide) rfl (fun ls hl => ?_)
        refine lv_goto (tgt := 71) hx hb dX6_withUnit_97 (by decide) ?_
        have hl : lv_has ls 7 [(0, .ref o), (3, .int (nI u)), (4, .long (fl (rpV z u) (mx (mx (mx (mx (fl (unV z u) x 14) (wy1 z u)) (wy2 z u)) (wy3 z u)) (wy4 z u)) (k + 1))), (6, .int (nI (k + 1)))] := by
          have h9 := lv_sub (l' := [(0, .ref o), (3, .int (nI u)), (4, .long ((31 * (fl (rpV z u) (mx (mx (mx (mx (fl (unV z u) x 14) (wy1 z u)) (wy2 z u)) (wy3 z u)) (wy4 z u)) k)) + ((rpV z u k).toInt64))), (6, .int (nI (k + 1)))]) hl [2, 3, 1, 0] rfl
          rw [show (.long (fl (rpV z u) (mx (mx (mx (mx (fl (unV z u) x 14) (wy1 z u)) (wy2 z u)) (wy3 z u)) (wy4 z u)) (k + 1)) : Value) = .long ((31 * (fl (rpV z u) (mx (mx (mx (mx (fl (unV z u) x 14) (wy1 z u)) (wy2 z u)) (wy3 z u)) (wy4 z u)) k)) + ((rpV z u k).toInt64)) from congrArg Value.long (rfl)]
          exact h9
        exact ih (k + 1) (by omega) (by omega) _ hl
  have J36 : ∀ (ls : Array Slot), lv_has ls 7 [(0, .ref o), (3, .int (nI u)), (4, .long (fl (unV z u) x 14))] → W p l e (headSpec wsX6_withUnit rm_X6_withUnit).room s m ([.ref o, .long x, .int (nI u)] : List Value).toArray below meth c s.heap [] 0 0 (MQ below (qp (some (.long (muH z u x)))) ([.ref o, .long x, .int (nI u)] : List Value).toArray s 0 0 nof) (F0 m 36 ls []) := by
    intro ls hl
    refine lv_iconst (v := nI 1) hx hb dX6_withUnit_36 (by decide) ?_
    refine lv_istore (lv' := [(6, .int (nI 1)), (0, .ref o), (3, .int (nI u)), (4, .long (fl (unV z u) x 14))]) hx hb dX6_withUnit_37 hl (by decide) rfl (fun ls hl => ?_)
    refine lv_iload hx hb dX6_withUnit_39 (lv_at hl 0 rfl) ?_
    refine lv_iconst (v := nI 4) hx hb dX6_withUnit_41 (by decide) ?_
    refine n_igt (tgt := 68) hx hb dX6_withUnit_42 (by decide) (by omega) (by omega) (fun h => absurd h (by decide)) (fun c42 => ?_)
    refine lv_ldc2 (v := 31) hx hb S.2.2.2.1 (hts _ (List.mem_cons_of_mem _ (List.mem_append_left _ (List.mem_append_left _ (List.mem_append_left _ (List.mem_append_left _ (List.mem_append_left _ (List.mem_append_left _ (List.mem_append_left _ (List.mem_append_left _ (List.mem_of_getElem? (i := 0) rfl))))))))))) dX6_withUnit_45 ?_
    refine lv_lload hx hb dX6_withUnit_48 (lv_at hl 3 rfl) ?_
    refine lv_lmul hx hb dX6_withUnit_50 ?_
    refine lv_aload_n hx hb dX6_withUnit_51 rfl (lv_at hl 1 rfl) ?_
    refine lv_iload_n hx hb dX6_withUnit_52 rfl (lv_at hl 2 rfl) ?_
    refine lv_iload hx hb dX6_withUnit_53 (lv_at hl 0 rfl) ?_
    refine k_V (As := [.int (nI u), .int (nI 1)]) (rest := [.long (31 * (fl (unV z u) x 14))]) S hK (c_X6_whyNot_1 l E o z u hI hu) gX6_withUnit_X6_whyNot rfl hd_X6_whyNot ⟨rfl, rfl⟩ ⟨Nat.le_of_ble_eq_true rfl, Nat.le_of_ble_eq_true rfl⟩ (k_recv hK hP0 rfl) ⟨hP0, hP1⟩ rfl hl.1 rfl (Nat.le_of_ble_eq_true rfl) dX6_withUnit_55 ⟨Nat.le_of_ble_eq_true rfl, Nat.le_of_ble_eq_true rfl⟩ ?_
    refine lv_i2l hx hb dX6_withUnit_58 rfl ?_
    refine lv_ladd hx hb dX6_withUnit_59 ?_
    refine lv_lstore (lv' := [(4, .long ((31 * (fl (unV z u) x 14)) + ((wy1 z u).toInt64))), (6, .int (nI 1)), (0, .ref o), (3, .int (nI u))]) hx hb dX6_withUnit_60 hl (by decide) rfl (fun ls hl => ?_)
    refine lv_iinc (v := nI 2) (lv' := [(6, .int (nI 2)), (4, .long ((31 * (fl (unV z u) x 14)) + ((wy1 z u).toInt64))), (0, .ref o), (3, .int (nI u))]) hx hb dX6_withUnit_62 hl (k := 1) rfl (by decide) (by decide) rfl (fun ls hl => ?_)
    refine lv_goto (tgt := 39) hx hb dX6_withUnit_65 (by decide) ?_
    refine lv_iload hx hb dX6_withUnit_39 (lv_at hl 0 rfl) ?_
    refine lv_iconst (v := nI 4) hx hb dX6_withUnit_41 (by decide) ?_
    refine n_igt (tgt := 68) hx hb dX6_withUnit_42 (by decide) (by omega) (by omega) (fun h => absurd h (by decide)) (fun c42_1 => ?_)
    refine lv_ldc2 (v := 31) hx hb S.2.2.2.1 (hts _ (List.mem_cons_of_mem _ (List.mem_append_left _ (List.mem_append_left _ (List.mem_append_left _ (List.mem_append_left _ (List.mem_append_left _ (List.mem_append_left _ (List.mem_append_left _ (List.mem_append_left _ (List.mem_of_getElem? (i := 0) rfl))))))))))) dX6_withUnit_45 ?_
    refine lv_lload hx hb dX6_withUnit_48 (lv_at hl 1 rfl) ?_
    refine lv_lmul hx hb dX6_withUnit_50 ?_
    refine lv_aload_n hx hb dX6_withUnit_51 rfl (lv_at hl 2 rfl) ?_
    refine lv_iload_n hx hb dX6_withUnit_52 rfl (lv_at hl 3 rfl) ?_
    refine lv_iload hx hb dX6_withUnit_53 (lv_at hl 0 rfl) ?_
    refine k_V (As := [.int (nI u), .int (nI 2)]) (rest := [.long (31 * ((31 * (fl (unV z u) x 14)) + ((wy1 z u).toInt64)))]) S hK (c_X6_whyNot_2 l E o z u hI hu) gX6_withUnit_X6_whyNot rfl hd_X6_whyNot ⟨rfl, rfl⟩ ⟨Nat.le_of_ble_eq_true rfl, Nat.le_of_ble_eq_true rfl⟩ (k_recv hK hP0 rfl) ⟨hP0, hP1⟩ rfl hl.1 rfl (Nat.le_of_ble_eq_true rfl) dX6_withUnit_55 ⟨Nat.le_of_ble_eq_true rfl, Nat.le_of_ble_eq_true rfl⟩ ?_
    refine lv_i2l hx hb dX6_withUnit_58 rfl ?_
    refine lv_ladd hx hb dX6_withUnit_59 ?_
    refine lv_lstore (lv' := [(4, .long ((31 * ((31 * (fl (unV z u) x 14)) + ((wy1 z u).toInt64))) + ((wy2 z u).toInt64))), (6, .int (nI 2)), (0, .ref o), (3, .int (nI u))]) hx hb dX6_withUnit_60 hl (by decide) rfl (fun ls hl => ?_)
    refine lv_iinc (v := nI 3) (lv' := [(6, .int (nI 3)), (4, .long ((31 * ((31 * (fl (unV z u) x 14)) + ((wy1 z u).toInt64))) + ((wy2 z u).toInt64))), (0, .ref o), (3, .int (nI u))]) hx hb dX6_withUnit_62 hl (k := 1) rfl (by decide) (by decide) rfl (fun ls hl => ?_)
    refine lv_goto (tgt := 39) hx hb dX6_withUnit_65 (by decide) ?_
    refine lv_iload hx hb dX6_withUnit_39 (lv_at hl 0 rfl) ?_
    refine lv_iconst (v := nI 4) hx hb dX6_withUnit_41 (by decide) ?_
    refine n_igt (tgt := 68) hx hb dX6_withUnit_42 (by decide) (by omega) (by omega) (fun h => absurd h (by decide)) (fun c42_2 => ?_)
    refine lv_ldc2 (v := 31) hx hb S.2.2.2.1 (hts _ (List.mem_cons_of_mem _ (List.mem_append_left _ (List.mem_append_left _ (List.mem_append_left _ (List.mem_append_left _ (List.mem_append_left _ (List.mem_append_left _ (List.mem_append_left _ (List.mem_append_left _ (List.mem_of_getElem? (i := 0) rfl))))))))))) dX6_withUnit_45 ?_
    refine lv_lload hx hb dX6_withUnit_48 (lv_at hl 1 rfl) ?_
    refine lv_lmul hx hb dX6_withUnit_50 ?_
    refine lv_aload_n hx hb dX6_withUnit_51 rfl (lv_at hl 2 rfl) ?_
    refine lv_iload_n hx hb dX6_withUnit_52 rfl (lv_at hl 3 rfl) ?_
    refine lv_iload hx hb dX6_withUnit_53 (lv_at hl 0 rfl) ?_
    refine k_V (As := [.int (nI u), .int (nI 3)]) (rest := [.long (31 * ((31 * ((31 * (fl (unV z u) x 14)) + ((wy1 z u).toInt64))) + ((wy2 z u).toInt64)))]) S hK (c_X6_whyNot_3 l E o z u hI hu) gX6_withUnit_X6_whyNot rfl hd_X6_whyNot ⟨rfl, rfl⟩ ⟨Nat.le_of_ble_eq_true rfl, Nat.le_of_ble_eq_true rfl⟩ (k_recv hK hP0 rfl) ⟨hP0, hP1⟩ rfl hl.1 rfl (Nat.le_of_ble_eq_true rfl) dX6_withUnit_55 ⟨Nat.le_of_ble_eq_true rfl, Nat.le_of_ble_eq_true rfl⟩ ?_
    refine lv_i2l hx hb dX6_withUnit_58 rfl ?_
    refine lv_ladd hx hb dX6_withUnit_59 ?_
    refine lv_lstore (lv' := [(4, .long ((31 * ((31 * ((31 * (fl (unV z u) x 14)) + ((wy1 z u).toInt64))) + ((wy2 z u).toInt64))) + ((wy3 z u).toInt64))), (6, .int (nI 3)), (0, .ref o), (3, .int (nI u))]) hx hb dX6_withUnit_60 hl (by decide) rfl (fun ls hl => ?_)
    refine lv_iinc (v := nI 4) (lv' := [(6, .int (nI 4)), (4, .long ((31 * ((31 * ((31 * (fl (unV z u) x 14)) + ((wy1 z u).toInt64))) + ((wy2 z u).toInt64))) + ((wy3 z u).toInt64))), (0, .ref o), (3, .int (nI u))]) hx hb dX6_withUnit_62 hl (k := 1) rfl (by decide) (by decide) rfl (fun ls hl => ?_)
    refine lv_goto (tgt := 39) hx hb dX6_withUnit_65 (by decide) ?_
    refine lv_iload hx hb dX6_withUnit_39 (lv_at hl 0 rfl) ?_
    refine lv_iconst (v := nI 4) hx hb dX6_withUnit_41 (by decide) ?_
    refine n_igt (tgt := 68) hx hb dX6_withUnit_42 (by decide) (by omega) (by omega) (fun h => absurd h (by decide)) (fun c42_3 => ?_)
    refine lv_ldc2 (v := 31) hx hb S.2.2.2.1 (hts _ (List.mem_cons_of_mem _ (List.mem_append_left _ (List.mem_append_left _ (List.mem_append_left _ (List.mem_append_left _ (List.mem_append_left _ (List.mem_append_left _ (List.mem_append_left _ (List.mem_append_left _ (List.mem_of_getElem? (i := 0) rfl))))))))))) dX6_withUnit_45 ?_
    refine lv_lload hx hb dX6_withUnit_48 (lv_at hl 1 rfl) ?_
    refine lv_lmul hx hb dX6_withUnit_50 ?_
    refine lv_aload_n hx hb dX6_withUnit_51 rfl (lv_at hl 2 rfl) ?_
    refine lv_iload_n hx hb dX6_withUnit_52 rfl (lv_at hl 3 rfl) ?_
    refine lv_iload hx hb dX6_withUnit_53 (lv_at hl 0 rfl) ?_
    refine k_V (As := [.int (nI u), .int (nI 4)]) (rest := [.long (31 * ((31 * ((31 * ((31 * (fl (unV z u) x 14)) + ((wy1 z u).toInt64))) + ((wy2 z u).toInt64))) + ((wy3 z u).toInt64)))]) S hK (c_X6_whyNot_4 l E o z u hI hu) gX6_withUnit_X6_whyNot rfl hd_X6_whyNot ⟨rfl, rfl⟩ ⟨Nat.le_of_ble_eq_true rfl, Nat.le_of_ble_eq_true rfl⟩ (k_recv hK hP0 rfl) ⟨hP0, hP1⟩ rfl hl.1 rfl (Nat.le_of_ble_eq_true rfl) dX6_withUnit_55 ⟨Nat.le_of_ble_eq_true rfl, Nat.le_of_ble_eq_true rfl⟩ ?_
    refine lv_i2l hx hb dX6_withUnit_58 rfl ?_
    refine lv_ladd hx hb dX6_withUnit_59 ?_
    refine lv_lstore (lv' := [(4, .long ((31 * ((31 * ((31 * ((31 * (fl (unV z u) x 14)) + ((wy1 z u).toInt64))) + ((wy2 z u).toInt64))) + ((wy3 z u).toInt64))) + ((wy4 z u).toInt64))), (6, .int (nI 4)), (0, .ref o), (3, .int (nI u))]) hx hb dX6_withUnit_60 hl (by decide) rfl (fun ls hl => ?_)
    refine lv_iinc (v := nI 5) (lv' := [(6, .int (nI 5)), (4, .long ((31 * ((31 * ((31 * ((31 * (fl (unV z u) x 14)) + ((wy1 z u).toInt64))) + ((wy2 z u).toInt64))) + ((wy3 z u).toInt64))) + ((wy4 z u).toInt64))), (0, .ref o), (3, .int (nI u))]) hx hb dX6_withUnit_62 hl (k := 1) rfl (by decide) (by decide) rfl (fun ls hl => ?_)
    refine lv_goto (tgt := 39) hx hb dX6_withUnit_65 (by decide) ?_
    refine lv_iload hx hb dX6_withUnit_39 (lv_at hl 0 rfl) ?_
    refine lv_iconst (v := nI 4) hx hb dX6_withUnit_41 (by decide) ?_
    refine n_igt (tgt := 68) hx hb dX6_withUnit_42 (by decide) (by omega) (by omega) (fun c42_4 => ?_) (fun h => absurd h (by decide))
    refine lv_iconst (v := nI 0) hx hb dX6_withUnit_68 (by decide) ?_
    refine lv_istore (lv' := [(6, .int (nI 0)), (4, .long ((31 * ((31 * ((31 * ((31 * (fl (unV z u) x 14)) + ((wy1 z u).toInt64))) + ((wy2 z u).toInt64))) + ((wy3 z u).toInt64))) + ((wy4 z u).toInt64))), (0, .ref o), (3, .int (nI u))]) hx hb dX6_withUnit_69 hl (by decide) rfl (fun ls hl => ?_)
    have hl : lv_has ls 7 [(0, .ref o), (3, .int (nI u)), (4, .long (fl (rpV z u) (mx (mx (mx (mx (fl (unV z u) x 14) (wy1 z u)) (wy2 z u)) (wy3 z u)) (wy4 z u)) 0)), (6, .int (nI 0))] := by
      have h9 := lv_sub (l' := [(0, .ref o), (3, .int (nI u)), (4, .long ((31 * ((31 * ((31 * ((31 * (fl (unV z u) x 14)) + ((wy1 z u).toInt64))) + ((wy2 z u).toInt64))) + ((wy3 z u).toInt64))) + ((wy4 z u).toInt64))), (6, .int (nI 0))]) hl [2, 3, 1, 0] rfl
      rw [show (.long (fl (rpV z u) (mx (mx (mx (mx (fl (unV z u) x 14) (wy1 z u)) (wy2 z u)) (wy3 z u)) (wy4 z u)) 0) : Value) = .long ((31 * ((31 * ((31 * ((31 * (fl (unV z u) x 14)) + ((wy1 z u).toInt64))) + ((wy2 z u).toInt64))) + ((wy3 z u).toInt64))) + ((wy4 z u).toInt64)) from congrArg Value.long (rfl)]
      exact h9
    exact J71 (3 + 1) 0 (by omega) (by omega) _ hl
  have J6 : ∀ (n_ : Nat), ∀ (k : Nat), k ≤ 14 → 14 < k + n_ → ∀ (ls : Array Slot), lv_has ls 7 [(0, .ref o), (3, .int (nI u)), (4, .long (fl (unV z u) x k)), (6, .int (nI k))] → W p l e (headSpec wsX6_withUnit rm_X6_withUnit).room s m ([.ref o, .long x, .int (nI u)] : List Value).toArray below meth c s.heap [] 0 0 (MQ below (qp (some (.long (muH z u x)))) ([.ref o, .long x, .int (nI u)] : List Value).toArray s 0 0 nof) (F0 m 6 ls []) := by
    intro n_
    induction n_ with
    | zero =>
      intro k hk hn_ _ _
      exact absurd hn_ (by omega)
    | succ n_ ih =>
      intro k hk hn_ ls hl
      refine lv_iload hx hb dX6_withUnit_6 (lv_at hl 3 rfl) ?_
      refine lv_bipush (v := nI 13) hx hb dX6_withUnit_8 (by decide) ?_
      refine n_igt (tgt := 36) hx hb dX6_withUnit_10 (by decide) (by omega) (by omega) (fun c10 => ?_) (fun c10 => ?_)
      · have hl : lv_has ls 7 [(0, .ref o), (3, .int (nI u)), (4, .long (fl (unV z u) x 14))] := by
          have h9 := lv_sub (l' := [(0, .ref o), (3, .int (nI u)), (4, .long (fl (unV z u) x k))]) hl [0, 1, 2] rfl
          rw [show (.long (fl (unV z u) x 14) : Value) = .long (fl (unV z u) x k) from congrArg Value.long (by rw [show k = 14 by omega])]
          exact h9
        exact J36 _ hl
      · refine lv_ldc2 (v := 31) hx hb S.2.2.2.1 (hts _ (List.mem_cons_of_mem _ (List.mem_append_left _ (List.mem_append_left _ (List.mem_append_left _ (List.mem_append_left _ (List.mem_append_left _ (List.mem_append_left _ (List.mem_append_left _ (List.mem_append_left _ (List.mem_of_getElem? (i := 0) rfl))))))))))) dX6_withUnit_13 ?_
        refine lv_lload hx hb dX6_withUnit_16 (lv_at hl 2 rfl) ?_
        refine lv_lmul hx hb dX6_withUnit_18 ?_
        refine lv_aload_n hx hb dX6_withUnit_19 rfl (lv_at hl 0 rfl) ?_
        refine lv_iload_n hx hb dX6_withUnit_20 rfl (lv_at hl 1 rfl) ?_
        refine lv_iload hx hb dX6_withUnit_21 (lv_at hl 3 rfl) ?_
        refine k_V (As := [.int (nI u), .int (nI k)]) (rest := [.long (31 * (fl (unV z u) x k))]) S hK (c_X6_unit l E o z u k hI hu (by omega)) gX6_withUnit_X6_unit rfl hd_X6_unit ⟨rfl, rfl⟩ ⟨Nat.le_of_ble_eq_true rfl, Nat.le_of_ble_eq_true rfl⟩ (k_recv hK hP0 rfl) ⟨hP0, hP1⟩ rfl hl.1 rfl (Nat.le_of_ble_eq_true rfl) dX6_withUnit_23 ⟨Nat.le_of_ble_eq_true rfl, Nat.le_of_ble_eq_true rfl⟩ ?_
        refine lv_i2l hx hb dX6_withUnit_26 rfl ?_
        refine lv_ladd hx hb dX6_withUnit_27 ?_
        refine lv_lstore (lv' := [(4, .long ((31 * (fl (unV z u) x k)) + ((unV z u k).toInt64))), (0, .ref o), (3, .int (nI u)), (6, .int (nI k))]) hx hb dX6_withUnit_28 hl (by decide) rfl (fun ls hl => ?_)
        refine lv_iinc (v := nI (k + 1)) (lv' := [(6, .int (nI (k + 1))), (4, .long ((31 * (fl (unV z u) x k)) + ((unV z u k).toInt64))), (0, .ref o), (3, .int (nI u))]) hx hb dX6_withUnit_30 hl (k := 3) rfl (inc_1 _) (by decide) rfl (fun ls hl => ?_)
        refine lv_goto (tgt := 6) hx hb dX6_withUnit_33 (by decide) ?_
        have hl : lv_has ls 7 [(0, .ref o), (3, .int (nI u)), (4, .long (fl (unV z u) x (k + 1))), (6, .int (nI (k + 1)))] := by
          have h9 := lv_sub (l' := [(0, .ref o), (3, .int (nI u)), (4, .long ((31 * (fl (unV z u) x k)) + ((unV z u k).toInt64))), (6, .int (nI (k + 1)))]) hl [2, 3, 1, 0] rfl
          rw [show (.long (fl (unV z u) x (k + 1)) : Value) = .long ((31 * (fl (unV z u) x k)) + ((unV z u k).toInt64)) from congrArg Value.long (rfl)]
          exact h9
        exact ih (k + 1) (by omega) (by omega) _ hl
  refine lv_lload_n hx hb dX6_withUnit_0 rfl (lv_at hl 1 rfl) ?_
  refine lv_lstore (lv' := [(4, .long x), (0, .ref o), (1, .long x), (3, .int (nI u))]) hx hb dX6_withUnit_1 hl (by decide) rfl (fun ls hl => ?_)
  refine lv_iconst (v := nI 0) hx hb dX6_withUnit_3 (by decide) ?_
  refine lv_istore (lv' := [(6, .int (nI 0)), (4, .long x), (0, .ref o), (1, .long x), (3, .int (nI u))]) hx hb dX6_withUnit_4 hl (by decide) rfl (fun ls hl => ?_)
  have hl : lv_has ls 7 [(0, .ref o), (3, .int (nI u)), (4, .long (fl (unV z u) x 0)), (6, .int (nI 0))] := by
    have h9 := lv_sub (l' := [(0, .ref o), (3, .int (nI u)), (4, .long x), (6, .int (nI 0))]) hl [2, 4, 1, 0] rfl
    rw [show (.long (fl (unV z u) x 0) : Value) = .long x from congrArg Value.long (rfl)]
    exact h9
  exact J6 (14 + 1) 0 (by omega) (by omega) _ hl
def rm_X6_withProductsAndVendors : Room := { frames := 4, cells := 0, slots := 0, locals := 86 }
theorem hd_X6_withProductsAndVendors : k_hd1 yX6_withProductsAndVendors RX6 1 := by decide +kernel
set_option maxHeartbeats 4000000 in
set_option maxRecDepth 100000 in
theorem c_X6_withProductsAndVendors (l : Launch) (E : ke_E) (o : Nat) (z : Nat → Int32) (x : Int64) (hI : iv z) : Met l yX6_withProductsAndVendors wsX6_withProductsAndVendors rm_X6_withProductsAndVendors (kp E [.ref o, .long x] (fun H => gg E o H ∧ dz E (o + 1) z H)) (qp (some (.long (fl (vsV z) (fl (gsV z) x 36) 40)))) 0 0 nof := by
  refine k_hd (cc := cX6_withProductsAndVendors) (maxL := 7) (ret := (some .long)) (by decide) rfl (Nat.le_of_ble_eq_true rfl) ?_
  intro p e s m below meth c ls S hr hlk hnm hK hP hl
  have hx := S.1
  have hb := S.2.1
  have hts := S.2.2.2.2
  obtain ⟨hP0, hP1⟩ := hP
  have hl : lv_has ls 7 [(0, .ref o), (1, .long x)] := hl
  have hc20 := iv_c hI
  have J68 : ∀ (n_ : Nat), ∀ (i : Nat), ∀ (k : Nat), i < 4 → k < 10 → 40 - (10*i + k) < n_ → ∀ (ls : Array Slot), lv_has ls 7 [(0, .ref o), (3, .long (fl (vsV z) (fl (gsV z) x 36) (10*i + k))), (5, .int (nI i)), (6, .int (nI k))] → W p l e (headSpec wsX6_withProductsAndVendors rm_X6_withProductsAndVendors).room s m ([.ref o, .long x] : List Value).toArray below meth c s.heap [] 0 0 (MQ below (qp (some (.long (fl (vsV z) (fl (gsV z) x 36) 40)))) ([.ref o, .long x] : List Value).toArray s 0 0 nof) (F0 m 68 ls []) := by
    intro n_
    induction n_ with
    | zero =>
      intro i k hi hk hn_ _ _
      exact absurd hn_ (by omega)
    | succ n_ ih =>
      intro i k hi hk hn_ ls hl
      refine lv_ldc2 (v := 31) hx hb S.2.2.2.1 (hts _ (List.mem_cons_of_mem _ (List.mem_append_left _ (List.mem_append_left _ (List.mem_append_left _ (List.mem_append_left _ (List.mem_append_left _ (List.mem_append_left _ (List.mem_append_left _ (List.mem_append_left _ (List.mem_of_getElem? (i := 0) rfl))))))))))) dX6_withProductsAndVendors_68 ?_
      refine lv_lload_n hx hb dX6_withProductsAndVendors_71 rfl (lv_at hl 1 rfl) ?_
      refine lv_lmul hx hb dX6_withProductsAndVendors_72 ?_
      refine lv_aload_n hx hb dX6_withProductsAndVendors_73 rfl (lv_at hl 0 rfl) ?_
      refine lv_iload hx hb dX6_withProductsAndVendors_74 (lv_at hl 2 rfl) ?_
      refine lv_iload hx hb dX6_withProductsAndVendors_76 (lv_at hl 3 rfl) ?_
      refine k_V (As := [.int (nI i), .int (nI k)]) (rest := [.long (31 * (fl (vsV z) (fl (gsV z) x 36) (10*i + k)))]) S hK (c_X6_vendor l E o z i k hI hi hk) gX6_withProductsAndVendors_X6_vendor rfl hd_X6_vendor ⟨rfl, rfl⟩ ⟨Nat.le_of_ble_eq_true rfl, Nat.le_of_ble_eq_true rfl⟩ (k_recv hK hP0 rfl) ⟨hP0, hP1⟩ rfl hl.1 rfl (Nat.le_of_ble_eq_true rfl) dX6_withProductsAndVendors_78 ⟨Nat.le_of_ble_eq_true rfl, Nat.le_of_ble_eq_true rfl⟩ ?_
      refine lv_i2l hx hb dX6_withProductsAndVendors_81 rfl ?_
      refine lv_ladd hx hb dX6_withProductsAndVendors_82 ?_
      refine lv_lstore_n (lv' := [(3, .long ((31 * (fl (vsV z) (fl (gsV z) x 36) (10*i + k))) + ((veV z i k).toInt64))), (0, .ref o), (5, .int (nI i)), (6, .int (nI k))]) hx hb dX6_withProductsAndVendors_83 rfl hl (by decide) rfl (fun ls hl => ?_)
      refine lv_iinc (v := nI (k + 1)) (lv' := [(6, .int (nI (k + 1))), (3, .long ((31 * (fl (vsV z) (fl (gsV z) x 36) (10*i + k))) + ((veV z i k).toInt64))), (0, .ref o), (5, .int (nI i))]) hx hb dX6_withProductsAndVendors_84 hl (k := 3) rfl (inc_1 _) (by decide) rfl (fun ls hl => ?_)
      refine lv_goto (tgt := 61) hx hb dX6_withProductsAndVendors_87 (by decide) ?_
      refine lv_iload hx hb dX6_withProductsAndVendors_61 (lv_at hl 0 rfl) ?_
      refine lv_bipush (v := nI 9) hx hb dX6_withProductsAndVendors_63 (by decide) ?_
      refine n_igt (tgt := 90) hx hb dX6_withProductsAndVendors_65 (by decide) (by omega) (by omega) (fun c65 => ?_) (fun c65 => ?_)
      · refine lv_iinc (v := nI (i + 1)) (lv' := [(5, .int (nI (i + 1))), (6, .int (nI (k + 1))), (3, .long ((31 * (fl (vsV z) (fl (gsV z) x 36) (10*i + k))) + ((veV z i k).toInt64))), (0, .ref o)]) hx hb dX6_withProductsAndVendors_90 hl (k := 3) rfl (inc_1 _) (by decide) rfl (fun ls hl => ?_)
        refine lv_goto (tgt := 52) hx hb dX6_withProductsAndVendors_93 (by decide) ?_
        refine lv_iload hx hb dX6_withProductsAndVendors_52 (lv_at hl 0 rfl) ?_
        refine lv_iconst (v := nI 4) hx hb dX6_withProductsAndVendors_54 (by decide) ?_
        refine n_ige (tgt := 96) hx hb dX6_withProductsAndVendors_55 (by decide) (by omega) (by omega) (fun c55 => ?_) (fun c55 => ?_)
        · refine lv_lload_n hx hb dX6_withProductsAndVendors_96 rfl (lv_at hl 2 rfl) ?_
          exact k_lret hx hb hr hlk dX6_withProductsAndVendors_97 (by have e9 : k = 9 := (by omega); have e8 : i = 3 := (by omega); subst e9; subst e8; show mx (fl (vsV z) (fl (gsV z) x 36) (10*3 + 9)) (vsV z (10*3 + 9)) = _; rw [vs_e (by omega)]; rfl)
        · refine lv_iconst (v := nI 0) hx hb dX6_withProductsAndVendors_58 (by decide) ?_
          refine lv_istore (lv' := [(6, .int (nI 0)), (5, .int (nI (i + 1))), (3, .long ((31 * (fl (vsV z) (fl (gsV z) x 36) (10*i + k))) + ((veV z i k).toInt64))), (0, .ref o)]) hx hb dX6_withProductsAndVendors_59 hl (by decide) rfl (fun ls hl => ?_)
          refine lv_iload hx hb dX6_withProductsAndVendors_61 (lv_at hl 0 rfl) ?_
          refine lv_bipush (v := nI 9) hx hb dX6_withProductsAndVendors_63 (by decide) ?_
          refine n_igt (tgt := 90) hx hb dX6_withProductsAndVendors_65 (by decide) (by omega) (by omega) (fun h => absurd h (by decide)) (fun c65_1 => ?_)
          have hl : lv_has ls 7 [(0, .ref o), (3, .long (fl (vsV z) (fl (gsV z) x 36) (10*(i + 1) + 0))), (5, .int (nI (i + 1))), (6, .int (nI 0))] := by
            have h9 := lv_sub (l' := [(0, .ref o), (3, .long ((31 * (fl (vsV z) (fl (gsV z) x 36) (10*i + k))) + ((veV z i k).toInt64))), (5, .int (nI (i + 1))), (6, .int (nI 0))]) hl [3, 2, 1, 0] rfl
            rw [show (.long (fl (vsV z) (fl (gsV z) x 36) (10*(i + 1) + 0)) : Value) = .long ((31 * (fl (vsV z) (fl (gsV z) x 36) (10*i + k))) + ((veV z i k).toInt64)) from congrArg Value.long (by have e9 : k = 9 := (by omega); subst e9; show mx (fl (vsV z) (fl (gsV z) x 36) (10*i + 9)) (vsV z (10*i + 9)) = _; rw [vs_e (by omega)]; rfl)]
            exact h9
          exact ih (i + 1) 0 (by omega) (by omega) (by omega) _ hl
      · have hl : lv_has ls 7 [(0, .ref o), (3, .long (fl (vsV z) (fl (gsV z) x 36) (10*i + (k + 1)))), (5, .int (nI i)), (6, .int (nI (k + 1)))] := by
          have h9 := lv_sub (l' := [(0, .ref o), (3, .long ((31 * (fl (vsV z) (fl (gsV z) x 36) (10*i + k))) + ((veV z i k).toInt64))), (5, .int (nI i)), (6, .int (nI (k + 1)))]) hl [2, 1, 3, 0] rfl
          rw [show (.long (fl (vsV z) (fl (gsV z) x 36) (10*i + (k + 1))) : Value) = .long ((31 * (fl (vsV z) (fl (gsV z) x 36) (10*i + k))) + ((veV z i k).toInt64)) from congrArg Value.long (by show mx (fl (vsV z) (fl (gsV z) x 36) (10*i + k)) (vsV z (10*i + k)) = _; rw [vs_e (by omega)]; rfl)]
          exact h9
        exact ih i (k + 1) hi (by omega) (by omega) _ hl
  have J49 : ∀ (ls : Array Slot), lv_has ls 7 [(0, .ref o), (3, .long (fl (gsV z) x 36))] → W p l e (headSpec wsX6_withProductsAndVendors rm_X6_withProductsAndVendors).room s m ([.ref o, .long x] : List Value).toArray below meth c s.heap [] 0 0 (MQ below (qp (some (.long (fl (vsV z) (fl (gsV z) x 36) 40)))) ([.ref o, .long x] : List Value).toArray s 0 0 nof) (F0 m 49 ls []) := by
    intro ls hl
    refine lv_iconst (v := nI 0) hx hb dX6_withProductsAndVendors_49 (by decide) ?_
    refine lv_istore (lv' := [(5, .int (nI 0)), (0, .ref o), (3, .long (fl (gsV z) x 36))]) hx hb dX6_withProductsAndVendors_50 hl (by decide) rfl (fun ls hl => ?_)
    refine lv_iload hx hb dX6_withProductsAndVendors_52 (lv_at hl 0 rfl) ?_
    refine lv_iconst (v := nI 4) hx hb dX6_withProductsAndVendors_54 (by decide) ?_
    refine n_ige (tgt := 96) hx hb dX6_withProductsAndVendors_55 (by decide) (by omega) (by omega) (fun h => absurd h (by decide)) (fun c55 => ?_)
    refine lv_iconst (v := nI 0) hx hb dX6_withProductsAndVendors_58 (by decide) ?_
    refine lv_istore (lv' := [(6, .int (nI 0)), (5, .int (nI 0)), (0, .ref o), (3, .long (fl (gsV z) x 36))]) hx hb dX6_withProductsAndVendors_59 hl (by decide) rfl (fun ls hl => ?_)
    refine lv_iload hx hb dX6_withProductsAndVendors_61 (lv_at hl 0 rfl) ?_
    refine lv_bipush (v := nI 9) hx hb dX6_withProductsAndVendors_63 (by decide) ?_
    refine n_igt (tgt := 90) hx hb dX6_withProductsAndVendors_65 (by decide) (by omega) (by omega) (fun h => absurd h (by decide)) (fun c65 => ?_)
    have hl : lv_has ls 7 [(0, .ref o), (3, .long (fl (vsV z) (fl (gsV z) x 36) (10*0 + 0))), (5, .int (nI 0)), (6, .int (nI 0))] := by
      have h9 := lv_sub (l' := [(0, .ref o), (3, .long (fl (gsV z) x 36)), (5, .int (nI 0)), (6, .int (nI 0))]) hl [2, 3, 1, 0] rfl
      rw [show (.long (fl (vsV z) (fl (gsV z) x 36) (10*0 + 0)) : Value) = .long (fl (gsV z) x 36) from congrArg Value.long (rfl)]
      exact h9
    exact J68 (40 - (10*0 + 0) + 1) 0 0 c55 (by omega) (by omega) _ hl
  have J21 : ∀ (n_ : Nat), ∀ (i : Nat), ∀ (k : Nat), i < 6 → k < 6 → 36 - (6*i + k) < n_ → ∀ (ls : Array Slot), lv_has ls 7 [(0, .ref o), (3, .long (fl (gsV z) (x) (6*i + k))), (5, .int (nI i)), (6, .int (nI k))] → W p l e (headSpec wsX6_withProductsAndVendors rm_X6_withProductsAndVendors).room s m ([.ref o, .long x] : List Value).toArray below meth c s.heap [] 0 0 (MQ below (qp (some (.long (fl (vsV z) (fl (gsV z) x 36) 40)))) ([.ref o, .long x] : List Value).toArray s 0 0 nof) (F0 m 21 ls []) := by
    intro n_
    induction n_ with
    | zero =>
      intro i k hi hk hn_ _ _
      exact absurd hn_ (by omega)
    | succ n_ ih =>
      intro i k hi hk hn_ ls hl
      refine lv_ldc2 (v := 31) hx hb S.2.2.2.1 (hts _ (List.mem_cons_of_mem _ (List.mem_append_left _ (List.mem_append_left _ (List.mem_append_left _ (List.mem_append_left _ (List.mem_append_left _ (List.mem_append_left _ (List.mem_append_left _ (List.mem_append_left _ (List.mem_of_getElem? (i := 0) rfl))))))))))) dX6_withProductsAndVendors_21 ?_
      refine lv_lload_n hx hb dX6_withProductsAndVendors_24 rfl (lv_at hl 1 rfl) ?_
      refine lv_lmul hx hb dX6_withProductsAndVendors_25 ?_
      refine lv_aload_n hx hb dX6_withProductsAndVendors_26 rfl (lv_at hl 0 rfl) ?_
      refine lv_iload hx hb dX6_withProductsAndVendors_27 (lv_at hl 2 rfl) ?_
      refine lv_iload hx hb dX6_withProductsAndVendors_29 (lv_at hl 3 rfl) ?_
      refine k_V (As := [.int (nI i), .int (nI k)]) (rest := [.long (31 * (fl (gsV z) (x) (6*i + k)))]) S hK (c_X6_productOf l E o z i k hI hi hk) gX6_withProductsAndVendors_X6_productOf rfl hd_X6_productOf ⟨rfl, rfl⟩ ⟨Nat.le_of_ble_eq_true rfl, Nat.le_of_ble_eq_true rfl⟩ (k_recv hK hP0 rfl) ⟨hP0, hP1⟩ rfl hl.1 rfl (Nat.le_of_ble_eq_true rfl) dX6_withProductsAndVendors_31 ⟨Nat.le_of_ble_eq_true rfl, Nat.le_of_ble_eq_true rfl⟩ ?_
      refine lv_i2l hx hb dX6_withProductsAndVendors_34 rfl ?_
      refine lv_ladd hx hb dX6_withProductsAndVendors_35 ?_
      refine lv_lstore_n (lv' := [(3, .long ((31 * (fl (gsV z) (x) (6*i + k))) + ((gdV z i k).toInt64))), (0, .ref o), (5, .int (nI i)), (6, .int (nI k))]) hx hb dX6_withProductsAndVendors_36 rfl hl (by decide) rfl (fun ls hl => ?_)
      refine lv_iinc (v := nI (k + 1)) (lv' := [(6, .int (nI (k + 1))), (3, .long ((31 * (fl (gsV z) (x) (6*i + k))) + ((gdV z i k).toInt64))), (0, .ref o), (5, .int (nI i))]) hx hb dX6_withProductsAndVendors_37 hl (k := 3) rfl (inc_1 _) (by decide) rfl (fun ls hl => ?_)
      refine lv_goto (tgt := 15) hx hb dX6_withProductsAndVendors_40 (by decide) ?_
      refine lv_iload hx hb dX6_withProductsAndVendors_15 (lv_at hl 0 rfl) ?_
      refine lv_iconst (v := nI 5) hx hb dX6_withProductsAndVendors_17 (by decide) ?_
      refine n_igt (tgt := 43) hx hb dX6_withProductsAndVendors_18 (by decide) (by omega) (by omega) (fun c18 => ?_) (fun c18 => ?_)
      · refine lv_iinc (v := nI (i + 1)) (lv' := [(5, .int (nI (i + 1))), (6, .int (nI (k + 1))), (3, .long ((31 * (fl (gsV z) (x) (6*i + k))) + ((gdV z i k).toInt64))), (0, .ref o)]) hx hb dX6_withProductsAndVendors_43 hl (k := 3) rfl (inc_1 _) (by decide) rfl (fun ls hl => ?_)
        refine lv_goto (tgt := 5) hx hb dX6_withProductsAndVendors_46 (by decide) ?_
        refine lv_iload hx hb dX6_withProductsAndVendors_5 (lv_at hl 0 rfl) ?_
        refine lv_bipush (v := nI 6) hx hb dX6_withProductsAndVendors_7 (by decide) ?_
        refine n_ige (tgt := 49) hx hb dX6_withProductsAndVendors_9 (by decide) (by omega) (by omega) (fun c9 => ?_) (fun c9 => ?_)
        · have hl : lv_has ls 7 [(0, .ref o), (3, .long (fl (gsV z) x 36))] := by
            have h9 := lv_sub (l' := [(0, .ref o), (3, .long ((31 * (fl (gsV z) (x) (6*i + k))) + ((gdV z i k).toInt64)))]) hl [3, 2] rfl
            rw [show (.long (fl (gsV z) x 36) : Value) = .long ((31 * (fl (gsV z) (x) (6*i + k))) + ((gdV z i k).toInt64)) from congrArg Value.long (by have e9 : k = 5 := (by omega); have e8 : i = 5 := (by omega); subst e9; subst e8; show mx (fl (gsV z) x (6*5 + 5)) (gsV z (6*5 + 5)) = _; rw [gs_e (by omega)]; rfl)]
            exact h9
          exact J49 _ hl
        · refine lv_iconst (v := nI 0) hx hb dX6_withProductsAndVendors_12 (by decide) ?_
          refine lv_istore (lv' := [(6, .int (nI 0)), (5, .int (nI (i + 1))), (3, .long ((31 * (fl (gsV z) (x) (6*i + k))) + ((gdV z i k).toInt64))), (0, .ref o)]) hx hb dX6_withProductsAndVendors_13 hl (by decide) rfl (fun ls hl => ?_)
          refine lv_iload hx hb dX6_withProductsAndVendors_15 (lv_at hl 0 rfl) ?_
          refine lv_iconst (v := nI 5) hx hb dX6_withProductsAndVendors_17 (by decide) ?_
          refine n_igt (tgt := 43) hx hb dX6_withProductsAndVendors_18 (by decide) (by omega) (by omega) (fun h => absurd h (by decide)) (fun c18_1 => ?_)
          have hl : lv_has ls 7 [(0, .ref o), (3, .long (fl (gsV z) (x) (6*(i + 1) + 0))), (5, .int (nI (i + 1))), (6, .int (nI 0))] := by
            have h9 := lv_sub (l' := [(0, .ref o), (3, .long ((31 * (fl (gsV z) (x) (6*i + k))) + ((gdV z i k).toInt64))), (5, .int (nI (i + 1))), (6, .int (nI 0))]) hl [3, 2, 1, 0] rfl
            rw [show (.long (fl (gsV z) (x) (6*(i + 1) + 0)) : Value) = .long ((31 * (fl (gsV z) (x) (6*i + k))) + ((gdV z i k).toInt64)) from congrArg Value.long (by have e9 : k = 5 := (by omega); subst e9; show mx (fl (gsV z) (x) (6*i + 5)) (gsV z (6*i + 5)) = _; rw [gs_e (by omega)]; rfl)]
            exact h9
          exact ih (i + 1) 0 (by omega) (by omega) (by omega) _ hl
      · have hl : lv_has ls 7 [(0, .ref o), (3, .long (fl (gsV z) (x) (6*i + (k + 1)))), (5, .int (nI i)), (6, .int (nI (k + 1)))] := by
          have h9 := lv_sub (l' := [(0, .ref o), (3, .long ((31 * (fl (gsV z) (x) (6*i + k))) + ((gdV z i k).toInt64))), (5, .int (nI i)), (6, .int (nI (k + 1)))]) hl [2, 1, 3, 0] rfl
          rw [show (.long (fl (gsV z) (x) (6*i + (k + 1))) : Value) = .long ((31 * (fl (gsV z) (x) (6*i + k))) + ((gdV z i k).toInt64)) from congrArg Value.long (by show mx (fl (gsV z) (x) (6*i + k)) (gsV z (6*i + k)) = _; rw [gs_e (by omega)]; rfl)]
          exact h9
        exact ih i (k + 1) hi (by omega) (by omega) _ hl
  refine lv_lload_n hx hb dX6_withProductsAndVendors_0 rfl (lv_at hl 1 rfl) ?_
  refine lv_lstore_n (lv' := [(3, .long x), (0, .ref o), (1, .long x)]) hx hb dX6_withProductsAndVendors_1 rfl hl (by decide) rfl (fun ls hl => ?_)
  refine lv_iconst (v := nI 0) hx hb dX6_withProductsAndVendors_2 (by decide) ?_
  refine lv_istore (lv' := [(5, .int (nI 0)), (3, .long x), (0, .ref o), (1, .long x)]) hx hb dX6_withProductsAndVendors_3 hl (by decide) rfl (fun ls hl => ?_)
  refine lv_iload hx hb dX6_withProductsAndVendors_5 (lv_at hl 0 rfl) ?_
  refine lv_bipush (v := nI 6) hx hb dX6_withProductsAndVendors_7 (by decide) ?_
  refine n_ige (tgt := 49) hx hb dX6_withProductsAndVendors_9 (by decide) (by omega) (by omega) (fun h => absurd h (by decide)) (fun c9 => ?_)
  refine lv_iconst (v := nI 0) hx hb dX6_withProductsAndVendors_12 (by decide) ?_
  refine lv_istore (lv' := [(6, .int (nI 0)), (5, .int (nI 0)), (3, .long x), (0, .ref o), (1, .long x)]) hx hb dX6_withProductsAndVendors_13 hl (by decide) rfl (fun ls hl => ?_)
  refine lv_iload hx hb dX6_withProductsAndVendors_15 (lv_at hl 0 rfl) ?_
  refine lv_iconst (v := nI 5) hx hb dX6_withProductsAndVendors_17 (by decide) ?_
  refine n_igt (tgt := 43) hx hb dX6_withProductsAndVendors_18 (by decide) (by omega) (by omega) (fun h => absurd h (by decide)) (fun c18 => ?_)
  have hl : lv_has ls 7 [(0, .ref o), (3, .long (fl (gsV z) (x) (6*0 + 0))), (5, .int (nI 0)), (6, .int (nI 0))] := by
    have h9 := lv_sub (l' := [(0, .ref o), (3, .long x), (5, .int (nI 0)), (6, .int (nI 0))]) hl [3, 2, 1, 0] rfl
    rw [show (.long (fl (gsV z) (x) (6*0 + 0)) : Value) = .long x from congrArg Value.long (rfl)]
    exact h9
  exact J21 (36 - (6*0 + 0) + 1) 0 0 c9 c9 (by omega) _ hl
set_option maxHeartbeats 4000000 in
set_option maxRecDepth 100000 in
theorem c_X6_bitsOf_z (l : Launch) (E : ke_E) : Met l yX6_bitsOf wsX6_bitsOf rm_X6_bitsOf (kp E [.double FP.dconst0] (fun _ => True)) (qp (some (.long 0))) 0 0 nof := by
  refine k_hd (cc := cX6_bitsOf) (maxL := 9) (ret := (some .long)) (by decide) rfl (Nat.le_of_ble_eq_true rfl) ?_
  intro p e s m below meth c ls S hr hlk hnm hK hP hl
  have hx := S.1
  have hb := S.2.1
  have hts := S.2.2.2.2
  have hl : lv_has ls 9 [(0, .double FP.dconst0)] := hl
  refine lv_dload_n hx hb dX6_bitsOf_0 rfl (lv_at hl 0 rfl) ?_
  refine lv_dconst0 hx hb dX6_bitsOf_1 ?_
  refine lv_dcmp hx hb dX6_bitsOf_2 ?_
  refine lv_if_ne (tgt := 8) hx hb dX6_bitsOf_3 (by decide) (fun h => absurd (by decide +kernel) h) (fun c3 => ?_)
  refine lv_lconst (v := 0) hx hb dX6_bitsOf_6 (by decide) ?_
  exact k_lret hx hb hr hlk dX6_bitsOf_7 (rfl)
theorem c_X6_bitsOf_k (l : Launch) (E : ke_E) (z : Nat → Int32) (hI : iv z) : Met l yX6_bitsOf wsX6_bitsOf rm_X6_bitsOf (kp E [.double (bkD z)] (fun _ => True)) (qp (some (.long (bkD z).toInt64))) 0 0 nof := by
  rcases bkD_c hI with h | ⟨s, c, q, h1, h2⟩
  · rw [h]
    exact c_X6_bitsOf_z l E
  · exact c_X6_bitsOf l E (bkD z) s c q h1 h2
def rm_X6_digest : Room := { frames := 6, cells := 0, slots := 0, locals := 139 }
theorem hd_X6_digest : k_hd1 yX6_digest RX6 0 := by decide +kernel
set_option maxHeartbeats 4000000 in
set_option maxRecDepth 100000 in
theorem c_X6_digest (l : Launch) (E : ke_E) (o : Nat) (z : Nat → Int32) (sn : Nat) (r : Nat → Int32) (bn : Nat) (f : Nat → Int32) (hI : iv z) (hJ : jw z) (hbn : bn ≤ 60) : Met l yX6_digest wsX6_digest rm_X6_digest (kp E [.ref o] (fun H => gg E o H ∧ dz E (o + 1) z H ∧ tr E (o + 60) H ∧ hy E (o + 119) sn r H ∧ bo E (o + 475) bn (auE (au f bn)) (auS (au f bn)) f H)) (qm (some (.long (dgH z (nI sn) f bn))) (bl (o + 60) 59) (tr E (o + 60))) 0 0 (bl (o + 60) 59) := by
  refine k_hd (cc := cX6_digest) (maxL := 4) (ret := (some .long)) (by decide) rfl (Nat.le_of_ble_eq_true rfl) ?_
  intro p e s m below meth c ls S hr hlk hnm hK hP hl
  have hx := S.1
  have hb := S.2.1
  have hts := S.2.2.2.2
  obtain ⟨hP0, hP1, hP2, hP3, hP4⟩ := hP
  have hl : lv_has ls 4 [(0, .ref o)] := hl
  have hS : va_S (bl (o + 60) 59) s.heap s.heap [] := va_S.rf
  have hc20 := iv_c hI
  have J160 : ∀ (ls : Array Slot), lv_has ls 4 [(0, .ref o), (1, .long (fl (caV z) (fl (waV z) (d1H z (nI sn)) 3) 3))] → W p l e (headSpec wsX6_digest rm_X6_digest).room s m ([.ref o] : List Value).toArray below meth c s.heap [] 0 0 (MQ below (qm (some (.long (dgH z (nI sn) f bn))) (bl (o + 60) 59) (tr E (o + 60))) ([.ref o] : List Value).toArray s 0 0 (bl (o + 60) 59)) (F0 m 160 ls []) := by
    intro ls hl
    refine lv_ldc2 (v := 31) hx hb S.2.2.2.1 (hts _ (List.mem_cons_of_mem _ (List.mem_append_left _ (List.mem_append_left _ (List.mem_append_left _ (List.mem_append_left _ (List.mem_append_left _ (List.mem_append_left _ (List.mem_append_left _ (List.mem_append_left _ (List.mem_append_left _ (List.mem_append_left _ (List.mem_of_getElem? (i := 1) rfl))))))))))))) dX6_digest_160 ?_
    refine lv_lload_n hx hb dX6_digest_163 rfl (lv_at hl 1 rfl) ?_
    refine lv_lmul hx hb dX6_digest_164 ?_
    refine lv_aload_n hx hb dX6_digest_165 rfl (lv_at hl 0 rfl) ?_
    refine k_VM (As := []) (rest := [.long (31 * (fl (caV z) (fl (waV z) (d1H z (nI sn)) 3) 3))]) S hK (c_X6_ifClosed l E o z hI) gX6_digest_X6_ifClosed rfl hd_X6_ifClosed ⟨rfl, rfl⟩ ⟨Nat.le_of_ble_eq_true rfl, Nat.le_of_ble_eq_true rfl⟩ (k_recv hK hP0 rfl) ⟨hP0, hP1, hP2⟩ rfl hl.1 rfl (Nat.le_of_ble_eq_true rfl) dX6_digest_166 ⟨Nat.le_of_ble_eq_true rfl, Nat.le_of_ble_eq_true rfl⟩ hS (fun q h => h) (fun q h => h) (fun H locs hQ zH fH hS => ?_)
    have hP := hQ
    have hV1 := hP
    have hk0 := bo_fr2 hP4 (fun q hz hq => fH q hz (bl_ne hq (by omega)))
    have hk1 := gg_fr2 hP0 (fun q hz hq => fH q hz (bl_ne hq (by omega)))
    have hk2 := dz_fr2 hP1 (fun q hz hq => fH q hz (bl_ne hq (by omega)))
    have hk4 := hy_fr2 hP3 (fun q hz hq => fH q hz (bl_ne hq (by omega)))
    refine lv_i2l hx hb dX6_digest_169 rfl ?_
    refine lv_ladd hx hb dX6_digest_170 ?_
    refine lv_lstore_n (lv' := [(1, .long ((31 * (fl (caV z) (fl (waV z) (d1H z (nI sn)) 3) 3)) + ((cloZ z).2.toInt64))), (0, .ref o)]) hx hb dX6_digest_171 rfl hl (by decide) rfl (fun ls hl => ?_)
    refine lv_ldc2 (v := 31) hx hb S.2.2.2.1 (hts _ (List.mem_cons_of_mem _ (List.mem_append_left _ (List.mem_append_left _ (List.mem_append_left _ (List.mem_append_left _ (List.mem_append_left _ (List.mem_append_left _ (List.mem_append_left _ (List.mem_append_left _ (List.mem_append_left _ (List.mem_append_left _ (List.mem_of_getElem? (i := 1) rfl))))))))))))) dX6_digest_172 ?_
    refine lv_lload_n hx hb dX6_digest_175 rfl (lv_at hl 0 rfl) ?_
    refine lv_lmul hx hb dX6_digest_176 ?_
    refine lv_aload_n hx hb dX6_digest_177 rfl (lv_at hl 1 rfl) ?_
    refine k_V (As := []) (rest := [.long (31 * ((31 * (fl (caV z) (fl (waV z) (d1H z (nI sn)) 3) 3)) + ((cloZ z).2.toInt64)))]) S hK (c_X6_workDays l E o z hI) gX6_digest_X6_workDays rfl hd_X6_workDays ⟨rfl, rfl⟩ ⟨Nat.le_of_ble_eq_true rfl, Nat.le_of_ble_eq_true rfl⟩ (k_recv hK hk1 rfl) ⟨hk1, hk2⟩ rfl hl.1 rfl (Nat.le_of_ble_eq_true rfl) dX6_digest_178 ⟨Nat.le_of_ble_eq_true rfl, Nat.le_of_ble_eq_true rfl⟩ ?_
    refine lv_i2l hx hb dX6_digest_181 rfl ?_
    refine lv_ladd hx hb dX6_digest_182 ?_
    refine lv_lstore_n (lv' := [(1, .long ((31 * ((31 * (fl (caV z) (fl (waV z) (d1H z (nI sn)) 3) 3)) + ((cloZ z).2.toInt64))) + ((wdV z).toInt64))), (0, .ref o)]) hx hb dX6_digest_183 rfl hl (by decide) rfl (fun ls hl => ?_)
    refine lv_ldc2 (v := 31) hx hb S.2.2.2.1 (hts _ (List.mem_cons_of_mem _ (List.mem_append_left _ (List.mem_append_left _ (List.mem_append_left _ (List.mem_append_left _ (List.mem_append_left _ (List.mem_append_left _ (List.mem_append_left _ (List.mem_append_left _ (List.mem_append_left _ (List.mem_append_left _ (List.mem_of_getElem? (i := 1) rfl))))))))))))) dX6_digest_184 ?_
    refine lv_lload_n hx hb dX6_digest_187 rfl (lv_at hl 0 rfl) ?_
    refine lv_lmul hx hb dX6_digest_188 ?_
    refine lv_aload_n hx hb dX6_digest_189 rfl (lv_at hl 1 rfl) ?_
    refine k_V (As := []) (rest := [.long (31 * ((31 * ((31 * (fl (caV z) (fl (waV z) (d1H z (nI sn)) 3) 3)) + ((cloZ z).2.toInt64))) + ((wdV z).toInt64)))]) S hK (c_X6_backShare l E o z hI hJ) gX6_digest_X6_backShare rfl hd_X6_backShare ⟨rfl, rfl⟩ ⟨Nat.le_of_ble_eq_true rfl, Nat.le_of_ble_eq_true rfl⟩ (k_recv hK hk1 rfl) ⟨hk1, hk2⟩ rfl hl.1 rfl (Nat.le_of_ble_eq_true rfl) dX6_digest_190 ⟨Nat.le_of_ble_eq_true rfl, Nat.le_of_ble_eq_true rfl⟩ ?_
    refine k_S (As := [.double (bkD z)]) (rest := [.long (31 * ((31 * ((31 * (fl (caV z) (fl (waV z) (d1H z (nI sn)) 3) 3)) + ((cloZ z).2.toInt64))) + ((wdV z).toInt64)))]) S hK (c_X6_bitsOf_k l E z hI) gX6_digest_X6_bitsOf rfl hd_X6_bitsOf ⟨rfl, rfl⟩ ⟨Nat.le_of_ble_eq_true rfl, Nat.le_of_ble_eq_true rfl⟩ trivial rfl hl.1 rfl (Nat.le_of_ble_eq_true rfl) dX6_digest_193 ⟨Nat.le_of_ble_eq_true rfl, Nat.le_of_ble_eq_true rfl⟩ ?_
    refine lv_ladd hx hb dX6_digest_196 ?_
    refine lv_lstore_n (lv' := [(1, .long ((31 * ((31 * ((31 * (fl (caV z) (fl (waV z) (d1H z (nI sn)) 3) 3)) + ((cloZ z).2.toInt64))) + ((wdV z).toInt64))) + (((bkD z)).toInt64))), (0, .ref o)]) hx hb dX6_digest_197 rfl hl (by decide) rfl (fun ls hl => ?_)
    refine lv_aload_n hx hb dX6_digest_198 rfl (lv_at hl 1 rfl) ?_
    refine k_get S hK hk1 rfl (fun _ h => List.mem_cons_of_mem _ (List.mem_append_left _ (List.mem_append_left _ (List.mem_append_left _ (List.mem_append_left _ (List.mem_append_left _ (List.mem_append_left _ (List.mem_append_left _ (List.mem_append_left _ (List.mem_append_right _ (h))))))))))) 3 (by decide) (List.mem_cons_of_mem _ (List.mem_append_left _ (List.mem_append_left _ (List.mem_append_left _ (List.mem_append_left _ (List.mem_append_left _ (List.mem_append_left _ (List.mem_append_left _ (List.mem_append_left _ (List.mem_append_left _ (List.mem_append_left _ (List.mem_of_getElem? (i := 5) rfl)))))))))))) rfl (v := .ref (o + 475)) rfl dX6_digest_199 ?_
    refine lv_lload_n hx hb dX6_digest_202 rfl (lv_at hl 0 rfl) ?_
    refine k_V (As := [.long ((31 * ((31 * ((31 * (fl (caV z) (fl (waV z) (d1H z (nI sn)) 3) 3)) + ((cloZ z).2.toInt64))) + ((wdV z).toInt64))) + (((bkD z)).toInt64))]) (rest := []) S hK (c_X0_withText l E (o + 475) bn f ((31 * ((31 * ((31 * (fl (caV z) (fl (waV z) (d1H z (nI sn)) 3) 3)) + ((cloZ z).2.toInt64))) + ((wdV z).toInt64))) + (((bkD z)).toInt64)) hbn) gX6_digest_X0_withText rfl hd_X0_withText ⟨rfl, rfl⟩ ⟨Nat.le_of_ble_eq_true rfl, Nat.le_of_ble_eq_true rfl⟩ (k_recv hK hk0.1 rfl) hk0 rfl hl.1 rfl (Nat.le_of_ble_eq_true rfl) dX6_digest_203 ⟨Nat.le_of_ble_eq_true rfl, Nat.le_of_ble_eq_true rfl⟩ ?_
    exact k_lretM hx hb hr hlk dX6_digest_206 hS hV1 (rfl)
  have J132 : ∀ (n_ : Nat), ∀ (k : Nat), k ≤ 3 → 3 < k + n_ → ∀ (ls : Array Slot), lv_has ls 4 [(0, .ref o), (1, .long (fl (caV z) (fl (waV z) (d1H z (nI sn)) 3) k)), (3, .int (nI k))] → W p l e (headSpec wsX6_digest rm_X6_digest).room s m ([.ref o] : List Value).toArray below meth c s.heap [] 0 0 (MQ below (qm (some (.long (dgH z (nI sn) f bn))) (bl (o + 60) 59) (tr E (o + 60))) ([.ref o] : List Value).toArray s 0 0 (bl (o + 60) 59)) (F0 m 132 ls []) := by
    intro n_
    induction n_ with
    | zero =>
      intro k hk hn_ _ _
      exact absurd hn_ (by omega)
    | succ n_ ih =>
      intro k hk hn_ ls hl
      refine lv_iload_n hx hb dX6_digest_132 rfl (lv_at hl 2 rfl) ?_
      refine lv_iconst (v := nI 2) hx hb dX6_digest_133 (by decide) ?_
      refine n_igt (tgt := 160) hx hb dX6_digest_134 (by decide) (by omega) (by omega) (fun c134 => ?_) (fun c134 => ?_)
      · have hl : lv_has ls 4 [(0, .ref o), (1, .long (fl (caV z) (fl (waV z) (d1H z (nI sn)) 3) 3))] := by
          have h9 := lv_sub (l' := [(0, .ref o), (1, .long (fl (caV z) (fl (waV z) (d1H z (nI sn)) 3) k))]) hl [0, 1] rfl
          rw [show (.long (fl (caV z) (fl (waV z) (d1H z (nI sn)) 3) 3) : Value) = .long (fl (caV z) (fl (waV z) (d1H z (nI sn)) 3) k) from congrArg Value.long (by rw [show k = 3 by omega])]
          exact h9
        exact J160 _ hl
      · refine lv_ldc2 (v := 31) hx hb S.2.2.2.1 (hts _ (List.mem_cons_of_mem _ (List.mem_append_left _ (List.mem_append_left _ (List.mem_append_left _ (List.mem_append_left _ (List.mem_append_left _ (List.mem_append_left _ (List.mem_append_left _ (List.mem_append_left _ (List.mem_append_left _ (List.mem_append_left _ (List.mem_of_getElem? (i := 1) rfl))))))))))))) dX6_digest_137 ?_
        refine lv_lload_n hx hb dX6_digest_140 rfl (lv_at hl 1 rfl) ?_
        refine lv_lmul hx hb dX6_digest_141 ?_
        refine lv_aload_n hx hb dX6_digest_142 rfl (lv_at hl 0 rfl) ?_
        refine k_get S hK hP0 rfl (fun _ h => List.mem_cons_of_mem _ (List.mem_append_left _ (List.mem_append_left _ (List.mem_append_left _ (List.mem_append_left _ (List.mem_append_left _ (List.mem_append_left _ (List.mem_append_left _ (List.mem_append_left _ (List.mem_append_right _ (h))))))))))) 0 (by decide) (List.mem_cons_of_mem _ (List.mem_append_left _ (List.mem_append_left _ (List.mem_append_left _ (List.mem_append_left _ (List.mem_append_left _ (List.mem_append_left _ (List.mem_append_left _ (List.mem_append_left _ (List.mem_append_left _ (List.mem_append_left _ (List.mem_of_getElem? (i := 2) rfl)))))))))))) rfl (v := .ref (o + 1)) rfl dX6_digest_143 ?_
        refine lv_iload_n hx hb dX6_digest_146 rfl (lv_at hl 2 rfl) ?_
        refine lv_iconst (v := nI 2) hx hb dX6_digest_147 (by decide) ?_
        refine k_V (As := [.int (nI k), .int (nI 2)]) (rest := [.long (31 * (fl (caV z) (fl (waV z) (d1H z (nI sn)) 3) k))]) S hK (c_X1_numberAt_2 l E (o + 1) z k hI (by omega)) gX6_digest_X1_numberAt rfl hd_X1_numberAt ⟨rfl, rfl⟩ ⟨Nat.le_of_ble_eq_true rfl, Nat.le_of_ble_eq_true rfl⟩ (k_recv hK (dz_d hP1) rfl) hP1 rfl hl.1 rfl (Nat.le_of_ble_eq_true rfl) dX6_digest_148 ⟨Nat.le_of_ble_eq_true rfl, Nat.le_of_ble_eq_true rfl⟩ ?_
        refine lv_i2l hx hb dX6_digest_151 rfl ?_
        refine lv_ladd hx hb dX6_digest_152 ?_
        refine lv_lstore_n (lv' := [(1, .long ((31 * (fl (caV z) (fl (waV z) (d1H z (nI sn)) 3) k)) + ((oI (oN (rkS (rkC z) (cn z) k))).toInt64))), (0, .ref o), (3, .int (nI k))]) hx hb dX6_digest_153 rfl hl (by decide) rfl (fun ls hl => ?_)
        refine lv_iinc (v := nI (k + 1)) (lv' := [(3, .int (nI (k + 1))), (1, .long ((31 * (fl (caV z) (fl (waV z) (d1H z (nI sn)) 3) k)) + ((oI (oN (rkS (rkC z) (cn z) k))).toInt64))), (0, .ref o)]) hx hb dX6_digest_154 hl (k := 2) rfl (inc_1 _) (by decide) rfl (fun ls hl => ?_)
        refine lv_goto (tgt := 132) hx hb dX6_digest_157 (by decide) ?_
        have hl : lv_has ls 4 [(0, .ref o), (1, .long (fl (caV z) (fl (waV z) (d1H z (nI sn)) 3) (k + 1))), (3, .int (nI (k + 1)))] := by
          have h9 := lv_sub (l' := [(0, .ref o), (1, .long ((31 * (fl (caV z) (fl (waV z) (d1H z (nI sn)) 3) k)) + ((oI (oN (rkS (rkC z) (cn z) k))).toInt64))), (3, .int (nI (k + 1)))]) hl [2, 1, 0] rfl
          rw [show (.long (fl (caV z) (fl (waV z) (d1H z (nI sn)) 3) (k + 1)) : Value) = .long ((31 * (fl (caV z) (fl (waV z) (d1H z (nI sn)) 3) k)) + ((oI (oN (rkS (rkC z) (cn z) k))).toInt64)) from congrArg Value.long (by show mx (fl (caV z) (fl (waV z) (d1H z (nI sn)) 3) k) (caV z k) = _; rw [show caV z k = _ from congrArg oI (ca_rk hI k).1]; rfl)]
          exact h9
        exact ih (k + 1) (by omega) (by omega) _ hl
  have J102 : ∀ (n_ : Nat), ∀ (k : Nat), k ≤ 3 → 3 < k + n_ → ∀ (ls : Array Slot), lv_has ls 4 [(0, .ref o), (1, .long (fl (waV z) (d1H z (nI sn)) k)), (3, .int (nI k))] → W p l e (headSpec wsX6_digest rm_X6_digest).room s m ([.ref o] : List Value).toArray below meth c s.heap [] 0 0 (MQ below (qm (some (.long (dgH z (nI sn) f bn))) (bl (o + 60) 59) (tr E (o + 60))) ([.ref o] : List Value).toArray s 0 0 (bl (o + 60) 59)) (F0 m 102 ls []) := by
    intro n_
    induction n_ with
    | zero =>
      intro k hk hn_ _ _
      exact absurd hn_ (by omega)
    | succ n_ ih =>
      intro k hk hn_ ls hl
      refine lv_iload_n hx hb dX6_digest_102 rfl (lv_at hl 2 rfl) ?_
      refine lv_iconst (v := nI 2) hx hb dX6_digest_103 (by decide) ?_
      refine n_igt (tgt := 130) hx hb dX6_digest_104 (by decide) (by omega) (by omega) (fun c104 => ?_) (fun c104 => ?_)
      · refine lv_iconst (v := nI 0) hx hb dX6_digest_130 (by decide) ?_
        refine lv_istore_n (lv' := [(3, .int (nI 0)), (0, .ref o), (1, .long (fl (waV z) (d1H z (nI sn)) k))]) hx hb dX6_digest_131 rfl hl (by decide) rfl (fun ls hl => ?_)
        have hl : lv_has ls 4 [(0, .ref o), (1, .long (fl (caV z) (fl (waV z) (d1H z (nI sn)) 3) 0)), (3, .int (nI 0))] := by
          have h9 := lv_sub (l' := [(0, .ref o), (1, .long (fl (waV z) (d1H z (nI sn)) k)), (3, .int (nI 0))]) hl [1, 2, 0] rfl
          rw [show (.long (fl (caV z) (fl (waV z) (d1H z (nI sn)) 3) 0) : Value) = .long (fl (waV z) (d1H z (nI sn)) k) from congrArg Value.long (by rw [show k = 3 by omega]; rfl)]
          exact h9
        exact J132 (3 + 1) 0 (by omega) (by omega) _ hl
      · refine lv_ldc2 (v := 31) hx hb S.2.2.2.1 (hts _ (List.mem_cons_of_mem _ (List.mem_append_left _ (List.mem_append_left _ (List.mem_append_left _ (List.mem_append_left _ (List.mem_append_left _ (List.mem_append_left _ (List.mem_append_left _ (List.mem_append_left _ (List.mem_append_left _ (List.mem_append_left _ (List.mem_of_getElem? (i := 1) rfl))))))))))))) dX6_digest_107 ?_
        refine lv_lload_n hx hb dX6_digest_110 rfl (lv_at hl 1 rfl) ?_
        refine lv_lmul hx hb dX6_digest_111 ?_
        refine lv_aload_n hx hb dX6_digest_112 rfl (lv_at hl 0 rfl) ?_
        refine k_get S hK hP0 rfl (fun _ h => List.mem_cons_of_mem _ (List.mem_append_left _ (List.mem_append_left _ (List.mem_append_left _ (List.mem_append_left _ (List.mem_append_left _ (List.mem_append_left _ (List.mem_append_left _ (List.mem_append_left _ (List.mem_append_right _ (h))))))))))) 0 (by decide) (List.mem_cons_of_mem _ (List.mem_append_left _ (List.mem_append_left _ (List.mem_append_left _ (List.mem_append_left _ (List.mem_append_left _ (List.mem_append_left _ (List.mem_append_left _ (List.mem_append_left _ (List.mem_append_left _ (List.mem_append_left _ (List.mem_of_getElem? (i := 2) rfl)))))))))))) rfl (v := .ref (o + 1)) rfl dX6_digest_113 ?_
        refine lv_iload_n hx hb dX6_digest_116 rfl (lv_at hl 2 rfl) ?_
        refine lv_iconst (v := nI 0) hx hb dX6_digest_117 (by decide) ?_
        refine k_V (As := [.int (nI k), .int (nI 0)]) (rest := [.long (31 * (fl (waV z) (d1H z (nI sn)) k))]) S hK (c_X1_numberAt_0 l E (o + 1) z k hI (by omega)) gX6_digest_X1_numberAt rfl hd_X1_numberAt ⟨rfl, rfl⟩ ⟨Nat.le_of_ble_eq_true rfl, Nat.le_of_ble_eq_true rfl⟩ (k_recv hK (dz_d hP1) rfl) hP1 rfl hl.1 rfl (Nat.le_of_ble_eq_true rfl) dX6_digest_118 ⟨Nat.le_of_ble_eq_true rfl, Nat.le_of_ble_eq_true rfl⟩ ?_
        refine lv_i2l hx hb dX6_digest_121 rfl ?_
        refine lv_ladd hx hb dX6_digest_122 ?_
        refine lv_lstore_n (lv' := [(1, .long ((31 * (fl (waV z) (d1H z (nI sn)) k)) + ((oI (oN (rkS (rkW z (nI 1)) (cn z) k))).toInt64))), (0, .ref o), (3, .int (nI k))]) hx hb dX6_digest_123 rfl hl (by decide) rfl (fun ls hl => ?_)
        refine lv_iinc (v := nI (k + 1)) (lv' := [(3, .int (nI (k + 1))), (1, .long ((31 * (fl (waV z) (d1H z (nI sn)) k)) + ((oI (oN (rkS (rkW z (nI 1)) (cn z) k))).toInt64))), (0, .ref o)]) hx hb dX6_digest_124 hl (k := 2) rfl (inc_1 _) (by decide) rfl (fun ls hl => ?_)
        refine lv_goto (tgt := 102) hx hb dX6_digest_127 (by decide) ?_
        have hl : lv_has ls 4 [(0, .ref o), (1, .long (fl (waV z) (d1H z (nI sn)) (k + 1))), (3, .int (nI (k + 1)))] := by
          have h9 := lv_sub (l' := [(0, .ref o), (1, .long ((31 * (fl (waV z) (d1H z (nI sn)) k)) + ((oI (oN (rkS (rkW z (nI 1)) (cn z) k))).toInt64))), (3, .int (nI (k + 1)))]) hl [2, 1, 0] rfl
          rw [show (.long (fl (waV z) (d1H z (nI sn)) (k + 1)) : Value) = .long ((31 * (fl (waV z) (d1H z (nI sn)) k)) + ((oI (oN (rkS (rkW z (nI 1)) (cn z) k))).toInt64)) from congrArg Value.long (by show mx (fl (waV z) (d1H z (nI sn)) k) (waV z k) = _; rw [show waV z k = _ from congrArg oI (wa_rk hI k).1]; rfl)]
          exact h9
        exact ih (k + 1) (by omega) (by omega) _ hl
  have J70 : ∀ (n_ : Nat), ∀ (k : Nat), k ≤ cn z → cn z < k + n_ → ∀ (ls : Array Slot), lv_has ls 4 [(0, .ref o), (1, .long (usH z (fl (seV z) (fl (coV z (nI sn)) 2477 14) 5) k)), (3, .int (nI k))] → W p l e (headSpec wsX6_digest rm_X6_digest).room s m ([.ref o] : List Value).toArray below meth c s.heap [] 0 0 (MQ below (qm (some (.long (dgH z (nI sn) f bn))) (bl (o + 60) 59) (tr E (o + 60))) ([.ref o] : List Value).toArray s 0 0 (bl (o + 60) 59)) (F0 m 70 ls []) := by
    intro n_
    induction n_ with
    | zero =>
      intro k hk hn_ _ _
      exact absurd hn_ (by omega)
    | succ n_ ih =>
      intro k hk hn_ ls hl
      refine lv_iload_n hx hb dX6_digest_70 rfl (lv_at hl 2 rfl) ?_
      refine lv_aload_n hx hb dX6_digest_71 rfl (lv_at hl 0 rfl) ?_
      refine k_get S hK hP0 rfl (fun _ h => List.mem_cons_of_mem _ (List.mem_append_left _ (List.mem_append_left _ (List.mem_append_left _ (List.mem_append_left _ (List.mem_append_left _ (List.mem_append_left _ (List.mem_append_left _ (List.mem_append_left _ (List.mem_append_right _ (h))))))))))) 0 (by decide) (List.mem_cons_of_mem _ (List.mem_append_left _ (List.mem_append_left _ (List.mem_append_left _ (List.mem_append_left _ (List.mem_append_left _ (List.mem_append_left _ (List.mem_append_left _ (List.mem_append_left _ (List.mem_append_left _ (List.mem_append_left _ (List.mem_of_getElem? (i := 2) rfl)))))))))))) rfl (v := .ref (o + 1)) rfl dX6_digest_72 ?_
      refine k_get S hK (dz_d hP1) rfl (fun _ h => List.mem_cons_of_mem _ (List.mem_append_left _ (List.mem_append_left _ (List.mem_append_left _ (List.mem_append_left _ (List.mem_append_left _ (List.mem_append_left _ (List.mem_append_left _ (List.mem_append_right _ (h)))))))))) 4 (by decide) (List.mem_cons_of_mem _ (List.mem_append_left _ (List.mem_append_left _ (List.mem_append_left _ (List.mem_append_left _ (List.mem_append_left _ (List.mem_append_left _ (List.mem_append_left _ (List.mem_append_left _ (List.mem_append_left _ (List.mem_append_left _ (List.mem_of_getElem? (i := 4) rfl)))))))))))) rfl (v := .int (nI (cn z))) (congrArg (fun x => some (Value.int x)) ((iv_n hI))) dX6_digest_75 ?_
      refine n_ige (tgt := 94) hx hb dX6_digest_78 (by decide) (by omega) (by omega) (fun c78 => ?_) (fun c78 => ?_)
      · have hl : lv_has ls 4 [(0, .ref o), (1, .long (usH z (fl (seV z) (fl (coV z (nI sn)) 2477 14) 5) (cn z))), (3, .int (nI (cn z)))] := by rw [show k = cn z by omega] at hl; exact hl
        refine lv_aload_n hx hb dX6_digest_94 rfl (lv_at hl 0 rfl) ?_
        refine lv_lload_n hx hb dX6_digest_95 rfl (lv_at hl 1 rfl) ?_
        refine k_V (As := [.long (usH z (fl (seV z) (fl (coV z (nI sn)) 2477 14) 5) (cn z))]) (rest := []) S hK (c_X6_withProductsAndVendors l E o z (usH z (fl (seV z) (fl (coV z (nI sn)) 2477 14) 5) (cn z)) hI) gX6_digest_X6_withProductsAndVendors rfl hd_X6_withProductsAndVendors ⟨rfl, rfl⟩ ⟨Nat.le_of_ble_eq_true rfl, Nat.le_of_ble_eq_true rfl⟩ (k_recv hK hP0 rfl) ⟨hP0, hP1⟩ rfl hl.1 rfl (Nat.le_of_ble_eq_true rfl) dX6_digest_96 ⟨Nat.le_of_ble_eq_true rfl, Nat.le_of_ble_eq_true rfl⟩ ?_
        refine lv_lstore_n (lv' := [(1, .long (fl (vsV z) (fl (gsV z) (usH z (fl (seV z) (fl (coV z (nI sn)) 2477 14) 5) (cn z)) 36) 40)), (0, .ref o), (3, .int (nI (cn z)))]) hx hb dX6_digest_99 rfl hl (by decide) rfl (fun ls hl => ?_)
        refine lv_iconst (v := nI 0) hx hb dX6_digest_100 (by decide) ?_
        refine lv_istore_n (lv' := [(3, .int (nI 0)), (1, .long (fl (vsV z) (fl (gsV z) (usH z (fl (seV z) (fl (coV z (nI sn)) 2477 14) 5) (cn z)) 36) 40)), (0, .ref o)]) hx hb dX6_digest_101 rfl hl (by decide) rfl (fun ls hl => ?_)
        have hl : lv_has ls 4 [(0, .ref o), (1, .long (fl (waV z) (d1H z (nI sn)) 0)), (3, .int (nI 0))] := by
          have h9 := lv_sub (l' := [(0, .ref o), (1, .long (fl (vsV z) (fl (gsV z) (usH z (fl (seV z) (fl (coV z (nI sn)) 2477 14) 5) (cn z)) 36) 40)), (3, .int (nI 0))]) hl [2, 1, 0] rfl
          rw [show (.long (fl (waV z) (d1H z (nI sn)) 0) : Value) = .long (fl (vsV z) (fl (gsV z) (usH z (fl (seV z) (fl (coV z (nI sn)) 2477 14) 5) (cn z)) 36) 40) from congrArg Value.long (rfl)]
          exact h9
        exact J102 (3 + 1) 0 (by omega) (by omega) _ hl
      · refine lv_aload_n hx hb dX6_digest_81 rfl (lv_at hl 0 rfl) ?_
        refine lv_lload_n hx hb dX6_digest_82 rfl (lv_at hl 1 rfl) ?_
        refine lv_iload_n hx hb dX6_digest_83 rfl (lv_at hl 2 rfl) ?_
        refine k_V (As := [.long (usH z (fl (seV z) (fl (coV z (nI sn)) 2477 14) 5) k), .int (nI k)]) (rest := []) S hK (c_X6_withUnit l E o z (usH z (fl (seV z) (fl (coV z (nI sn)) 2477 14) 5) k) k hI c78) gX6_digest_X6_withUnit rfl hd_X6_withUnit ⟨rfl, rfl⟩ ⟨Nat.le_of_ble_eq_true rfl, Nat.le_of_ble_eq_true rfl⟩ (k_recv hK hP0 rfl) ⟨hP0, hP1⟩ rfl hl.1 rfl (Nat.le_of_ble_eq_true rfl) dX6_digest_84 ⟨Nat.le_of_ble_eq_true rfl, Nat.le_of_ble_eq_true rfl⟩ ?_
        refine lv_lstore_n (lv' := [(1, .long (muH z k (usH z (fl (seV z) (fl (coV z (nI sn)) 2477 14) 5) k))), (0, .ref o), (3, .int (nI k))]) hx hb dX6_digest_87 rfl hl (by decide) rfl (fun ls hl => ?_)
        refine lv_iinc (v := nI (k + 1)) (lv' := [(3, .int (nI (k + 1))), (1, .long (muH z k (usH z (fl (seV z) (fl (coV z (nI sn)) 2477 14) 5) k))), (0, .ref o)]) hx hb dX6_digest_88 hl (k := 2) rfl (inc_1 _) (by decide) rfl (fun ls hl => ?_)
        refine lv_goto (tgt := 70) hx hb dX6_digest_91 (by decide) ?_
        have hl : lv_has ls 4 [(0, .ref o), (1, .long (usH z (fl (seV z) (fl (coV z (nI sn)) 2477 14) 5) (k + 1))), (3, .int (nI (k + 1)))] := by
          have h9 := lv_sub (l' := [(0, .ref o), (1, .long (muH z k (usH z (fl (seV z) (fl (coV z (nI sn)) 2477 14) 5) k))), (3, .int (nI (k + 1)))]) hl [2, 1, 0] rfl
          rw [show (.long (usH z (fl (seV z) (fl (coV z (nI sn)) 2477 14) 5) (k + 1)) : Value) = .long (muH z k (usH z (fl (seV z) (fl (coV z (nI sn)) 2477 14) 5) k)) from congrArg Value.long (rfl)]
          exact h9
        exact ih (k + 1) (by omega) (by omega) _ hl
  have J33 : ∀ (n_ : Nat), ∀ (k : Nat), k ≤ 5 → 5 < k + n_ → ∀ (ls : Array Slot), lv_has ls 4 [(0, .ref o), (1, .long (fl (seV z) (fl (coV z (nI sn)) 2477 14) k)), (3, .int (nI k))] → W p l e (headSpec wsX6_digest rm_X6_digest).room s m ([.ref o] : List Value).toArray below meth c s.heap [] 0 0 (MQ below (qm (some (.long (dgH z (nI sn) f bn))) (bl (o + 60) 59) (tr E (o + 60))) ([.ref o] : List Value).toArray s 0 0 (bl (o + 60) 59)) (F0 m 33 ls []) := by
    intro n_
    induction n_ with
    | zero =>
      intro k hk hn_ _ _
      exact absurd hn_ (by omega)
    | succ n_ ih =>
      intro k hk hn_ ls hl
      refine lv_iload_n hx hb dX6_digest_33 rfl (lv_at hl 2 rfl) ?_
      refine lv_aload_n hx hb dX6_digest_34 rfl (lv_at hl 0 rfl) ?_
      refine k_get S hK hP0 rfl (fun _ h => List.mem_cons_of_mem _ (List.mem_append_left _ (List.mem_append_left _ (List.mem_append_left _ (List.mem_append_left _ (List.mem_append_left _ (List.mem_append_left _ (List.mem_append_left _ (List.mem_append_left _ (List.mem_append_right _ (h))))))))))) 0 (by decide) (List.mem_cons_of_mem _ (List.mem_append_left _ (List.mem_append_left _ (List.mem_append_left _ (List.mem_append_left _ (List.mem_append_left _ (List.mem_append_left _ (List.mem_append_left _ (List.mem_append_left _ (List.mem_append_left _ (List.mem_append_left _ (List.mem_of_getElem? (i := 2) rfl)))))))))))) rfl (v := .ref (o + 1)) rfl dX6_digest_35 ?_
      refine k_get S hK (dz_d hP1) rfl (fun _ h => List.mem_cons_of_mem _ (List.mem_append_left _ (List.mem_append_left _ (List.mem_append_left _ (List.mem_append_left _ (List.mem_append_left _ (List.mem_append_left _ (List.mem_append_left _ (List.mem_append_right _ (h)))))))))) 3 (by decide) (List.mem_cons_of_mem _ (List.mem_append_left _ (List.mem_append_left _ (List.mem_append_left _ (List.mem_append_left _ (List.mem_append_left _ (List.mem_append_left _ (List.mem_append_left _ (List.mem_append_left _ (List.mem_append_left _ (List.mem_append_left _ (List.mem_of_getElem? (i := 3) rfl)))))))))))) rfl (v := .ref (o + 1 + 4)) rfl dX6_digest_38 ?_
      refine k_alen hx hb hK (t := 0) rfl (dz_st hP1) dX6_digest_41 ?_
      refine k_top (y := nI 5) rfl ?_
      refine n_ige (tgt := 68) hx hb dX6_digest_42 (by decide) (by omega) (by omega) (fun c42 => ?_) (fun c42 => ?_)
      · refine lv_iconst (v := nI 0) hx hb dX6_digest_68 (by decide) ?_
        refine lv_istore_n (lv' := [(3, .int (nI 0)), (0, .ref o), (1, .long (fl (seV z) (fl (coV z (nI sn)) 2477 14) k))]) hx hb dX6_digest_69 rfl hl (by decide) rfl (fun ls hl => ?_)
        have hl : lv_has ls 4 [(0, .ref o), (1, .long (usH z (fl (seV z) (fl (coV z (nI sn)) 2477 14) 5) 0)), (3, .int (nI 0))] := by
          have h9 := lv_sub (l' := [(0, .ref o), (1, .long (fl (seV z) (fl (coV z (nI sn)) 2477 14) k)), (3, .int (nI 0))]) hl [1, 2, 0] rfl
          rw [show (.long (usH z (fl (seV z) (fl (coV z (nI sn)) 2477 14) 5) 0) : Value) = .long (fl (seV z) (fl (coV z (nI sn)) 2477 14) k) from congrArg Value.long (by rw [show k = 5 by omega]; rfl)]
          exact h9
        exact J70 (cn z + 1) 0 (by omega) (by omega) _ hl
      · refine lv_ldc2 (v := 31) hx hb S.2.2.2.1 (hts _ (List.mem_cons_of_mem _ (List.mem_append_left _ (List.mem_append_left _ (List.mem_append_left _ (List.mem_append_left _ (List.mem_append_left _ (List.mem_append_left _ (List.mem_append_left _ (List.mem_append_left _ (List.mem_append_left _ (List.mem_append_left _ (List.mem_of_getElem? (i := 1) rfl))))))))))))) dX6_digest_45 ?_
        refine lv_lload_n hx hb dX6_digest_48 rfl (lv_at hl 1 rfl) ?_
        refine lv_lmul hx hb dX6_digest_49 ?_
        refine lv_aload_n hx hb dX6_digest_50 rfl (lv_at hl 0 rfl) ?_
        refine k_get S hK hP0 rfl (fun _ h => List.mem_cons_of_mem _ (List.mem_append_left _ (List.mem_append_left _ (List.mem_append_left _ (List.mem_append_left _ (List.mem_append_left _ (List.mem_append_left _ (List.mem_append_left _ (List.mem_append_left _ (List.mem_append_right _ (h))))))))))) 0 (by decide) (List.mem_cons_of_mem _ (List.mem_append_left _ (List.mem_append_left _ (List.mem_append_left _ (List.mem_append_left _ (List.mem_append_left _ (List.mem_append_left _ (List.mem_append_left _ (List.mem_append_left _ (List.mem_append_left _ (List.mem_append_left _ (List.mem_of_getElem? (i := 2) rfl)))))))))))) rfl (v := .ref (o + 1)) rfl dX6_digest_51 ?_
        refine k_get S hK (dz_d hP1) rfl (fun _ h => List.mem_cons_of_mem _ (List.mem_append_left _ (List.mem_append_left _ (List.mem_append_left _ (List.mem_append_left _ (List.mem_append_left _ (List.mem_append_left _ (List.mem_append_left _ (List.mem_append_right _ (h)))))))))) 3 (by decide) (List.mem_cons_of_mem _ (List.mem_append_left _ (List.mem_append_left _ (List.mem_append_left _ (List.mem_append_left _ (List.mem_append_left _ (List.mem_append_left _ (List.mem_append_left _ (List.mem_append_left _ (List.mem_append_left _ (List.mem_append_left _ (List.mem_of_getElem? (i := 3) rfl)))))))))))) rfl (v := .ref (o + 1 + 4)) rfl dX6_digest_54 ?_
        refine lv_iload_n hx hb dX6_digest_57 rfl (lv_at hl 2 rfl) ?_
        refine k_iald hx hb hK (dz_st hP1) (by omega) (by decide) (v := z (k + 7)) rfl dX6_digest_58 ?_
        refine lv_i2l hx hb dX6_digest_59 rfl ?_
        refine lv_ladd hx hb dX6_digest_60 ?_
        refine lv_lstore_n (lv' := [(1, .long ((31 * (fl (seV z) (fl (coV z (nI sn)) 2477 14) k)) + ((z (k + 7)).toInt64))), (0, .ref o), (3, .int (nI k))]) hx hb dX6_digest_61 rfl hl (by decide) rfl (fun ls hl => ?_)
        refine lv_iinc (v := nI (k + 1)) (lv' := [(3, .int (nI (k + 1))), (1, .long ((31 * (fl (seV z) (fl (coV z (nI sn)) 2477 14) k)) + ((z (k + 7)).toInt64))), (0, .ref o)]) hx hb dX6_digest_62 hl (k := 2) rfl (inc_1 _) (by decide) rfl (fun ls hl => ?_)
        refine lv_goto (tgt := 33) hx hb dX6_digest_65 (by decide) ?_
        have hl : lv_has ls 4 [(0, .ref o), (1, .long (fl (seV z) (fl (coV z (nI sn)) 2477 14) (k + 1))), (3, .int (nI (k + 1)))] := by
          have h9 := lv_sub (l' := [(0, .ref o), (1, .long ((31 * (fl (seV z) (fl (coV z (nI sn)) 2477 14) k)) + ((z (k + 7)).toInt64))), (3, .int (nI (k + 1)))]) hl [2, 1, 0] rfl
          rw [show (.long (fl (seV z) (fl (coV z (nI sn)) 2477 14) (k + 1)) : Value) = .long ((31 * (fl (seV z) (fl (coV z (nI sn)) 2477 14) k)) + ((z (k + 7)).toInt64)) from congrArg Value.long (rfl)]
          exact h9
        exact ih (k + 1) (by omega) (by omega) _ hl
  have J6 : ∀ (n_ : Nat), ∀ (k : Nat), k ≤ 14 → 14 < k + n_ → ∀ (ls : Array Slot), lv_has ls 4 [(0, .ref o), (1, .long (fl (coV z (nI sn)) 2477 k)), (3, .int (nI k))] → W p l e (headSpec wsX6_digest rm_X6_digest).room s m ([.ref o] : List Value).toArray below meth c s.heap [] 0 0 (MQ below (qm (some (.long (dgH z (nI sn) f bn))) (bl (o + 60) 59) (tr E (o + 60))) ([.ref o] : List Value).toArray s 0 0 (bl (o + 60) 59)) (F0 m 6 ls []) := by
    intro n_
    induction n_ with
    | zero =>
      intro k hk hn_ _ _
      exact absurd hn_ (by omega)
    | succ n_ ih =>
      intro k hk hn_ ls hl
      refine lv_iload_n hx hb dX6_digest_6 rfl (lv_at hl 2 rfl) ?_
      refine lv_bipush (v := nI 13) hx hb dX6_digest_7 (by decide) ?_
      refine n_igt (tgt := 31) hx hb dX6_digest_9 (by decide) (by omega) (by omega) (fun c9 => ?_) (fun c9 => ?_)
      · refine lv_iconst (v := nI 0) hx hb dX6_digest_31 (by decide) ?_
        refine lv_istore_n (lv' := [(3, .int (nI 0)), (0, .ref o), (1, .long (fl (coV z (nI sn)) 2477 k))]) hx hb dX6_digest_32 rfl hl (by decide) rfl (fun ls hl => ?_)
        have hl : lv_has ls 4 [(0, .ref o), (1, .long (fl (seV z) (fl (coV z (nI sn)) 2477 14) 0)), (3, .int (nI 0))] := by
          have h9 := lv_sub (l' := [(0, .ref o), (1, .long (fl (coV z (nI sn)) 2477 k)), (3, .int (nI 0))]) hl [1, 2, 0] rfl
          rw [show (.long (fl (seV z) (fl (coV z (nI sn)) 2477 14) 0) : Value) = .long (fl (coV z (nI sn)) 2477 k) from congrArg Value.long (by rw [show k = 14 by omega]; rfl)]
          exact h9
        exact J33 (5 + 1) 0 (by omega) (by omega) _ hl
      · refine lv_ldc2 (v := 31) hx hb S.2.2.2.1 (hts _ (List.mem_cons_of_mem _ (List.mem_append_left _ (List.mem_append_left _ (List.mem_append_left _ (List.mem_append_left _ (List.mem_append_left _ (List.mem_append_left _ (List.mem_append_left _ (List.mem_append_left _ (List.mem_append_left _ (List.mem_append_left _ (List.mem_of_getElem? (i := 1) rfl))))))))))))) dX6_digest_12 ?_
        refine lv_lload_n hx hb dX6_digest_15 rfl (lv_at hl 1 rfl) ?_
        refine lv_lmul hx hb dX6_digest_16 ?_
        refine lv_aload_n hx hb dX6_digest_17 rfl (lv_at hl 0 rfl) ?_
        refine lv_iload_n hx hb dX6_digest_18 rfl (lv_at hl 2 rfl) ?_
        refine k_V (As := [.int (nI k)]) (rest := [.long (31 * (fl (coV z (nI sn)) 2477 k))]) S hK (c_X6_count l E o z sn r k hI hJ (by omega)) gX6_digest_X6_count rfl hd_X6_count ⟨rfl, rfl⟩ ⟨Nat.le_of_ble_eq_true rfl, Nat.le_of_ble_eq_true rfl⟩ (k_recv hK hP0 rfl) ⟨hP0, hP1, hP3⟩ rfl hl.1 rfl (Nat.le_of_ble_eq_true rfl) dX6_digest_19 ⟨Nat.le_of_ble_eq_true rfl, Nat.le_of_ble_eq_true rfl⟩ ?_
        refine lv_i2l hx hb dX6_digest_22 rfl ?_
        refine lv_ladd hx hb dX6_digest_23 ?_
        refine lv_lstore_n (lv' := [(1, .long ((31 * (fl (coV z (nI sn)) 2477 k)) + ((coV z (nI sn) k).toInt64))), (0, .ref o), (3, .int (nI k))]) hx hb dX6_digest_24 rfl hl (by decide) rfl (fun ls hl => ?_)
        refine lv_iinc (v := nI (k + 1)) (lv' := [(3, .int (nI (k + 1))), (1, .long ((31 * (fl (coV z (nI sn)) 2477 k)) + ((coV z (nI sn) k).toInt64))), (0, .ref o)]) hx hb dX6_digest_25 hl (k := 2) rfl (inc_1 _) (by decide) rfl (fun ls hl => ?_)
        refine lv_goto (tgt := 6) hx hb dX6_digest_28 (by decide) ?_
        have hl : lv_has ls 4 [(0, .ref o), (1, .long (fl (coV z (nI sn)) 2477 (k + 1))), (3, .int (nI (k + 1)))] := by
          have h9 := lv_sub (l' := [(0, .ref o), (1, .long ((31 * (fl (coV z (nI sn)) 2477 k)) + ((coV z (nI sn) k).toInt64))), (3, .int (nI (k + 1)))]) hl [2, 1, 0] rfl
          rw [show (.long (fl (coV z (nI sn)) 2477 (k + 1)) : Value) = .long ((31 * (fl (coV z (nI sn)) 2477 k)) + ((coV z (nI sn) k).toInt64)) from congrArg Value.long (rfl)]
          exact h9
        exact ih (k + 1) (by omega) (by omega) _ hl
  refine lv_ldc2 (v := 2477) hx hb S.2.2.2.1 (hts _ (List.mem_cons_of_mem _ (List.mem_append_left _ (List.mem_append_left _ (List.mem_append_left _ (List.mem_append_left _ (List.mem_append_left _ (List.mem_append_left _ (List.mem_append_left _ (List.mem_append_left _ (List.mem_append_left _ (List.mem_append_left _ (List.mem_of_getElem? (i := 0) rfl))))))))))))) dX6_digest_0 ?_
  refine lv_lstore_n (lv' := [(1, .long 2477), (0, .ref o)]) hx hb dX6_digest_3 rfl hl (by decide) rfl (fun ls hl => ?_)
  refine lv_iconst (v := nI 0) hx hb dX6_digest_4 (by decide) ?_
  refine lv_istore_n (lv' := [(3, .int (nI 0)), (1, .long 2477), (0, .ref o)]) hx hb dX6_digest_5 rfl hl (by decide) rfl (fun ls hl => ?_)
  have hl : lv_has ls 4 [(0, .ref o), (1, .long (fl (coV z (nI sn)) 2477 0)), (3, .int (nI 0))] := by
    have h9 := lv_sub (l' := [(0, .ref o), (1, .long 2477), (3, .int (nI 0))]) hl [2, 1, 0] rfl
    rw [show (.long (fl (coV z (nI sn)) 2477 0) : Value) = .long 2477 from congrArg Value.long (rfl)]
    exact h9
  exact J6 (14 + 1) 0 (by omega) (by omega) _ hl
