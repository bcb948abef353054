def rm_X2_init : Room := { frames := 3, cells := 355, slots := 2262, locals := 53 }
theorem hd_X2_init : k_hd1 yX2_init RX2 0 := by decide +kernel
set_option maxHeartbeats 4000000 in
set_option maxRecDepth 100000 in
theorem c_X2_init (l : Launch) (E : ke_E) (h : Nat) : Met l yX2_init wsX2_init rm_X2_init (kp E [.ref h] ((n2 E h))) (qm none (bl h 356) ((b2 E h))) 355 2262 (bl h 356) := by
  refine k_hd (cc := cX2_init) (maxL := 2) (ret := none) (by decide) rfl (Nat.le_of_ble_eq_true rfl) ?_
  intro p e s m below meth c ls S hr hlk hnm hK hP hl
  have hx := S.1
  have hb := S.2.1
  have hts := S.2.2.2.2
  have hin0 : meth.name = "<init>" := hnm
  obtain ⟨hz, a0⟩ := hP
  have hl : lv_has ls 2 [(0, .ref h)] := hl
  have hS : va_S (bl h 356) s.heap s.heap [] := va_S.rf
  have J15 : ∀ (n_ : Nat), ∀ (k : Nat), k ≤ 6 → 6 < k + n_ → ∀ (H : Heap) (locs : List Loc), H.size = h + 59*k + 2 → (va_at E.1 vwCl (h, .inr (2, [.ref (h + 1), .int 0])) H) → (va_at E.1 vwCl (h + 1, .inl (E.2 4, 6, .inr (.inr (.inr (.inr (rfk (fun k => h + 59*k + 2) k)))))) H) → (∀ i, i < k → dp E (h + 59*i + 2) zU H) → va_S (bl h 356) s.heap H locs → ∀ (ls : Array Slot), lv_has ls 2 [(0, .ref h), (1, .int (nI k))] → W p l e (headSpec wsX2_init rm_X2_init).room s m ([.ref h] : List Value).toArray below meth c H locs (1 + 59*k) (6 + 376*k) (MQ below (qm none (bl h 356) ((b2 E h))) ([.ref h] : List Value).toArray s 355 2262 (bl h 356)) (F0 m 15 ls []) := by
    intro n_
    induction n_ with
    | zero =>
      intro k hk hn_ _ _ _ _ _ _ _ _ _
      exact absurd hn_ (by omega)
    | succ n_ ih =>
      intro k hk hn_ H locs hz a0 h1 h2 hS ls hl
      refine lv_iload_n hx hb dX2_init_15 rfl (lv_at hl 1 rfl) ?_
      refine lv_aload_n hx hb dX2_init_16 rfl (lv_at hl 0 rfl) ?_
      refine k_get S hK a0 rfl (fun _ h => List.mem_cons_of_mem _ (List.mem_append_left _ (List.mem_append_left _ (List.mem_append_left _ (List.mem_append_left _ (List.mem_append_right _ (h))))))) 0 (by decide) (List.mem_cons_of_mem _ (List.mem_append_left _ (List.mem_append_left _ (List.mem_append_left _ (List.mem_append_left _ (List.mem_append_left _ (List.mem_append_left _ (List.mem_of_getElem? (i := 4) rfl)))))))) rfl (v := .ref (h + 1)) rfl dX2_init_17 ?_
      refine k_alen hx hb hK (t := 4) rfl h1 dX2_init_20 ?_
      refine k_top (y := nI 6) rfl ?_
      refine n_ige (tgt := 43) hx hb dX2_init_21 (by decide) (by omega) (by omega) (fun c21 => ?_) (fun c21 => ?_)
      · exact k_cs (cells' := 355) (slots' := 2262) (by omega) (by omega) (k_vretM hx hb hr hlk dX2_init_43 hS (show (b2 E h) H from (by have ek : k = 6 := (by omega); subst ek; exact ⟨hz, a0, va_rfs h1, h2⟩)))
      · refine lv_aload_n hx hb dX2_init_24 rfl (lv_at hl 0 rfl) ?_
        refine k_get S hK a0 rfl (fun _ h => List.mem_cons_of_mem _ (List.mem_append_left _ (List.mem_append_left _ (List.mem_append_left _ (List.mem_append_left _ (List.mem_append_right _ (h))))))) 0 (by decide) (List.mem_cons_of_mem _ (List.mem_append_left _ (List.mem_append_left _ (List.mem_append_left _ (List.mem_append_left _ (List.mem_append_left _ (List.mem_append_left _ (List.mem_of_getElem? (i := 4) rfl)))))))) rfl (v := .ref (h + 1)) rfl dX2_init_25 ?_
        refine lv_iload_n hx hb dX2_init_28 rfl (lv_at hl 1 rfl) ?_
        refine k_new (q := h + 59*k + 2) (N := 7) (T := TX1) S (fun _ h => List.mem_cons_of_mem _ (List.mem_append_left _ (List.mem_append_left _ (List.mem_append_left _ (List.mem_append_right _ (h)))))) tyX1_ok (List.mem_cons_of_mem _ (List.mem_append_left _ (List.mem_append_left _ (List.mem_append_left _ (List.mem_append_left _ (List.mem_append_left _ (List.mem_append_left _ (List.mem_of_getElem? (i := 3) rfl)))))))) (List.mem_cons_of_mem _ (List.mem_append_left _ (List.mem_append_left _ (List.mem_append_left _ (List.mem_append_left _ (List.mem_append_left _ (List.mem_append_left _ (List.mem_of_getElem? (i := 5) rfl)))))))) (List.mem_cons_of_mem _ (List.mem_append_left _ (List.mem_append_left _ (List.mem_append_left _ (List.mem_append_left _ (List.mem_append_left _ (List.mem_append_left _ (List.mem_of_getElem? (i := 6) rfl)))))))) hK hS (ci := 1) rfl dfX1 (by show _ ≤ 355; omega) (by show _ ≤ 2262; omega) hz dX2_init_29 (fun H a1 hz hF hS => ?_)
        have a0 := a0.kept (hF _ (by omega))
        have h1 := h1.kept (hF _ (by omega))
        have h2 := fun i h_9 => dp_fr2 (h2 i h_9) (fun q h9 hq => hF q (by have := hq.1; have := hq.2; omega))
        have hz : H.size = h + 59*k + 3 := by omega
        refine lv_dup hx hb dX2_init_32 rfl ?_
        refine k_IM (As := []) (rest := [.ref (h + 59*k + 2), .int (nI k), .ref (h + 1)]) S hK (c_X1_init l E (h + 59*k + 2)) ggX2_init_X1_init rfl hd_X1_init (List.mem_cons_of_mem _ (List.mem_append_left _ (List.mem_append_left _ (List.mem_append_left _ (List.mem_append_left _ (List.mem_append_left _ (List.mem_append_left _ (List.mem_of_getElem? (i := 6) rfl)))))))) (List.mem_cons_of_mem _ (List.mem_append_left _ (List.mem_append_left _ (List.mem_append_left _ (List.mem_append_left _ (List.mem_append_left _ (List.mem_append_left _ (List.mem_of_getElem? (i := 7) rfl)))))))) (List.mem_cons_of_mem _ (List.mem_append_left _ (List.mem_append_left _ (List.mem_append_left _ (List.mem_append_left _ (List.mem_append_left _ (List.mem_append_left _ (List.mem_of_getElem? (i := 8) rfl)))))))) rfl ⟨rfl, rfl⟩ ⟨Nat.le_of_ble_eq_true rfl, Nat.le_of_ble_eq_true rfl⟩ (⟨hz, a1⟩) rfl hl.1 rfl (Nat.le_of_ble_eq_true rfl) dX2_init_33 ⟨by show _ ≤ 355; omega, by show _ ≤ 2262; omega⟩ hS (fun q h => ⟨by have := h.1; omega, by have := h.2; omega⟩) (fun q h => ⟨by have := h.1; omega, by have := h.2; omega⟩) (fun H locs hQ zH hF hS => ?_)
        have a0 := a0.kept (hF _ (by omega) (fun k => by have := k.1; have := k.2; omega))
        have h1 := h1.kept (hF _ (by omega) (fun k => by have := k.1; have := k.2; omega))
        have h2 := fun i h_9 => dp_fr2 (h2 i h_9) (fun q h9 hq => hF q h9 (bl_ne hq (by omega)))
        obtain ⟨hz, a2⟩ := hQ
        have hz : H.size = h + 59*k + 61 := by omega
        refine k_aast (i := k) (t := 4) hx hb hK h1 rfl a2.1 rfl (by omega) (by decide) hS (by constructor <;> omega) dX2_init_36 (fun H locs a3 zH hF hS => ?_)
        have a0 := a0.kept (hF _ (by omega))
        have h2 := fun i h_9 => dp_fr2 (h2 i h_9) (fun q h9 hq => hF q (by have := hq.1; have := hq.2; omega))
        have a2 := dp_fr2 a2 (fun q h9 hq => hF q (by have := hq.1; have := hq.2; omega))
        have hz : H.size = h + 59*k + 61 := by omega
        refine lv_iinc (v := nI (k + 1)) (lv' := [(1, .int (nI (k + 1))), (0, .ref h)]) hx hb dX2_init_37 hl (k := 1) rfl (inc_1 _) (by decide) rfl (fun ls hl => ?_)
        refine lv_goto (tgt := 15) hx hb dX2_init_40 (by decide) ?_
        exact k_cs (by omega) (by omega) (ih (k + 1) (by omega) (by omega) _ _ (by omega) a0 (by have h8 := a3; rw [rfk_s (f := fun k => h + 59*k + 2)] at h8; exact h8) (fam_s h2 a2) hS _ (lv_sub hl [1, 0] rfl))
  refine lv_aload_n hx hb dX2_init_0 rfl (lv_at hl 0 rfl) ?_
  refine k_oi S (List.mem_cons_of_mem _ (List.mem_append_left _ (List.mem_append_left _ (List.mem_append_left _ (List.mem_append_left _ (List.mem_append_left _ (List.mem_append_left _ (List.mem_of_getElem? (i := 0) rfl)))))))) (List.mem_cons_of_mem _ (List.mem_append_left _ (List.mem_append_left _ (List.mem_append_left _ (List.mem_append_left _ (List.mem_append_left _ (List.mem_append_left _ (List.mem_of_getElem? (i := 1) rfl)))))))) (List.mem_cons_of_mem _ (List.mem_append_left _ (List.mem_append_left _ (List.mem_append_left _ (List.mem_append_left _ (List.mem_append_left _ (List.mem_append_left _ (List.mem_of_getElem? (i := 2) rfl)))))))) hl.1 dX2_init_1 (Nat.le_of_ble_eq_true rfl) (Nat.le_of_ble_eq_true rfl) ?_
  refine lv_aload_n hx hb dX2_init_4 rfl (lv_at hl 0 rfl) ?_
  refine lv_bipush (v := nI 6) hx hb dX2_init_5 (by decide) ?_
  refine k_newq (t := 4) (n := 6) (q := h + 1) S (List.mem_cons_of_mem _ (List.mem_append_left _ (List.mem_append_left _ (List.mem_append_left _ (List.mem_append_left _ (List.mem_append_left _ (List.mem_append_left _ (List.mem_of_getElem? (i := 3) rfl)))))))) (by decide) hK rfl hS (by omega) (by show _ ≤ 355; omega) (by show _ ≤ 2262; omega) hz dX2_init_7 (fun H a1 hz hF hS => ?_)
  have a0 := a0.kept (hF _ (by omega))
  have hz : H.size = h + 2 := by omega
  refine k_putF S hK a0 rfl (fun _ h => List.mem_cons_of_mem _ (List.mem_append_left _ (List.mem_append_left _ (List.mem_append_left _ (List.mem_append_left _ (List.mem_append_right _ (h))))))) tyX2_ok nmX2 0 (by decide) (List.mem_cons_of_mem _ (List.mem_append_left _ (List.mem_append_left _ (List.mem_append_left _ (List.mem_append_left _ (List.mem_append_left _ (List.mem_append_left _ (List.mem_of_getElem? (i := 4) rfl)))))))) rfl rfl rfl hin0 rfl rfl (by simp) hS (by constructor <;> omega) dX2_init_10 (fun H locs a2 zH hF hS => ?_)
  have a2 : va_at E.1 vwCl (h, .inr (2, [.ref (h + 1), .int 0])) H := a2
  have a1 := a1.kept (hF _ (by omega))
  have hz : H.size = h + 2 := by omega
  refine lv_iconst (v := nI 0) hx hb dX2_init_13 (by decide) ?_
  refine lv_istore_n (lv' := [(1, .int (nI 0)), (0, .ref h)]) hx hb dX2_init_14 rfl hl (by decide) rfl (fun ls hl => ?_)
  exact k_cs (by omega) (by omega) (J15 (6 + 1) 0 (by omega) (by omega) _ _ (by omega) a2 (by have h8 := a1; rw [rfk_0 (f := fun k => h + 59*k + 2)] at h8; exact h8) (fun _ h8 => absurd h8 (by omega)) hS _ (lv_sub hl [1, 0] rfl))
def rm_X0_init : Room := { frames := 1, cells := 1, slots := 60, locals := 12 }
theorem hd_X0_init : k_hd1 yX0_init RX0 0 := by decide +kernel
set_option maxHeartbeats 4000000 in
set_option maxRecDepth 100000 in
theorem c_X0_init (l : Launch) (E : ke_E) (b : Nat) : Met l yX0_init wsX0_init rm_X0_init (kp E [.ref b] ((n0 E b))) (qm none (bl b 2) ((b0 E b))) 1 60 (bl b 2) := by
  refine k_hd (cc := cX0_init) (maxL := 1) (ret := none) (by decide) rfl (Nat.le_of_ble_eq_true rfl) ?_
  intro p e s m below meth c ls S hr hlk hnm hK hP hl
  have hx := S.1
  have hb := S.2.1
  have hts := S.2.2.2.2
  have hin0 : meth.name = "<init>" := hnm
  obtain ⟨hz, a0⟩ := hP
  have hl : lv_has ls 1 [(0, .ref b)] := hl
  have hS : va_S (bl b 2) s.heap s.heap [] := va_S.rf
  refine lv_aload_n hx hb dX0_init_0 rfl (lv_at hl 0 rfl) ?_
  refine k_oi S (List.mem_cons_of_mem _ (List.mem_append_left _ (List.mem_of_getElem? (i := 0) rfl))) (List.mem_cons_of_mem _ (List.mem_append_left _ (List.mem_of_getElem? (i := 1) rfl))) (List.mem_cons_of_mem _ (List.mem_append_left _ (List.mem_of_getElem? (i := 2) rfl))) hl.1 dX0_init_1 (Nat.le_of_ble_eq_true rfl) (Nat.le_of_ble_eq_true rfl) ?_
  refine lv_aload_n hx hb dX0_init_4 rfl (lv_at hl 0 rfl) ?_
  refine lv_bipush (v := nI 60) hx hb dX0_init_5 (by decide) ?_
  refine k_newa (n := 60) (q := b + 1) hx hb (hts _ (List.mem_cons_of_mem _ (List.mem_append_left _ (List.mem_of_getElem? (i := 3) rfl)))) hK hS (by omega) (by show _ ≤ 1; omega) (by show _ ≤ 60; omega) hz dX0_init_7 (fun H a1 hz hF hS => ?_)
  have a0 := a0.kept (hF _ (by omega))
  have hz : H.size = b + 2 := by omega
  refine k_putF S hK a0 rfl (fun _ h => List.mem_cons_of_mem _ (List.mem_append_right _ (h))) tyX0_ok nmX0 0 (by decide) (List.mem_cons_of_mem _ (List.mem_append_left _ (List.mem_of_getElem? (i := 4) rfl))) rfl rfl rfl hin0 rfl rfl (by simp) hS (by constructor <;> omega) dX0_init_9 (fun H locs a2 zH hF hS => ?_)
  have a2 : va_at E.1 vwCl (b, .inr (0, [.ref (b + 1), .int 0, .int 0, .int 0])) H := a2
  have a1 := a1.kept (hF _ (by omega))
  have hz : H.size = b + 2 := by omega
  refine lv_aload_n hx hb dX0_init_12 rfl (lv_at hl 0 rfl) ?_
  refine lv_iconst (v := (-1)) hx hb dX0_init_13 (by decide) ?_
  refine k_put S hK a2 rfl (fun _ h => List.mem_cons_of_mem _ (List.mem_append_right _ (h))) tyX0_ok nmX0 2 (by decide) (List.mem_cons_of_mem _ (List.mem_append_left _ (List.mem_of_getElem? (i := 5) rfl))) rfl rfl rfl rfl (by simp) hS (by constructor <;> omega) dX0_init_14 (fun H locs a3 zH hF hS => ?_)
  have a3 : va_at E.1 vwCl (b, .inr (0, [.ref (b + 1), .int 0, .int (-1), .int 0])) H := a3
  have a1 := a1.kept (hF _ (by omega))
  have hz : H.size = b + 2 := by omega
  refine lv_aload_n hx hb dX0_init_17 rfl (lv_at hl 0 rfl) ?_
  refine lv_iconst (v := nI 0) hx hb dX0_init_18 (by decide) ?_
  refine k_put S hK a3 rfl (fun _ h => List.mem_cons_of_mem _ (List.mem_append_right _ (h))) tyX0_ok nmX0 3 (by decide) (List.mem_cons_of_mem _ (List.mem_append_left _ (List.mem_of_getElem? (i := 6) rfl))) rfl rfl rfl rfl (by simp) hS (by constructor <;> omega) dX0_init_19 (fun H locs a4 zH hF hS => ?_)
  have a4 : va_at E.1 vwCl (b, .inr (0, [.ref (b + 1), .int 0, .int (-1), .int (nI 0)])) H := a4
  have a1 := a1.kept (hF _ (by omega))
  have hz : H.size = b + 2 := by omega
  exact k_cs (cells' := 1) (slots' := 60) (by omega) (by omega) (k_vretM hx hb hr hlk dX0_init_22 hS (show (b0 E b) H from ⟨hz, a4, a1⟩))
def rm_X6_init : Room := { frames := 4, cells := 476, slots := 3080, locals := 74 }
theorem hd_X6_init : k_hd1 yX6_init RX6 0 := by decide +kernel
set_option maxHeartbeats 4000000 in
set_option maxRecDepth 100000 in
theorem c_X6_init (l : Launch) (E : ke_E) (o : Nat) : Met l yX6_init wsX6_init rm_X6_init (kp E [.ref o] ((n6 E o))) (qm none (bl o 477) ((b6 E o))) 476 3080 (bl o 477) := by
  refine k_hd (cc := cX6_init) (maxL := 1) (ret := none) (by decide) rfl (Nat.le_of_ble_eq_true rfl) ?_
  intro p e s m below meth c ls S hr hlk hnm hK hP hl
  have hx := S.1
  have hb := S.2.1
  have hts := S.2.2.2.2
  have hin0 : meth.name = "<init>" := hnm
  obtain ⟨hz, a0⟩ := hP
  have hl : lv_has ls 1 [(0, .ref o)] := hl
  have hS : va_S (bl o 477) s.heap s.heap [] := va_S.rf
  refine lv_aload_n hx hb dX6_init_0 rfl (lv_at hl 0 rfl) ?_
  refine k_oi S (List.mem_cons_of_mem _ (List.mem_append_left _ (List.mem_append_left _ (List.mem_append_left _ (List.mem_append_left _ (List.mem_append_left _ (List.mem_append_left _ (List.mem_append_left _ (List.mem_append_left _ (List.mem_of_getElem? (i := 0) rfl)))))))))) (List.mem_cons_of_mem _ (List.mem_append_left _ (List.mem_append_left _ (List.mem_append_left _ (List.mem_append_left _ (List.mem_append_left _ (List.mem_append_left _ (List.mem_append_left _ (List.mem_append_left _ (List.mem_of_getElem? (i := 1) rfl)))))))))) (List.mem_cons_of_mem _ (List.mem_append_left _ (List.mem_append_left _ (List.mem_append_left _ (List.mem_append_left _ (List.mem_append_left _ (List.mem_append_left _ (List.mem_append_left _ (List.mem_append_left _ (List.mem_of_getElem? (i := 2) rfl)))))))))) hl.1 dX6_init_1 (Nat.le_of_ble_eq_true rfl) (Nat.le_of_ble_eq_true rfl) ?_
  refine lv_aload_n hx hb dX6_init_4 rfl (lv_at hl 0 rfl) ?_
  refine k_new (q := o + 1) (N := 7) (T := TX1) S (fun _ h => List.mem_cons_of_mem _ (List.mem_append_left _ (List.mem_append_left _ (List.mem_append_left _ (List.mem_append_left _ (List.mem_append_left _ (List.mem_append_left _ (List.mem_append_right _ (h))))))))) tyX1_ok (List.mem_cons_of_mem _ (List.mem_append_left _ (List.mem_append_left _ (List.mem_append_left _ (List.mem_append_left _ (List.mem_append_left _ (List.mem_append_left _ (List.mem_append_left _ (List.mem_append_left _ (List.mem_of_getElem? (i := 3) rfl)))))))))) (List.mem_cons_of_mem _ (List.mem_append_left _ (List.mem_append_left _ (List.mem_append_left _ (List.mem_append_left _ (List.mem_append_left _ (List.mem_append_left _ (List.mem_append_left _ (List.mem_append_left _ (List.mem_of_getElem? (i := 4) rfl)))))))))) (List.mem_cons_of_mem _ (List.mem_append_left _ (List.mem_append_left _ (List.mem_append_left _ (List.mem_append_left _ (List.mem_append_left _ (List.mem_append_left _ (List.mem_append_left _ (List.mem_append_left _ (List.mem_of_getElem? (i := 5) rfl)))))))))) hK hS (ci := 1) rfl dfX1 (by show _ ≤ 476; omega) (by show _ ≤ 3080; omega) hz dX6_init_5 (fun H a1 hz hF hS => ?_)
  have a0 := a0.kept (hF _ (by omega))
  have hz : H.size = o + 2 := by omega
  refine lv_dup hx hb dX6_init_8 rfl ?_
  refine k_IM (As := []) (rest := [.ref (o + 1), .ref o]) S hK (c_X1_init l E (o + 1)) ggX6_init_X1_init rfl hd_X1_init (List.mem_cons_of_mem _ (List.mem_append_left _ (List.mem_append_left _ (List.mem_append_left _ (List.mem_append_left _ (List.mem_append_left _ (List.mem_append_left _ (List.mem_append_left _ (List.mem_append_left _ (List.mem_of_getElem? (i := 5) rfl)))))))))) (List.mem_cons_of_mem _ (List.mem_append_left _ (List.mem_append_left _ (List.mem_append_left _ (List.mem_append_left _ (List.mem_append_left _ (List.mem_append_left _ (List.mem_append_left _ (List.mem_append_left _ (List.mem_of_getElem? (i := 16) rfl)))))))))) (List.mem_cons_of_mem _ (List.mem_append_left _ (List.mem_append_left _ (List.mem_append_left _ (List.mem_append_left _ (List.mem_append_left _ (List.mem_append_left _ (List.mem_append_left _ (List.mem_append_left _ (List.mem_of_getElem? (i := 17) rfl)))))))))) rfl ⟨rfl, rfl⟩ ⟨Nat.le_of_ble_eq_true rfl, Nat.le_of_ble_eq_true rfl⟩ (⟨hz, a1⟩) rfl hl.1 rfl (Nat.le_of_ble_eq_true rfl) dX6_init_9 ⟨by show _ ≤ 476; omega, by show _ ≤ 3080; omega⟩ hS (fun q h => ⟨by have := h.1; omega, by have := h.2; omega⟩) (fun q h => ⟨by have := h.1; omega, by have := h.2; omega⟩) (fun H locs hQ zH hF hS => ?_)
  have a0 := a0.kept (hF _ (by omega) (fun k => by have := k.1; have := k.2; omega))
  obtain ⟨hz, a2⟩ := hQ
  have hz : H.size = o + 60 := by omega
  refine k_putF S hK a0 rfl (fun _ h => List.mem_cons_of_mem _ (List.mem_append_left _ (List.mem_append_left _ (List.mem_append_left _ (List.mem_append_left _ (List.mem_append_left _ (List.mem_append_right _ (h)))))))) tyX6_ok nmX6 0 (by decide) (List.mem_cons_of_mem _ (List.mem_append_left _ (List.mem_append_left _ (List.mem_append_left _ (List.mem_append_left _ (List.mem_append_left _ (List.mem_append_left _ (List.mem_append_left _ (List.mem_append_left _ (List.mem_of_getElem? (i := 6) rfl)))))))))) rfl rfl rfl hin0 rfl rfl (by simp) hS (by constructor <;> omega) dX6_init_12 (fun H locs a3 zH hF hS => ?_)
  have a3 : va_at E.1 vwCl (o, .inr (6, [.ref (o + 1), .null, .null, .null])) H := a3
  have a2 := dp_fr2 a2 (fun q h9 hq => hF q (by have := hq.1; have := hq.2; omega))
  have hz : H.size = o + 60 := by omega
  refine lv_aload_n hx hb dX6_init_15 rfl (lv_at hl 0 rfl) ?_
  refine k_new (q := o + 60) (N := 7) (T := TX1) S (fun _ h => List.mem_cons_of_mem _ (List.mem_append_left _ (List.mem_append_left _ (List.mem_append_left _ (List.mem_append_left _ (List.mem_append_left _ (List.mem_append_left _ (List.mem_append_right _ (h))))))))) tyX1_ok (List.mem_cons_of_mem _ (List.mem_append_left _ (List.mem_append_left _ (List.mem_append_left _ (List.mem_append_left _ (List.mem_append_left _ (List.mem_append_left _ (List.mem_append_left _ (List.mem_append_left _ (List.mem_of_getElem? (i := 3) rfl)))))))))) (List.mem_cons_of_mem _ (List.mem_append_left _ (List.mem_append_left _ (List.mem_append_left _ (List.mem_append_left _ (List.mem_append_left _ (List.mem_append_left _ (List.mem_append_left _ (List.mem_append_left _ (List.mem_of_getElem? (i := 4) rfl)))))))))) (List.mem_cons_of_mem _ (List.mem_append_left _ (List.mem_append_left _ (List.mem_append_left _ (List.mem_append_left _ (List.mem_append_left _ (List.mem_append_left _ (List.mem_append_left _ (List.mem_append_left _ (List.mem_of_getElem? (i := 5) rfl)))))))))) hK hS (ci := 1) rfl dfX1 (by show _ ≤ 476; omega) (by show _ ≤ 3080; omega) hz dX6_init_16 (fun H a4 hz hF hS => ?_)
  have a3 := a3.kept (hF _ (by omega))
  have a2 := dp_fr2 a2 (fun q h9 hq => hF q (by have := hq.1; have := hq.2; omega))
  have hz : H.size = o + 61 := by omega
  refine lv_dup hx hb dX6_init_19 rfl ?_
  refine k_IM (As := []) (rest := [.ref (o + 60), .ref o]) S hK (c_X1_init l E (o + 60)) ggX6_init_X1_init rfl hd_X1_init (List.mem_cons_of_mem _ (List.mem_append_left _ (List.mem_append_left _ (List.mem_append_left _ (List.mem_append_left _ (List.mem_append_left _ (List.mem_append_left _ (List.mem_append_left _ (List.mem_append_left _ (List.mem_of_getElem? (i := 5) rfl)))))))))) (List.mem_cons_of_mem _ (List.mem_append_left _ (List.mem_append_left _ (List.mem_append_left _ (List.mem_append_left _ (List.mem_append_left _ (List.mem_append_left _ (List.mem_append_left _ (List.mem_append_left _ (List.mem_of_getElem? (i := 16) rfl)))))))))) (List.mem_cons_of_mem _ (List.mem_append_left _ (List.mem_append_left _ (List.mem_append_left _ (List.mem_append_left _ (List.mem_append_left _ (List.mem_append_left _ (List.mem_append_left _ (List.mem_append_left _ (List.mem_of_getElem? (i := 17) rfl)))))))))) rfl ⟨rfl, rfl⟩ ⟨Nat.le_of_ble_eq_true rfl, Nat.le_of_ble_eq_true rfl⟩ (⟨hz, a4⟩) rfl hl.1 rfl (Nat.le_of_ble_eq_true rfl) dX6_init_20 ⟨by show _ ≤ 476; omega, by show _ ≤ 3080; omega⟩ hS (fun q h => ⟨by have := h.1; omega, by have := h.2; omega⟩) (fun q h => ⟨by have := h.1; omega, by have := h.2; omega⟩) (fun H locs hQ zH hF hS => ?_)
  have a3 := a3.kept (hF _ (by omega) (fun k => by have := k.1; have := k.2; omega))
  have a2 := dp_fr2 a2 (fun q h9 hq => hF q h9 (bl_ne hq (by omega)))
  obtain ⟨hz, a5⟩ := hQ
  have hz : H.size = o + 119 := by omega
  refine k_putF S hK a3 rfl (fun _ h => List.mem_cons_of_mem _ (List.mem_append_left _ (List.mem_append_left _ (List.mem_append_left _ (List.mem_append_left _ (List.mem_append_left _ (List.mem_append_right _ (h)))))))) tyX6_ok nmX6 1 (by decide) (List.mem_cons_of_mem _ (List.mem_append_left _ (List.mem_append_left _ (List.mem_append_left _ (List.mem_append_left _ (List.mem_append_left _ (List.mem_append_left _ (List.mem_append_left _ (List.mem_append_left _ (List.mem_of_getElem? (i := 7) rfl)))))))))) rfl rfl rfl hin0 rfl rfl (by simp) hS (by constructor <;> omega) dX6_init_23 (fun H locs a6 zH hF hS => ?_)
  have a6 : va_at E.1 vwCl (o, .inr (6, [.ref (o + 1), .ref (o + 60), .null, .null])) H := a6
  have a2 := dp_fr2 a2 (fun q h9 hq => hF q (by have := hq.1; have := hq.2; omega))
  have a5 := dp_fr2 a5 (fun q h9 hq => hF q (by have := hq.1; have := hq.2; omega))
  have hz : H.size = o + 119 := by omega
  refine lv_aload_n hx hb dX6_init_26 rfl (lv_at hl 0 rfl) ?_
  refine k_new (q := o + 119) (N := 2) (T := TX2) S (fun _ h => List.mem_cons_of_mem _ (List.mem_append_left _ (List.mem_append_left _ (List.mem_append_left _ (List.mem_append_left _ (List.mem_append_right _ (h))))))) tyX2_ok (List.mem_cons_of_mem _ (List.mem_append_left _ (List.mem_append_left _ (List.mem_append_left _ (List.mem_append_left _ (List.mem_append_left _ (List.mem_append_left _ (List.mem_append_left _ (List.mem_append_left _ (List.mem_of_getElem? (i := 8) rfl)))))))))) (List.mem_cons_of_mem _ (List.mem_append_left _ (List.mem_append_left _ (List.mem_append_left _ (List.mem_append_left _ (List.mem_append_left _ (List.mem_append_left _ (List.mem_append_left _ (List.mem_append_left _ (List.mem_of_getElem? (i := 9) rfl)))))))))) (List.mem_cons_of_mem _ (List.mem_append_left _ (List.mem_append_left _ (List.mem_append_left _ (List.mem_append_left _ (List.mem_append_left _ (List.mem_append_left _ (List.mem_append_left _ (List.mem_append_left _ (List.mem_of_getElem? (i := 10) rfl)))))))))) hK hS (ci := 2) rfl dfX2 (by show _ ≤ 476; omega) (by show _ ≤ 3080; omega) hz dX6_init_27 (fun H a7 hz hF hS => ?_)
  have a6 := a6.kept (hF _ (by omega))
  have a2 := dp_fr2 a2 (fun q h9 hq => hF q (by have := hq.1; have := hq.2; omega))
  have a5 := dp_fr2 a5 (fun q h9 hq => hF q (by have := hq.1; have := hq.2; omega))
  have hz : H.size = o + 120 := by omega
  refine lv_dup hx hb dX6_init_30 rfl ?_
  refine k_IM (As := []) (rest := [.ref (o + 119), .ref o]) S hK (c_X2_init l E (o + 119)) ggX6_init_X2_init rfl hd_X2_init (List.mem_cons_of_mem _ (List.mem_append_left _ (List.mem_append_left _ (List.mem_append_left _ (List.mem_append_left _ (List.mem_append_left _ (List.mem_append_left _ (List.mem_append_left _ (List.mem_append_left _ (List.mem_of_getElem? (i := 10) rfl)))))))))) (List.mem_cons_of_mem _ (List.mem_append_left _ (List.mem_append_left _ (List.mem_append_left _ (List.mem_append_left _ (List.mem_append_left _ (List.mem_append_left _ (List.mem_append_left _ (List.mem_append_right _ (List.mem_append_left _ (List.mem_of_getElem? (i := 23) rfl))))))))))) (List.mem_cons_of_mem _ (List.mem_append_left _ (List.mem_append_left _ (List.mem_append_left _ (List.mem_append_left _ (List.mem_append_left _ (List.mem_append_left _ (List.mem_append_left _ (List.mem_append_right _ (List.mem_append_right _ (List.mem_of_getElem? (i := 0) rfl))))))))))) rfl ⟨rfl, rfl⟩ ⟨Nat.le_of_ble_eq_true rfl, Nat.le_of_ble_eq_true rfl⟩ (⟨hz, a7⟩) rfl hl.1 rfl (Nat.le_of_ble_eq_true rfl) dX6_init_31 ⟨by show _ ≤ 476; omega, by show _ ≤ 3080; omega⟩ hS (fun q h => ⟨by have := h.1; omega, by have := h.2; omega⟩) (fun q h => ⟨by have := h.1; omega, by have := h.2; omega⟩) (fun H locs hQ zH hF hS => ?_)
  have a6 := a6.kept (hF _ (by omega) (fun k => by have := k.1; have := k.2; omega))
  have a2 := dp_fr2 a2 (fun q h9 hq => hF q h9 (bl_ne hq (by omega)))
  have a5 := dp_fr2 a5 (fun q h9 hq => hF q h9 (bl_ne hq (by omega)))
  obtain ⟨hz, a8, a9, a10⟩ := hQ
  have hz : H.size = o + 475 := by omega
  refine k_putF S hK a6 rfl (fun _ h => List.mem_cons_of_mem _ (List.mem_append_left _ (List.mem_append_left _ (List.mem_append_left _ (List.mem_append_left _ (List.mem_append_left _ (List.mem_append_right _ (h)))))))) tyX6_ok nmX6 2 (by decide) (List.mem_cons_of_mem _ (List.mem_append_left _ (List.mem_append_left _ (List.mem_append_left _ (List.mem_append_left _ (List.mem_append_left _ (List.mem_append_left _ (List.mem_append_left _ (List.mem_append_left _ (List.mem_of_getElem? (i := 11) rfl)))))))))) rfl rfl rfl hin0 rfl rfl (by simp) hS (by constructor <;> omega) dX6_init_34 (fun H locs a11 zH hF hS => ?_)
  have a11 : va_at E.1 vwCl (o, .inr (6, [.ref (o + 1), .ref (o + 60), .ref (o + 119), .null])) H := a11
  have a2 := dp_fr2 a2 (fun q h9 hq => hF q (by have := hq.1; have := hq.2; omega))
  have a5 := dp_fr2 a5 (fun q h9 hq => hF q (by have := hq.1; have := hq.2; omega))
  have a8 := a8.kept (hF _ (by omega))
  have a9 := a9.kept (hF _ (by omega))
  have a10 := fun k h_9 => dp_fr2 (a10 k h_9) (fun q h9 hq => hF q (by have := hq.1; have := hq.2; omega))
  have hz : H.size = o + 475 := by omega
  refine lv_aload_n hx hb dX6_init_37 rfl (lv_at hl 0 rfl) ?_
  refine k_new (q := o + 475) (N := 4) (T := TX0) S (fun _ h => List.mem_cons_of_mem _ (List.mem_append_left _ (List.mem_append_left _ (List.mem_append_left _ (List.mem_append_right _ (h)))))) tyX0_ok (List.mem_cons_of_mem _ (List.mem_append_left _ (List.mem_append_left _ (List.mem_append_left _ (List.mem_append_left _ (List.mem_append_left _ (List.mem_append_left _ (List.mem_append_left _ (List.mem_append_left _ (List.mem_of_getElem? (i := 12) rfl)))))))))) (List.mem_cons_of_mem _ (List.mem_append_left _ (List.mem_append_left _ (List.mem_append_left _ (List.mem_append_left _ (List.mem_append_left _ (List.mem_append_left _ (List.mem_append_left _ (List.mem_append_left _ (List.mem_of_getElem? (i := 13) rfl)))))))))) (List.mem_cons_of_mem _ (List.mem_append_left _ (List.mem_append_left _ (List.mem_append_left _ (List.mem_append_left _ (List.mem_append_left _ (List.mem_append_left _ (List.mem_append_left _ (List.mem_append_left _ (List.mem_of_getElem? (i := 14) rfl)))))))))) hK hS (ci := 0) rfl dfX0 (by show _ ≤ 476; omega) (by show _ ≤ 3080; omega) hz dX6_init_38 (fun H a12 hz hF hS => ?_)
  have a11 := a11.kept (hF _ (by omega))
  have a2 := dp_fr2 a2 (fun q h9 hq => hF q (by have := hq.1; have := hq.2; omega))
  have a5 := dp_fr2 a5 (fun q h9 hq => hF q (by have := hq.1; have := hq.2; omega))
  have a8 := a8.kept (hF _ (by omega))
  have a9 := a9.kept (hF _ (by omega))
  have a10 := fun k h_9 => dp_fr2 (a10 k h_9) (fun q h9 hq => hF q (by have := hq.1; have := hq.2; omega))
  have hz : H.size = o + 476 := by omega
  refine lv_dup hx hb dX6_init_41 rfl ?_
  refine k_INM (q := (RX6, 28, yX0_init, RX6)) (As := []) (rest := [.ref (o + 475), .ref o]) S hK (List.mem_of_getElem? (i := 0) rfl) (c_X0_init l E (o + 475)) ggX6_init_X0_init rfl hd_X0_init (List.mem_cons_of_mem _ (List.mem_append_left _ (List.mem_append_left _ (List.mem_append_left _ (List.mem_append_left _ (List.mem_append_left _ (List.mem_append_left _ (List.mem_append_left _ (List.mem_append_left _ (List.mem_of_getElem? (i := 14) rfl)))))))))) (List.mem_cons_of_mem _ (List.mem_append_left _ (List.mem_append_left _ (List.mem_append_left _ (List.mem_append_left _ (List.mem_append_left _ (List.mem_append_left _ (List.mem_append_left _ (List.mem_append_right _ (List.mem_append_right _ (List.mem_of_getElem? (i := 6) rfl))))))))))) rfl ⟨rfl, rfl⟩ ⟨Nat.le_of_ble_eq_true rfl, Nat.le_of_ble_eq_true rfl⟩ (⟨hz, a12⟩) rfl hl.1 rfl (Nat.le_of_ble_eq_true rfl) dX6_init_42 ⟨by show _ ≤ 476; omega, by show _ ≤ 3080; omega⟩ hS (fun q h => ⟨by have := h.1; omega, by have := h.2; omega⟩) (fun q h => ⟨by have := h.1; omega, by have := h.2; omega⟩) (fun H locs hQ zH hF hS => ?_)
  have a11 := a11.kept (hF _ (by omega) (fun k => by have := k.1; have := k.2; omega))
  have a2 := dp_fr2 a2 (fun q h9 hq => hF q h9 (bl_ne hq (by omega)))
  have a5 := dp_fr2 a5 (fun q h9 hq => hF q h9 (bl_ne hq (by omega)))
  have a8 := a8.kept (hF _ (by omega) (fun k => by have := k.1; have := k.2; omega))
  have a9 := a9.kept (hF _ (by omega) (fun k => by have := k.1; have := k.2; omega))
  have a10 := fun k h_9 => dp_fr2 (a10 k h_9) (fun q h9 hq => hF q h9 (bl_ne hq (by omega)))
  obtain ⟨hz, a13, a14⟩ := hQ
  have hz : H.size = o + 477 := by omega
  refine k_putF S hK a11 rfl (fun _ h => List.mem_cons_of_mem _ (List.mem_append_left _ (List.mem_append_left _ (List.mem_append_left _ (List.mem_append_left _ (List.mem_append_left _ (List.mem_append_right _ (h)))))))) tyX6_ok nmX6 3 (by decide) (List.mem_cons_of_mem _ (List.mem_append_left _ (List.mem_append_left _ (List.mem_append_left _ (List.mem_append_left _ (List.mem_append_left _ (List.mem_append_left _ (List.mem_append_left _ (List.mem_append_left _ (List.mem_of_getElem? (i := 15) rfl)))))))))) rfl rfl rfl hin0 rfl rfl (by simp) hS (by constructor <;> omega) dX6_init_45 (fun H locs a15 zH hF hS => ?_)
  have a15 : va_at E.1 vwCl (o, .inr (6, [.ref (o + 1), .ref (o + 60), .ref (o + 119), .ref (o + 475)])) H := a15
  have a2 := dp_fr2 a2 (fun q h9 hq => hF q (by have := hq.1; have := hq.2; omega))
  have a5 := dp_fr2 a5 (fun q h9 hq => hF q (by have := hq.1; have := hq.2; omega))
  have a8 := a8.kept (hF _ (by omega))
  have a9 := a9.kept (hF _ (by omega))
  have a10 := fun k h_9 => dp_fr2 (a10 k h_9) (fun q h9 hq => hF q (by have := hq.1; have := hq.2; omega))
  have a13 := a13.kept (hF _ (by omega))
  have a14 := a14.kept (hF _ (by omega))
  have hz : H.size = o + 477 := by omega
  exact k_cs (cells' := 476) (slots' := 3080) (by omega) (by omega) (k_vretM hx hb hr hlk dX6_init_48 hS (show (b6 E o) H from ⟨hz, a15, a2, a5, a8, a9, a10, a13, a14⟩))
def b7 (E : ke_E) (o : Nat) (H : Heap) : Prop := H.size = o + 6 ∧ md E o zI ((fun _ => 0, fun _ => 0, fun _ => 0, fun _ => 0, 0, 0, 0, 0, 0, 0) : md_w) H
def rm_X7_init : Room := { frames := 1, cells := 5, slots := 2732, locals := 12 }
theorem hd_X7_init : k_hd1 yX7_init RX7 0 := by decide +kernel
set_option maxHeartbeats 4000000 in
set_option maxRecDepth 100000 in
theorem c_X7_init (l : Launch) (E : ke_E) (o : Nat) : Met l yX7_init wsX7_init rm_X7_init (kp E [.ref o] ((n7 E o))) (qm none (bl o 6) ((b7 E o))) 5 2732 (bl o 6) := by
  refine k_hd (cc := cX7_init) (maxL := 3) (ret := none) (by decide) rfl (Nat.le_of_ble_eq_true rfl) ?_
  intro p e s m below meth c ls S hr hlk hnm hK hP hl
  have hx := S.1
  have hb := S.2.1
  have hts := S.2.2.2.2
  have hin0 : meth.name = "<init>" := hnm
  obtain ⟨hz, a0⟩ := hP
  have hl : lv_has ls 3 [(0, .ref o)] := hl
  have hS : va_S (bl o 6) s.heap s.heap [] := va_S.rf
  refine lv_aload_n hx hb dX7_init_0 rfl (lv_at hl 0 rfl) ?_
  refine k_oi S (List.mem_cons_of_mem _ (List.mem_append_left _ (List.mem_of_getElem? (i := 0) rfl))) (List.mem_cons_of_mem _ (List.mem_append_left _ (List.mem_of_getElem? (i := 1) rfl))) (List.mem_cons_of_mem _ (List.mem_append_left _ (List.mem_of_getElem? (i := 2) rfl))) hl.1 dX7_init_1 (Nat.le_of_ble_eq_true rfl) (Nat.le_of_ble_eq_true rfl) ?_
  refine lv_aload_n hx hb dX7_init_4 rfl (lv_at hl 0 rfl) ?_
  refine lv_sipush (v := nI 322) hx hb dX7_init_5 (by decide) ?_
  refine k_newa (n := 322) (q := o + 1) hx hb (hts _ (List.mem_cons_of_mem _ (List.mem_append_left _ (List.mem_of_getElem? (i := 3) rfl)))) hK hS (by omega) (by show _ ≤ 5; omega) (by show _ ≤ 2732; omega) hz dX7_init_8 (fun H a1 hz hF hS => ?_)
  have a0 := a0.kept (hF _ (by omega))
  have hz : H.size = o + 2 := by omega
  refine k_putF S hK a0 rfl (fun _ h => List.mem_cons_of_mem _ (List.mem_append_right _ (h))) tyX7_ok nmX7 0 (by decide) (List.mem_cons_of_mem _ (List.mem_append_left _ (List.mem_of_getElem? (i := 4) rfl))) rfl rfl rfl hin0 rfl rfl (by simp) hS (by constructor <;> omega) dX7_init_10 (fun H locs a2 zH hF hS => ?_)
  have a2 : va_at E.1 vwCl (o, .inr (7, [.ref (o + 1), .null, .null, .int 0, .null, .int 0, .int 0, .int 0, .int 0, .null, .long 0])) H := a2
  have a1 := a1.kept (hF _ (by omega))
  have hz : H.size = o + 2 := by omega
  refine lv_aload_n hx hb dX7_init_13 rfl (lv_at hl 0 rfl) ?_
  refine lv_sipush (v := nI 1932) hx hb dX7_init_14 (by decide) ?_
  refine k_newa (n := 1932) (q := o + 2) hx hb (hts _ (List.mem_cons_of_mem _ (List.mem_append_left _ (List.mem_of_getElem? (i := 3) rfl)))) hK hS (by omega) (by show _ ≤ 5; omega) (by show _ ≤ 2732; omega) hz dX7_init_17 (fun H a3 hz hF hS => ?_)
  have a2 := a2.kept (hF _ (by omega))
  have a1 := a1.kept (hF _ (by omega))
  have hz : H.size = o + 3 := by omega
  refine k_putF S hK a2 rfl (fun _ h => List.mem_cons_of_mem _ (List.mem_append_right _ (h))) tyX7_ok nmX7 1 (by decide) (List.mem_cons_of_mem _ (List.mem_append_left _ (List.mem_of_getElem? (i := 5) rfl))) rfl rfl rfl hin0 rfl rfl (by simp) hS (by constructor <;> omega) dX7_init_19 (fun H locs a4 zH hF hS => ?_)
  have a4 : va_at E.1 vwCl (o, .inr (7, [.ref (o + 1), .ref (o + 2), .null, .int 0, .null, .int 0, .int 0, .int 0, .int 0, .null, .long 0])) H := a4
  have a1 := a1.kept (hF _ (by omega))
  have a3 := a3.kept (hF _ (by omega))
  have hz : H.size = o + 3 := by omega
  refine lv_aload_n hx hb dX7_init_22 rfl (lv_at hl 0 rfl) ?_
  refine lv_sipush (v := nI 322) hx hb dX7_init_23 (by decide) ?_
  refine k_newa (n := 322) (q := o + 3) hx hb (hts _ (List.mem_cons_of_mem _ (List.mem_append_left _ (List.mem_of_getElem? (i := 3) rfl)))) hK hS (by omega) (by show _ ≤ 5; omega) (by show _ ≤ 2732; omega) hz dX7_init_26 (fun H a5 hz hF hS => ?_)
  have a4 := a4.kept (hF _ (by omega))
  have a1 := a1.kept (hF _ (by omega))
  have a3 := a3.kept (hF _ (by omega))
  have hz : H.size = o + 4 := by omega
  refine k_putF S hK a4 rfl (fun _ h => List.mem_cons_of_mem _ (List.mem_append_right _ (h))) tyX7_ok nmX7 2 (by decide) (List.mem_cons_of_mem _ (List.mem_append_left _ (List.mem_of_getElem? (i := 6) rfl))) rfl rfl rfl hin0 rfl rfl (by simp) hS (by constructor <;> omega) dX7_init_28 (fun H locs a6 zH hF hS => ?_)
  have a6 : va_at E.1 vwCl (o, .inr (7, [.ref (o + 1), .ref (o + 2), .ref (o + 3), .int 0, .null, .int 0, .int 0, .int 0, .int 0, .null, .long 0])) H := a6
  have a1 := a1.kept (hF _ (by omega))
  have a3 := a3.kept (hF _ (by omega))
  have a5 := a5.kept (hF _ (by omega))
  have hz : H.size = o + 4 := by omega
  refine lv_aload_n hx hb dX7_init_31 rfl (lv_at hl 0 rfl) ?_
  refine lv_bipush (v := nI 60) hx hb dX7_init_32 (by decide) ?_
  refine k_newa (n := 60) (q := o + 4) hx hb (hts _ (List.mem_cons_of_mem _ (List.mem_append_left _ (List.mem_of_getElem? (i := 3) rfl)))) hK hS (by omega) (by show _ ≤ 5; omega) (by show _ ≤ 2732; omega) hz dX7_init_34 (fun H a7 hz hF hS => ?_)
  have a6 := a6.kept (hF _ (by omega))
  have a1 := a1.kept (hF _ (by omega))
  have a3 := a3.kept (hF _ (by omega))
  have a5 := a5.kept (hF _ (by omega))
  have hz : H.size = o + 5 := by omega
  refine k_putF S hK a6 rfl (fun _ h => List.mem_cons_of_mem _ (List.mem_append_right _ (h))) tyX7_ok nmX7 4 (by decide) (List.mem_cons_of_mem _ (List.mem_append_left _ (List.mem_of_getElem? (i := 7) rfl))) rfl rfl rfl hin0 rfl rfl (by simp) hS (by constructor <;> omega) dX7_init_36 (fun H locs a8 zH hF hS => ?_)
  have a8 : va_at E.1 vwCl (o, .inr (7, [.ref (o + 1), .ref (o + 2), .ref (o + 3), .int 0, .ref (o + 4), .int 0, .int 0, .int 0, .int 0, .null, .long 0])) H := a8
  have a1 := a1.kept (hF _ (by omega))
  have a3 := a3.kept (hF _ (by omega))
  have a5 := a5.kept (hF _ (by omega))
  have a7 := a7.kept (hF _ (by omega))
  have hz : H.size = o + 5 := by omega
  refine lv_aload_n hx hb dX7_init_39 rfl (lv_at hl 0 rfl) ?_
  refine lv_bipush (v := nI 96) hx hb dX7_init_40 (by decide) ?_
  refine k_newa (n := 96) (q := o + 5) hx hb (hts _ (List.mem_cons_of_mem _ (List.mem_append_left _ (List.mem_of_getElem? (i := 3) rfl)))) hK hS (by omega) (by show _ ≤ 5; omega) (by show _ ≤ 2732; omega) hz dX7_init_42 (fun H a9 hz hF hS => ?_)
  have a8 := a8.kept (hF _ (by omega))
  have a1 := a1.kept (hF _ (by omega))
  have a3 := a3.kept (hF _ (by omega))
  have a5 := a5.kept (hF _ (by omega))
  have a7 := a7.kept (hF _ (by omega))
  have hz : H.size = o + 6 := by omega
  refine k_putF S hK a8 rfl (fun _ h => List.mem_cons_of_mem _ (List.mem_append_right _ (h))) tyX7_ok nmX7 9 (by decide) (List.mem_cons_of_mem _ (List.mem_append_left _ (List.mem_of_getElem? (i := 8) rfl))) rfl rfl rfl hin0 rfl rfl (by simp) hS (by constructor <;> omega) dX7_init_44 (fun H locs a10 zH hF hS => ?_)
  have a10 : va_at E.1 vwCl (o, .inr (7, [.ref (o + 1), .ref (o + 2), .ref (o + 3), .int 0, .ref (o + 4), .int 0, .int 0, .int 0, .int 0, .ref (o + 5), .long 0])) H := a10
  have a1 := a1.kept (hF _ (by omega))
  have a3 := a3.kept (hF _ (by omega))
  have a5 := a5.kept (hF _ (by omega))
  have a7 := a7.kept (hF _ (by omega))
  have a9 := a9.kept (hF _ (by omega))
  have hz : H.size = o + 6 := by omega
  refine lv_aload_n hx hb dX7_init_47 rfl (lv_at hl 0 rfl) ?_
  refine k_get S hK a10 rfl (fun _ h => List.mem_cons_of_mem _ (List.mem_append_right _ (h))) 0 (by decide) (List.mem_cons_of_mem _ (List.mem_append_left _ (List.mem_of_getElem? (i := 4) rfl))) rfl (v := .ref (o + 1)) rfl dX7_init_48 ?_
  refine lv_bipush (v := nI 7) hx hb dX7_init_51 (by decide) ?_
  refine lv_bipush (v := nI 30) hx hb dX7_init_53 (by decide) ?_
  refine k_iast hx hb hK a1 (i := 7) (by omega) (by decide) hS (by constructor <;> omega) dX7_init_55 (fun H locs a11 zH hF hS => ?_)
  have a10 := a10.kept (hF _ (by omega))
  have a3 := a3.kept (hF _ (by omega))
  have a5 := a5.kept (hF _ (by omega))
  have a7 := a7.kept (hF _ (by omega))
  have a9 := a9.kept (hF _ (by omega))
  have hz : H.size = o + 6 := by omega
  refine lv_aload_n hx hb dX7_init_56 rfl (lv_at hl 0 rfl) ?_
  refine k_get S hK a10 rfl (fun _ h => List.mem_cons_of_mem _ (List.mem_append_right _ (h))) 0 (by decide) (List.mem_cons_of_mem _ (List.mem_append_left _ (List.mem_of_getElem? (i := 4) rfl))) rfl (v := .ref (o + 1)) rfl dX7_init_57 ?_
  refine lv_bipush (v := nI 8) hx hb dX7_init_60 (by decide) ?_
  refine lv_bipush (v := nI 20) hx hb dX7_init_62 (by decide) ?_
  refine k_iast hx hb hK a11 (i := 8) (by omega) (by decide) hS (by constructor <;> omega) dX7_init_64 (fun H locs a12 zH hF hS => ?_)
  have a10 := a10.kept (hF _ (by omega))
  have a3 := a3.kept (hF _ (by omega))
  have a5 := a5.kept (hF _ (by omega))
  have a7 := a7.kept (hF _ (by omega))
  have a9 := a9.kept (hF _ (by omega))
  have hz : H.size = o + 6 := by omega
  refine lv_aload_n hx hb dX7_init_65 rfl (lv_at hl 0 rfl) ?_
  refine k_get S hK a10 rfl (fun _ h => List.mem_cons_of_mem _ (List.mem_append_right _ (h))) 0 (by decide) (List.mem_cons_of_mem _ (List.mem_append_left _ (List.mem_of_getElem? (i := 4) rfl))) rfl (v := .ref (o + 1)) rfl dX7_init_66 ?_
  refine lv_bipush (v := nI 9) hx hb dX7_init_69 (by decide) ?_
  refine lv_bipush (v := nI 10) hx hb dX7_init_71 (by decide) ?_
  refine k_iast hx hb hK a12 (i := 9) (by omega) (by decide) hS (by constructor <;> omega) dX7_init_73 (fun H locs a13 zH hF hS => ?_)
  have a10 := a10.kept (hF _ (by omega))
  have a3 := a3.kept (hF _ (by omega))
  have a5 := a5.kept (hF _ (by omega))
  have a7 := a7.kept (hF _ (by omega))
  have a9 := a9.kept (hF _ (by omega))
  have hz : H.size = o + 6 := by omega
  refine lv_aload_n hx hb dX7_init_74 rfl (lv_at hl 0 rfl) ?_
  refine k_get S hK a10 rfl (fun _ h => List.mem_cons_of_mem _ (List.mem_append_right _ (h))) 0 (by decide) (List.mem_cons_of_mem _ (List.mem_append_left _ (List.mem_of_getElem? (i := 4) rfl))) rfl (v := .ref (o + 1)) rfl dX7_init_75 ?_
  refine lv_bipush (v := nI 10) hx hb dX7_init_78 (by decide) ?_
  refine lv_iconst (v := nI 2) hx hb dX7_init_80 (by decide) ?_
  refine k_iast hx hb hK a13 (i := 10) (by omega) (by decide) hS (by constructor <;> omega) dX7_init_81 (fun H locs a14 zH hF hS => ?_)
  have a10 := a10.kept (hF _ (by omega))
  have a3 := a3.kept (hF _ (by omega))
  have a5 := a5.kept (hF _ (by omega))
  have a7 := a7.kept (hF _ (by omega))
  have a9 := a9.kept (hF _ (by omega))
  have hz : H.size = o + 6 := by omega
  refine lv_aload_n hx hb dX7_init_82 rfl (lv_at hl 0 rfl) ?_
  refine k_get S hK a10 rfl (fun _ h => List.mem_cons_of_mem _ (List.mem_append_right _ (h))) 0 (by decide) (List.mem_cons_of_mem _ (List.mem_append_left _ (List.mem_of_getElem? (i := 4) rfl))) rfl (v := .ref (o + 1)) rfl dX7_init_83 ?_
  refine lv_bipush (v := nI 11) hx hb dX7_init_86 (by decide) ?_
  refine lv_iconst (v := nI 3) hx hb dX7_init_88 (by decide) ?_
  refine k_iast hx hb hK a14 (i := 11) (by omega) (by decide) hS (by constructor <;> omega) dX7_init_89 (fun H locs a15 zH hF hS => ?_)
  have a10 := a10.kept (hF _ (by omega))
  have a3 := a3.kept (hF _ (by omega))
  have a5 := a5.kept (hF _ (by omega))
  have a7 := a7.kept (hF _ (by omega))
  have a9 := a9.kept (hF _ (by omega))
  have hz : H.size = o + 6 := by omega
  refine lv_iconst (v := nI 0) hx hb dX7_init_90 (by decide) ?_
  refine lv_istore_n (lv' := [(1, .int (nI 0)), (0, .ref o)]) hx hb dX7_init_91 rfl hl (by decide) rfl (fun ls hl => ?_)
  refine lv_iload_n hx hb dX7_init_92 rfl (lv_at hl 0 rfl) ?_
  refine lv_bipush (v := nI 6) hx hb dX7_init_93 (by decide) ?_
  refine n_ige (tgt := 117) hx hb dX7_init_95 (by decide) (by omega) (by omega) (fun h => absurd h (by decide)) (fun c95 => ?_)
  refine lv_aload_n hx hb dX7_init_98 rfl (lv_at hl 1 rfl) ?_
  refine k_get S hK a10 rfl (fun _ h => List.mem_cons_of_mem _ (List.mem_append_right _ (h))) 0 (by decide) (List.mem_cons_of_mem _ (List.mem_append_left _ (List.mem_of_getElem? (i := 4) rfl))) rfl (v := .ref (o + 1)) rfl dX7_init_99 ?_
  refine lv_bipush (v := nI 12) hx hb dX7_init_102 (by decide) ?_
  refine lv_iconst (v := nI 3) hx hb dX7_init_104 (by decide) ?_
  refine lv_iload_n hx hb dX7_init_105 rfl (lv_at hl 0 rfl) ?_
  refine n_imul (n := 0) hx hb dX7_init_106 (by omega) ?_
  refine n_iadd (n := 12) hx hb dX7_init_107 (by omega) ?_
  refine lv_bipush (v := nI 100) hx hb dX7_init_108 (by decide) ?_
  refine k_iast hx hb hK a15 (i := 12) (by omega) (by decide) hS (by constructor <;> omega) dX7_init_110 (fun H locs a16 zH hF hS => ?_)
  have a10 := a10.kept (hF _ (by omega))
  have a3 := a3.kept (hF _ (by omega))
  have a5 := a5.kept (hF _ (by omega))
  have a7 := a7.kept (hF _ (by omega))
  have a9 := a9.kept (hF _ (by omega))
  have hz : H.size = o + 6 := by omega
  refine lv_iinc (v := nI 1) (lv' := [(1, .int (nI 1)), (0, .ref o)]) hx hb dX7_init_111 hl (k := 0) rfl (by decide) (by decide) rfl (fun ls hl => ?_)
  refine lv_goto (tgt := 92) hx hb dX7_init_114 (by decide) ?_
  refine lv_iload_n hx hb dX7_init_92 rfl (lv_at hl 0 rfl) ?_
  refine lv_bipush (v := nI 6) hx hb dX7_init_93 (by decide) ?_
  refine n_ige (tgt := 117) hx hb dX7_init_95 (by decide) (by omega) (by omega) (fun h => absurd h (by decide)) (fun c95_1 => ?_)
  refine lv_aload_n hx hb dX7_init_98 rfl (lv_at hl 1 rfl) ?_
  refine k_get S hK a10 rfl (fun _ h => List.mem_cons_of_mem _ (List.mem_append_right _ (h))) 0 (by decide) (List.mem_cons_of_mem _ (List.mem_append_left _ (List.mem_of_getElem? (i := 4) rfl))) rfl (v := .ref (o + 1)) rfl dX7_init_99 ?_
  refine lv_bipush (v := nI 12) hx hb dX7_init_102 (by decide) ?_
  refine lv_iconst (v := nI 3) hx hb dX7_init_104 (by decide) ?_
  refine lv_iload_n hx hb dX7_init_105 rfl (lv_at hl 0 rfl) ?_
  refine n_imul (n := 3) hx hb dX7_init_106 (by omega) ?_
  refine n_iadd (n := 15) hx hb dX7_init_107 (by omega) ?_
  refine lv_bipush (v := nI 100) hx hb dX7_init_108 (by decide) ?_
  refine k_iast hx hb hK a16 (i := 15) (by omega) (by decide) hS (by constructor <;> omega) dX7_init_110 (fun H locs a17 zH hF hS => ?_)
  have a10 := a10.kept (hF _ (by omega))
  have a3 := a3.kept (hF _ (by omega))
  have a5 := a5.kept (hF _ (by omega))
  have a7 := a7.kept (hF _ (by omega))
  have a9 := a9.kept (hF _ (by omega))
  have hz : H.size = o + 6 := by omega
  refine lv_iinc (v := nI 2) (lv' := [(1, .int (nI 2)), (0, .ref o)]) hx hb dX7_init_111 hl (k := 0) rfl (by decide) (by decide) rfl (fun ls hl => ?_)
  refine lv_goto (tgt := 92) hx hb dX7_init_114 (by decide) ?_
  refine lv_iload_n hx hb dX7_init_92 rfl (lv_at hl 0 rfl) ?_
  refine lv_bipush (v := nI 6) hx hb dX7_init_93 (by decide) ?_
  refine n_ige (tgt := 117) hx hb dX7_init_95 (by decide) (by omega) (by omega) (fun h => absurd h (by decide)) (fun c95_2 => ?_)
  refine lv_aload_n hx hb dX7_init_98 rfl (lv_at hl 1 rfl) ?_
  refine k_get S hK a10 rfl (fun _ h => List.mem_cons_of_mem _ (List.mem_append_right _ (h))) 0 (by decide) (List.mem_cons_of_mem _ (List.mem_append_left _ (List.mem_of_getElem? (i := 4) rfl))) rfl (v := .ref (o + 1)) rfl dX7_init_99 ?_
  refine lv_bipush (v := nI 12) hx hb dX7_init_102 (by decide) ?_
  refine lv_iconst (v := nI 3) hx hb dX7_init_104 (by decide) ?_
  refine lv_iload_n hx hb dX7_init_105 rfl (lv_at hl 0 rfl) ?_
  refine n_imul (n := 6) hx hb dX7_init_106 (by omega) ?_
  refine n_iadd (n := 18) hx hb dX7_init_107 (by omega) ?_
  refine lv_bipush (v := nI 100) hx hb dX7_init_108 (by decide) ?_
  refine k_iast hx hb hK a17 (i := 18) (by omega) (by decide) hS (by constructor <;> omega) dX7_init_110 (fun H locs a18 zH hF hS => ?_)
  have a10 := a10.kept (hF _ (by omega))
  have a3 := a3.kept (hF _ (by omega))
  have a5 := a5.kept (hF _ (by omega))
  have a7 := a7.kept (hF _ (by omega))
  have a9 := a9.kept (hF _ (by omega))
  have hz : H.size = o + 6 := by omega
  refine lv_iinc (v := nI 3) (lv' := [(1, .int (nI 3)), (0, .ref o)]) hx hb dX7_init_111 hl (k := 0) rfl (by decide) (by decide) rfl (fun ls hl => ?_)
  refine lv_goto (tgt := 92) hx hb dX7_init_114 (by decide) ?_
  refine lv_iload_n hx hb dX7_init_92 rfl (lv_at hl 0 rfl) ?_
  refine lv_bipush (v := nI 6) hx hb dX7_init_93 (by decide) ?_
  refine n_ige (tgt := 117) hx hb dX7_init_95 (by decide) (by omega) (by omega) (fun h => absurd h (by decide)) (fun c95_3 => ?_)
  refine lv_aload_n hx hb dX7_init_98 rfl (lv_at hl 1 rfl) ?_
  refine k_get S hK a10 rfl (fun _ h => List.mem_cons_of_mem _ (List.mem_append_right _ (h))) 0 (by decide) (List.mem_cons_of_mem _ (List.mem_append_left _ (List.mem_of_getElem? (i := 4) rfl))) rfl (v := .ref (o + 1)) rfl dX7_init_99 ?_
  refine lv_bipush (v := nI 12) hx hb dX7_init_102 (by decide) ?_
  refine lv_iconst (v := nI 3) hx hb dX7_init_104 (by decide) ?_
  refine lv_iload_n hx hb dX7_init_105 rfl (lv_at hl 0 rfl) ?_
  refine n_imul (n := 9) hx hb dX7_init_106 (by omega) ?_
  refine n_iadd (n := 21) hx hb dX7_init_107 (by omega) ?_
  refine lv_bipush (v := nI 100) hx hb dX7_init_108 (by decide) ?_
  refine k_iast hx hb hK a18 (i := 21) (by omega) (by decide) hS (by constructor <;> omega) dX7_init_110 (fun H locs a19 zH hF hS => ?_)
  have a10 := a10.kept (hF _ (by omega))
  have a3 := a3.kept (hF _ (by omega))
  have a5 := a5.kept (hF _ (by omega))
  have a7 := a7.kept (hF _ (by omega))
  have a9 := a9.kept (hF _ (by omega))
  have hz : H.size = o + 6 := by omega
  refine lv_iinc (v := nI 4) (lv' := [(1, .int (nI 4)), (0, .ref o)]) hx hb dX7_init_111 hl (k := 0) rfl (by decide) (by decide) rfl (fun ls hl => ?_)
  refine lv_goto (tgt := 92) hx hb dX7_init_114 (by decide) ?_
  refine lv_iload_n hx hb dX7_init_92 rfl (lv_at hl 0 rfl) ?_
  refine lv_bipush (v := nI 6) hx hb dX7_init_93 (by decide) ?_
  refine n_ige (tgt := 117) hx hb dX7_init_95 (by decide) (by omega) (by omega) (fun h => absurd h (by decide)) (fun c95_4 => ?_)
  refine lv_aload_n hx hb dX7_init_98 rfl (lv_at hl 1 rfl) ?_
  refine k_get S hK a10 rfl (fun _ h => List.mem_cons_of_mem _ (List.mem_append_right _ (h))) 0 (by decide) (List.mem_cons_of_mem _ (List.mem_append_left _ (List.mem_of_getElem? (i := 4) rfl))) rfl (v := .ref (o + 1)) rfl dX7_init_99 ?_
  refine lv_bipush (v := nI 12) hx hb dX7_init_102 (by decide) ?_
  refine lv_iconst (v := nI 3) hx hb dX7_init_104 (by decide) ?_
  refine lv_iload_n hx hb dX7_init_105 rfl (lv_at hl 0 rfl) ?_
  refine n_imul (n := 12) hx hb dX7_init_106 (by omega) ?_
  refine n_iadd (n := 24) hx hb dX7_init_107 (by omega) ?_
  refine lv_bipush (v := nI 100) hx hb dX7_init_108 (by decide) ?_
  refine k_iast hx hb hK a19 (i := 24) (by omega) (by decide) hS (by constructor <;> omega) dX7_init_110 (fun H locs a20 zH hF hS => ?_)
  have a10 := a10.kept (hF _ (by omega))
  have a3 := a3.kept (hF _ (by omega))
  have a5 := a5.kept (hF _ (by omega))
  have a7 := a7.kept (hF _ (by omega))
  have a9 := a9.kept (hF _ (by omega))
  have hz : H.size = o + 6 := by omega
  refine lv_iinc (v := nI 5) (lv' := [(1, .int (nI 5)), (0, .ref o)]) hx hb dX7_init_111 hl (k := 0) rfl (by decide) (by decide) rfl (fun ls hl => ?_)
  refine lv_goto (tgt := 92) hx hb dX7_init_114 (by decide) ?_
  refine lv_iload_n hx hb dX7_init_92 rfl (lv_at hl 0 rfl) ?_
  refine lv_bipush (v := nI 6) hx hb dX7_init_93 (by decide) ?_
  refine n_ige (tgt := 117) hx hb dX7_init_95 (by decide) (by omega) (by omega) (fun h => absurd h (by decide)) (fun c95_5 => ?_)
  refine lv_aload_n hx hb dX7_init_98 rfl (lv_at hl 1 rfl) ?_
  refine k_get S hK a10 rfl (fun _ h => List.mem_cons_of_mem _ (List.mem_append_right _ (h))) 0 (by decide) (List.mem_cons_of_mem _ (List.mem_append_left _ (List.mem_of_getElem? (i := 4) rfl))) rfl (v := .ref (o + 1)) rfl dX7_init_99 ?_
  refine lv_bipush (v := nI 12) hx hb dX7_init_102 (by decide) ?_
  refine lv_iconst (v := nI 3) hx hb dX7_init_104 (by decide) ?_
  refine lv_iload_n hx hb dX7_init_105 rfl (lv_at hl 0 rfl) ?_
  refine n_imul (n := 15) hx hb dX7_init_106 (by omega) ?_
  refine n_iadd (n := 27) hx hb dX7_init_107 (by omega) ?_
  refine lv_bipush (v := nI 100) hx hb dX7_init_108 (by decide) ?_
  refine k_iast hx hb hK a20 (i := 27) (by omega) (by decide) hS (by constructor <;> omega) dX7_init_110 (fun H locs a21 zH hF hS => ?_)
  have a10 := a10.kept (hF _ (by omega))
  have a3 := a3.kept (hF _ (by omega))
  have a5 := a5.kept (hF _ (by omega))
  have a7 := a7.kept (hF _ (by omega))
  have a9 := a9.kept (hF _ (by omega))
  have hz : H.size = o + 6 := by omega
  refine lv_iinc (v := nI 6) (lv' := [(1, .int (nI 6)), (0, .ref o)]) hx hb dX7_init_111 hl (k := 0) rfl (by decide) (by decide) rfl (fun ls hl => ?_)
  refine lv_goto (tgt := 92) hx hb dX7_init_114 (by decide) ?_
  refine lv_iload_n hx hb dX7_init_92 rfl (lv_at hl 0 rfl) ?_
  refine lv_bipush (v := nI 6) hx hb dX7_init_93 (by decide) ?_
  refine n_ige (tgt := 117) hx hb dX7_init_95 (by decide) (by omega) (by omega) (fun c95_6 => ?_) (fun h => absurd h (by decide))
  refine lv_iconst (v := nI 0) hx hb dX7_init_117 (by decide) ?_
  refine lv_istore_n (lv' := [(1, .int (nI 0)), (0, .ref o)]) hx hb dX7_init_118 rfl hl (by decide) rfl (fun ls hl => ?_)
  refine lv_iload_n hx hb dX7_init_119 rfl (lv_at hl 0 rfl) ?_
  refine lv_iconst (v := nI 4) hx hb dX7_init_120 (by decide) ?_
  refine n_ige (tgt := 176) hx hb dX7_init_121 (by decide) (by omega) (by omega) (fun h => absurd h (by decide)) (fun c121 => ?_)
  refine lv_aload_n hx hb dX7_init_124 rfl (lv_at hl 1 rfl) ?_
  refine k_get S hK a10 rfl (fun _ h => List.mem_cons_of_mem _ (List.mem_append_right _ (h))) 0 (by decide) (List.mem_cons_of_mem _ (List.mem_append_left _ (List.mem_of_getElem? (i := 4) rfl))) rfl (v := .ref (o + 1)) rfl dX7_init_125 ?_
  refine lv_bipush (v := nI 30) hx hb dX7_init_128 (by decide) ?_
  refine lv_bipush (v := nI 8) hx hb dX7_init_130 (by decide) ?_
  refine lv_iload_n hx hb dX7_init_132 rfl (lv_at hl 0 rfl) ?_
  refine n_imul (n := 0) hx hb dX7_init_133 (by omega) ?_
  refine n_iadd (n := 30) hx hb dX7_init_134 (by omega) ?_
  refine lv_sipush (v := nI 1000) hx hb dX7_init_135 (by decide) ?_
  refine k_iast hx hb hK a21 (i := 30) (by omega) (by decide) hS (by constructor <;> omega) dX7_init_138 (fun H locs a22 zH hF hS => ?_)
  have a10 := a10.kept (hF _ (by omega))
  have a3 := a3.kept (hF _ (by omega))
  have a5 := a5.kept (hF _ (by omega))
  have a7 := a7.kept (hF _ (by omega))
  have a9 := a9.kept (hF _ (by omega))
  have hz : H.size = o + 6 := by omega
  refine lv_iconst (v := nI 0) hx hb dX7_init_139 (by decide) ?_
  refine lv_istore_n (lv' := [(2, .int (nI 0)), (1, .int (nI 0)), (0, .ref o)]) hx hb dX7_init_140 rfl hl (by decide) rfl (fun ls hl => ?_)
  refine lv_iload_n hx hb dX7_init_141 rfl (lv_at hl 0 rfl) ?_
  refine lv_iconst (v := nI 4) hx hb dX7_init_142 (by decide) ?_
  refine n_ige (tgt := 170) hx hb dX7_init_143 (by decide) (by omega) (by omega) (fun h => absurd h (by decide)) (fun c143 => ?_)
  refine lv_aload_n hx hb dX7_init_146 rfl (lv_at hl 2 rfl) ?_
  refine k_get S hK a10 rfl (fun _ h => List.mem_cons_of_mem _ (List.mem_append_right _ (h))) 0 (by decide) (List.mem_cons_of_mem _ (List.mem_append_left _ (List.mem_of_getElem? (i := 4) rfl))) rfl (v := .ref (o + 1)) rfl dX7_init_147 ?_
  refine lv_bipush (v := nI 30) hx hb dX7_init_150 (by decide) ?_
  refine lv_bipush (v := nI 8) hx hb dX7_init_152 (by decide) ?_
  refine lv_iload_n hx hb dX7_init_154 rfl (lv_at hl 1 rfl) ?_
  refine n_imul (n := 0) hx hb dX7_init_155 (by omega) ?_
  refine n_iadd (n := 30) hx hb dX7_init_156 (by omega) ?_
  refine lv_iconst (v := nI 4) hx hb dX7_init_157 (by decide) ?_
  refine n_iadd (n := 34) hx hb dX7_init_158 (by omega) ?_
  refine lv_iload_n hx hb dX7_init_159 rfl (lv_at hl 0 rfl) ?_
  refine n_iadd (n := 34) hx hb dX7_init_160 (by omega) ?_
  refine lv_bipush (v := nI 50) hx hb dX7_init_161 (by decide) ?_
  refine k_iast hx hb hK a22 (i := 34) (by omega) (by decide) hS (by constructor <;> omega) dX7_init_163 (fun H locs a23 zH hF hS => ?_)
  have a10 := a10.kept (hF _ (by omega))
  have a3 := a3.kept (hF _ (by omega))
  have a5 := a5.kept (hF _ (by omega))
  have a7 := a7.kept (hF _ (by omega))
  have a9 := a9.kept (hF _ (by omega))
  have hz : H.size = o + 6 := by omega
  refine lv_iinc (v := nI 1) (lv' := [(2, .int (nI 1)), (1, .int (nI 0)), (0, .ref o)]) hx hb dX7_init_164 hl (k := 0) rfl (by decide) (by decide) rfl (fun ls hl => ?_)
  refine lv_goto (tgt := 141) hx hb dX7_init_167 (by decide) ?_
  refine lv_iload_n hx hb dX7_init_141 rfl (lv_at hl 0 rfl) ?_
  refine lv_iconst (v := nI 4) hx hb dX7_init_142 (by decide) ?_
  refine n_ige (tgt := 170) hx hb dX7_init_143 (by decide) (by omega) (by omega) (fun h => absurd h (by decide)) (fun c143_1 => ?_)
  refine lv_aload_n hx hb dX7_init_146 rfl (lv_at hl 2 rfl) ?_
  refine k_get S hK a10 rfl (fun _ h => List.mem_cons_of_mem _ (List.mem_append_right _ (h))) 0 (by decide) (List.mem_cons_of_mem _ (List.mem_append_left _ (List.mem_of_getElem? (i := 4) rfl))) rfl (v := .ref (o + 1)) rfl dX7_init_147 ?_
  refine lv_bipush (v := nI 30) hx hb dX7_init_150 (by decide) ?_
  refine lv_bipush (v := nI 8) hx hb dX7_init_152 (by decide) ?_
  refine lv_iload_n hx hb dX7_init_154 rfl (lv_at hl 1 rfl) ?_
  refine n_imul (n := 0) hx hb dX7_init_155 (by omega) ?_
  refine n_iadd (n := 30) hx hb dX7_init_156 (by omega) ?_
  refine lv_iconst (v := nI 4) hx hb dX7_init_157 (by decide) ?_
  refine n_iadd (n := 34) hx hb dX7_init_158 (by omega) ?_
  refine lv_iload_n hx hb dX7_init_159 rfl (lv_at hl 0 rfl) ?_
  refine n_iadd (n := 35) hx hb dX7_init_160 (by omega) ?_
  refine lv_bipush (v := nI 50) hx hb dX7_init_161 (by decide) ?_
  refine k_iast hx hb hK a23 (i := 35) (by omega) (by decide) hS (by constructor <;> omega) dX7_init_163 (fun H locs a24 zH hF hS => ?_)
  have a10 := a10.kept (hF _ (by omega))
  have a3 := a3.kept (hF _ (by omega))
  have a5 := a5.kept (hF _ (by omega))
  have a7 := a7.kept (hF _ (by omega))
  have a9 := a9.kept (hF _ (by omega))
  have hz : H.size = o + 6 := by omega
  refine lv_iinc (v := nI 2) (lv' := [(2, .int (nI 2)), (1, .int (nI 0)), (0, .ref o)]) hx hb dX7_init_164 hl (k := 0) rfl (by decide) (by decide) rfl (fun ls hl => ?_)
  refine lv_goto (tgt := 141) hx hb dX7_init_167 (by decide) ?_
  refine lv_iload_n hx hb dX7_init_141 rfl (lv_at hl 0 rfl) ?_
  refine lv_iconst (v := nI 4) hx hb dX7_init_142 (by decide) ?_
  refine n_ige (tgt := 170) hx hb dX7_init_143 (by decide) (by omega) (by omega) (fun h => absurd h (by decide)) (fun c143_2 => ?_)
  refine lv_aload_n hx hb dX7_init_146 rfl (lv_at hl 2 rfl) ?_
  refine k_get S hK a10 rfl (fun _ h => List.mem_cons_of_mem _ (List.mem_append_right _ (h))) 0 (by decide) (List.mem_cons_of_mem _ (List.mem_append_left _ (List.mem_of_getElem? (i := 4) rfl))) rfl (v := .ref (o + 1)) rfl dX7_init_147 ?_
  refine lv_bipush (v := nI 30) hx hb dX7_init_150 (by decide) ?_
  refine lv_bipush (v := nI 8) hx hb dX7_init_152 (by decide) ?_
  refine lv_iload_n hx hb dX7_init_154 rfl (lv_at hl 1 rfl) ?_
  refine n_imul (n := 0) hx hb dX7_init_155 (by omega) ?_
  refine n_iadd (n := 30) hx hb dX7_init_156 (by omega) ?_
  refine lv_iconst (v := nI 4) hx hb dX7_init_157 (by decide) ?_
  refine n_iadd (n := 34) hx hb dX7_init_158 (by omega) ?_
  refine lv_iload_n hx hb dX7_init_159 rfl (lv_at hl 0 rfl) ?_
  refine n_iadd (n := 36) hx hb dX7_init_160 (by omega) ?_
  refine lv_bipush (v := nI 50) hx hb dX7_init_161 (by decide) ?_
  refine k_iast hx hb hK a24 (i := 36) (by omega) (by decide) hS (by constructor <;> omega) dX7_init_163 (fun H locs a25 zH hF hS => ?_)
  have a10 := a10.kept (hF _ (by omega))
  have a3 := a3.kept (hF _ (by omega))
  have a5 := a5.kept (hF _ (by omega))
  have a7 := a7.kept (hF _ (by omega))
  have a9 := a9.kept (hF _ (by omega))
  have hz : H.size = o + 6 := by omega
  refine lv_iinc (v := nI 3) (lv' := [(2, .int (nI 3)), (1, .int (nI 0)), (0, .ref o)]) hx hb dX7_init_164 hl (k := 0) rfl (by decide) (by decide) rfl (fun ls hl => ?_)
  refine lv_goto (tgt := 141) hx hb dX7_init_167 (by decide) ?_
  refine lv_iload_n hx hb dX7_init_141 rfl (lv_at hl 0 rfl) ?_
  refine lv_iconst (v := nI 4) hx hb dX7_init_142 (by decide) ?_
  refine n_ige (tgt := 170) hx hb dX7_init_143 (by decide) (by omega) (by omega) (fun h => absurd h (by decide)) (fun c143_3 => ?_)
  refine lv_aload_n hx hb dX7_init_146 rfl (lv_at hl 2 rfl) ?_
  refine k_get S hK a10 rfl (fun _ h => List.mem_cons_of_mem _ (List.mem_append_right _ (h))) 0 (by decide) (List.mem_cons_of_mem _ (List.mem_append_left _ (List.mem_of_getElem? (i := 4) rfl))) rfl (v := .ref (o + 1)) rfl dX7_init_147 ?_
  refine lv_bipush (v := nI 30) hx hb dX7_init_150 (by decide) ?_
  refine lv_bipush (v := nI 8) hx hb dX7_init_152 (by decide) ?_
  refine lv_iload_n hx hb dX7_init_154 rfl (lv_at hl 1 rfl) ?_
  refine n_imul (n := 0) hx hb dX7_init_155 (by omega) ?_
  refine n_iadd (n := 30) hx hb dX7_init_156 (by omega) ?_
  refine lv_iconst (v := nI 4) hx hb dX7_init_157 (by decide) ?_
  refine n_iadd (n := 34) hx hb dX7_init_158 (by omega) ?_
  refine lv_iload_n hx hb dX7_init_159 rfl (lv_at hl 0 rfl) ?_
  refine n_iadd (n := 37) hx hb dX7_init_160 (by omega) ?_
  refine lv_bipush (v := nI 50) hx hb dX7_init_161 (by decide) ?_
  refine k_iast hx hb hK a25 (i := 37) (by omega) (by decide) hS (by constructor <;> omega) dX7_init_163 (fun H locs a26 zH hF hS => ?_)
  have a10 := a10.kept (hF _ (by omega))
  have a3 := a3.kept (hF _ (by omega))
  have a5 := a5.kept (hF _ (by omega))
  have a7 := a7.kept (hF _ (by omega))
  have a9 := a9.kept (hF _ (by omega))
  have hz : H.size = o + 6 := by omega
  refine lv_iinc (v := nI 4) (lv' := [(2, .int (nI 4)), (1, .int (nI 0)), (0, .ref o)]) hx hb dX7_init_164 hl (k := 0) rfl (by decide) (by decide) rfl (fun ls hl => ?_)
  refine lv_goto (tgt := 141) hx hb dX7_init_167 (by decide) ?_
  refine lv_iload_n hx hb dX7_init_141 rfl (lv_at hl 0 rfl) ?_
  refine lv_iconst (v := nI 4) hx hb dX7_init_142 (by decide) ?_
  refine n_ige (tgt := 170) hx hb dX7_init_143 (by decide) (by omega) (by omega) (fun c143_4 => ?_) (fun h => absurd h (by decide))
  refine lv_iinc (v := nI 1) (lv' := [(1, .int (nI 1)), (2, .int (nI 4)), (0, .ref o)]) hx hb dX7_init_170 hl (k := 1) rfl (by decide) (by decide) rfl (fun ls hl => ?_)
  refine lv_goto (tgt := 119) hx hb dX7_init_173 (by decide) ?_
  refine lv_iload_n hx hb dX7_init_119 rfl (lv_at hl 0 rfl) ?_
  refine lv_iconst (v := nI 4) hx hb dX7_init_120 (by decide) ?_
  refine n_ige (tgt := 176) hx hb dX7_init_121 (by decide) (by omega) (by omega) (fun h => absurd h (by decide)) (fun c121_1 => ?_)
  refine lv_aload_n hx hb dX7_init_124 rfl (lv_at hl 2 rfl) ?_
  refine k_get S hK a10 rfl (fun _ h => List.mem_cons_of_mem _ (List.mem_append_right _ (h))) 0 (by decide) (List.mem_cons_of_mem _ (List.mem_append_left _ (List.mem_of_getElem? (i := 4) rfl))) rfl (v := .ref (o + 1)) rfl dX7_init_125 ?_
  refine lv_bipush (v := nI 30) hx hb dX7_init_128 (by decide) ?_
  refine lv_bipush (v := nI 8) hx hb dX7_init_130 (by decide) ?_
  refine lv_iload_n hx hb dX7_init_132 rfl (lv_at hl 0 rfl) ?_
  refine n_imul (n := 8) hx hb dX7_init_133 (by omega) ?_
  refine n_iadd (n := 38) hx hb dX7_init_134 (by omega) ?_
  refine lv_sipush (v := nI 1000) hx hb dX7_init_135 (by decide) ?_
  refine k_iast hx hb hK a26 (i := 38) (by omega) (by decide) hS (by constructor <;> omega) dX7_init_138 (fun H locs a27 zH hF hS => ?_)
  have a10 := a10.kept (hF _ (by omega))
  have a3 := a3.kept (hF _ (by omega))
  have a5 := a5.kept (hF _ (by omega))
  have a7 := a7.kept (hF _ (by omega))
  have a9 := a9.kept (hF _ (by omega))
  have hz : H.size = o + 6 := by omega
  refine lv_iconst (v := nI 0) hx hb dX7_init_139 (by decide) ?_
  refine lv_istore_n (lv' := [(2, .int (nI 0)), (1, .int (nI 1)), (0, .ref o)]) hx hb dX7_init_140 rfl hl (by decide) rfl (fun ls hl => ?_)
  refine lv_iload_n hx hb dX7_init_141 rfl (lv_at hl 0 rfl) ?_
  refine lv_iconst (v := nI 4) hx hb dX7_init_142 (by decide) ?_
  refine n_ige (tgt := 170) hx hb dX7_init_143 (by decide) (by omega) (by omega) (fun h => absurd h (by decide)) (fun c143_5 => ?_)
  refine lv_aload_n hx hb dX7_init_146 rfl (lv_at hl 2 rfl) ?_
  refine k_get S hK a10 rfl (fun _ h => List.mem_cons_of_mem _ (List.mem_append_right _ (h))) 0 (by decide) (List.mem_cons_of_mem _ (List.mem_append_left _ (List.mem_of_getElem? (i := 4) rfl))) rfl (v := .ref (o + 1)) rfl dX7_init_147 ?_
  refine lv_bipush (v := nI 30) hx hb dX7_init_150 (by decide) ?_
  refine lv_bipush (v := nI 8) hx hb dX7_init_152 (by decide) ?_
  refine lv_iload_n hx hb dX7_init_154 rfl (lv_at hl 1 rfl) ?_
  refine n_imul (n := 8) hx hb dX7_init_155 (by omega) ?_
  refine n_iadd (n := 38) hx hb dX7_init_156 (by omega) ?_
  refine lv_iconst (v := nI 4) hx hb dX7_init_157 (by decide) ?_
  refine n_iadd (n := 42) hx hb dX7_init_158 (by omega) ?_
  refine lv_iload_n hx hb dX7_init_159 rfl (lv_at hl 0 rfl) ?_
  refine n_iadd (n := 42) hx hb dX7_init_160 (by omega) ?_
  refine lv_bipush (v := nI 50) hx hb dX7_init_161 (by decide) ?_
  refine k_iast hx hb hK a27 (i := 42) (by omega) (by decide) hS (by constructor <;> omega) dX7_init_163 (fun H locs a28 zH hF hS => ?_)
  have a10 := a10.kept (hF _ (by omega))
  have a3 := a3.kept (hF _ (by omega))
  have a5 := a5.kept (hF _ (by omega))
  have a7 := a7.kept (hF _ (by omega))
  have a9 := a9.kept (hF _ (by omega))
  have hz : H.size = o + 6 := by omega
  refine lv_iinc (v := nI 1) (lv' := [(2, .int (nI 1)), (1, .int (nI 1)), (0, .ref o)]) hx hb dX7_init_164 hl (k := 0) rfl (by decide) (by decide) rfl (fun ls hl => ?_)
  refine lv_goto (tgt := 141) hx hb dX7_init_167 (by decide) ?_
  refine lv_iload_n hx hb dX7_init_141 rfl (lv_at hl 0 rfl) ?_
  refine lv_iconst (v := nI 4) hx hb dX7_init_142 (by decide) ?_
  refine n_ige (tgt := 170) hx hb dX7_init_143 (by decide) (by omega) (by omega) (fun h => absurd h (by decide)) (fun c143_6 => ?_)
  refine lv_aload_n hx hb dX7_init_146 rfl (lv_at hl 2 rfl) ?_
  refine k_get S hK a10 rfl (fun _ h => List.mem_cons_of_mem _ (List.mem_append_right _ (h))) 0 (by decide) (List.mem_cons_of_mem _ (List.mem_append_left _ (List.mem_of_getElem? (i := 4) rfl))) rfl (v := .ref (o + 1)) rfl dX7_init_147 ?_
  refine lv_bipush (v := nI 30) hx hb dX7_init_150 (by decide) ?_
  refine lv_bipush (v := nI 8) hx hb dX7_init_152 (by decide) ?_
  refine lv_iload_n hx hb dX7_init_154 rfl (lv_at hl 1 rfl) ?_
  refine n_imul (n := 8) hx hb dX7_init_155 (by omega) ?_
  refine n_iadd (n := 38) hx hb dX7_init_156 (by omega) ?_
  refine lv_iconst (v := nI 4) hx hb dX7_init_157 (by decide) ?_
  refine n_iadd (n := 42) hx hb dX7_init_158 (by omega) ?_
  refine lv_iload_n hx hb dX7_init_159 rfl (lv_at hl 0 rfl) ?_
  refine n_iadd (n := 43) hx hb dX7_init_160 (by omega) ?_
  refine lv_bipush (v := nI 50) hx hb dX7_init_161 (by decide) ?_
  refine k_iast hx hb hK a28 (i := 43) (by omega) (by decide) hS (by constructor <;> omega) dX7_init_163 (fun H locs a29 zH hF hS => ?_)
  have a10 := a10.kept (hF _ (by omega))
  have a3 := a3.kept (hF _ (by omega))
  have a5 := a5.kept (hF _ (by omega))
  have a7 := a7.kept (hF _ (by omega))
  have a9 := a9.kept (hF _ (by omega))
  have hz : H.size = o + 6 := by omega
  refine lv_iinc (v := nI 2) (lv' := [(2, .int (nI 2)), (1, .int (nI 1)), (0, .ref o)]) hx hb dX7_init_164 hl (k := 0) rfl (by decide) (by decide) rfl (fun ls hl => ?_)
  refine lv_goto (tgt := 141) hx hb dX7_init_167 (by decide) ?_
  refine lv_iload_n hx hb dX7_init_141 rfl (lv_at hl 0 rfl) ?_
  refine lv_iconst (v := nI 4) hx hb dX7_init_142 (by decide) ?_
  refine n_ige (tgt := 170) hx hb dX7_init_143 (by decide) (by omega) (by omega) (fun h => absurd h (by decide)) (fun c143_7 => ?_)
  refine lv_aload_n hx hb dX7_init_146 rfl (lv_at hl 2 rfl) ?_
  refine k_get S hK a10 rfl (fun _ h => List.mem_cons_of_mem _ (List.mem_append_right _ (h))) 0 (by decide) (List.mem_cons_of_mem _ (List.mem_append_left _ (List.mem_of_getElem? (i := 4) rfl))) rfl (v := .ref (o + 1)) rfl dX7_init_147 ?_
  refine lv_bipush (v := nI 30) hx hb dX7_init_150 (by decide) ?_
  refine lv_bipush (v := nI 8) hx hb dX7_init_152 (by decide) ?_
  refine lv_iload_n hx hb dX7_init_154 rfl (lv_at hl 1 rfl) ?_
  refine n_imul (n := 8) hx hb dX7_init_155 (by omega) ?_
  refine n_iadd (n := 38) hx hb dX7_init_156 (by omega) ?_
  refine lv_iconst (v := nI 4) hx hb dX7_init_157 (by decide) ?_
  refine n_iadd (n := 42) hx hb dX7_init_158 (by omega) ?_
  refine lv_iload_n hx hb dX7_init_159 rfl (lv_at hl 0 rfl) ?_
  refine n_iadd (n := 44) hx hb dX7_init_160 (by omega) ?_
  refine lv_bipush (v := nI 50) hx hb dX7_init_161 (by decide) ?_
  refine k_iast hx hb hK a29 (i := 44) (by omega) (by decide) hS (by constructor <;> omega) dX7_init_163 (fun H locs a30 zH hF hS => ?_)
  have a10 := a10.kept (hF _ (by omega))
  have a3 := a3.kept (hF _ (by omega))
  have a5 := a5.kept (hF _ (by omega))
  have a7 := a7.kept (hF _ (by omega))
  have a9 := a9.kept (hF _ (by omega))
  have hz : H.size = o + 6 := by omega
  refine lv_iinc (v := nI 3) (lv' := [(2, .int (nI 3)), (1, .int (nI 1)), (0, .ref o)]) hx hb dX7_init_164 hl (k := 0) rfl (by decide) (by decide) rfl (fun ls hl => ?_)
  refine lv_goto (tgt := 141) hx hb dX7_init_167 (by decide) ?_
  refine lv_iload_n hx hb dX7_init_141 rfl (lv_at hl 0 rfl) ?_
  refine lv_iconst (v := nI 4) hx hb dX7_init_142 (by decide) ?_
  refine n_ige (tgt := 170) hx hb dX7_init_143 (by decide) (by omega) (by omega) (fun h => absurd h (by decide)) (fun c143_8 => ?_)
  refine lv_aload_n hx hb dX7_init_146 rfl (lv_at hl 2 rfl) ?_
  refine k_get S hK a10 rfl (fun _ h => List.mem_cons_of_mem _ (List.mem_append_right _ (h))) 0 (by decide) (List.mem_cons_of_mem _ (List.mem_append_left _ (List.mem_of_getElem? (i := 4) rfl))) rfl (v := .ref (o + 1)) rfl dX7_init_147 ?_
  refine lv_bipush (v := nI 30) hx hb dX7_init_150 (by decide) ?_
  refine lv_bipush (v := nI 8) hx hb dX7_init_152 (by decide) ?_
  refine lv_iload_n hx hb dX7_init_154 rfl (lv_at hl 1 rfl) ?_
  refine n_imul (n := 8) hx hb dX7_init_155 (by omega) ?_
  refine n_iadd (n := 38) hx hb dX7_init_156 (by omega) ?_
  refine lv_iconst (v := nI 4) hx hb dX7_init_157 (by decide) ?_
  refine n_iadd (n := 42) hx hb dX7_init_158 (by omega) ?_
  refine lv_iload_n hx hb dX7_init_159 rfl (lv_at hl 0 rfl) ?_
  refine n_iadd (n := 45) hx hb dX7_init_160 (by omega) ?_
  refine lv_bipush (v := nI 50) hx hb dX7_init_161 (by decide) ?_
  refine k_iast hx hb hK a30 (i := 45) (by omega) (by decide) hS (by constructor <;> omega) dX7_init_163 (fun H locs a31 zH hF hS => ?_)
  have a10 := a10.kept (hF _ (by omega))
  have a3 := a3.kept (hF _ (by omega))
  have a5 := a5.kept (hF _ (by omega))
  have a7 := a7.kept (hF _ (by omega))
  have a9 := a9.kept (hF _ (by omega))
  have hz : H.size = o + 6 := by omega
  refine lv_iinc (v := nI 4) (lv' := [(2, .int (nI 4)), (1, .int (nI 1)), (0, .ref o)]) hx hb dX7_init_164 hl (k := 0) rfl (by decide) (by decide) rfl (fun ls hl => ?_)
  refine lv_goto (tgt := 141) hx hb dX7_init_167 (by decide) ?_
  refine lv_iload_n hx hb dX7_init_141 rfl (lv_at hl 0 rfl) ?_
  refine lv_iconst (v := nI 4) hx hb dX7_init_142 (by decide) ?_
  refine n_ige (tgt := 170) hx hb dX7_init_143 (by decide) (by omega) (by omega) (fun c143_9 => ?_) (fun h => absurd h (by decide))
  refine lv_iinc (v := nI 2) (lv' := [(1, .int (nI 2)), (2, .int (nI 4)), (0, .ref o)]) hx hb dX7_init_170 hl (k := 1) rfl (by decide) (by decide) rfl (fun ls hl => ?_)
  refine lv_goto (tgt := 119) hx hb dX7_init_173 (by decide) ?_
  refine lv_iload_n hx hb dX7_init_119 rfl (lv_at hl 0 rfl) ?_
  refine lv_iconst (v := nI 4) hx hb dX7_init_120 (by decide) ?_
  refine n_ige (tgt := 176) hx hb dX7_init_121 (by decide) (by omega) (by omega) (fun h => absurd h (by decide)) (fun c121_2 => ?_)
  refine lv_aload_n hx hb dX7_init_124 rfl (lv_at hl 2 rfl) ?_
  refine k_get S hK a10 rfl (fun _ h => List.mem_cons_of_mem _ (List.mem_append_right _ (h))) 0 (by decide) (List.mem_cons_of_mem _ (List.mem_append_left _ (List.mem_of_getElem? (i := 4) rfl))) rfl (v := .ref (o + 1)) rfl dX7_init_125 ?_
  refine lv_bipush (v := nI 30) hx hb dX7_init_128 (by decide) ?_
  refine lv_bipush (v := nI 8) hx hb dX7_init_130 (by decide) ?_
  refine lv_iload_n hx hb dX7_init_132 rfl (lv_at hl 0 rfl) ?_
  refine n_imul (n := 16) hx hb dX7_init_133 (by omega) ?_
  refine n_iadd (n := 46) hx hb dX7_init_134 (by omega) ?_
  refine lv_sipush (v := nI 1000) hx hb dX7_init_135 (by decide) ?_
  refine k_iast hx hb hK a31 (i := 46) (by omega) (by decide) hS (by constructor <;> omega) dX7_init_138 (fun H locs a32 zH hF hS => ?_)
  have a10 := a10.kept (hF _ (by omega))
  have a3 := a3.kept (hF _ (by omega))
  have a5 := a5.kept (hF _ (by omega))
  have a7 := a7.kept (hF _ (by omega))
  have a9 := a9.kept (hF _ (by omega))
  have hz : H.size = o + 6 := by omega
  refine lv_iconst (v := nI 0) hx hb dX7_init_139 (by decide) ?_
  refine lv_istore_n (lv' := [(2, .int (nI 0)), (1, .int (nI 2)), (0, .ref o)]) hx hb dX7_init_140 rfl hl (by decide) rfl (fun ls hl => ?_)
  refine lv_iload_n hx hb dX7_init_141 rfl (lv_at hl 0 rfl) ?_
  refine lv_iconst (v := nI 4) hx hb dX7_init_142 (by decide) ?_
  refine n_ige (tgt := 170) hx hb dX7_init_143 (by decide) (by omega) (by omega) (fun h => absurd h (by decide)) (fun c143_10 => ?_)
  refine lv_aload_n hx hb dX7_init_146 rfl (lv_at hl 2 rfl) ?_
  refine k_get S hK a10 rfl (fun _ h => List.mem_cons_of_mem _ (List.mem_append_right _ (h))) 0 (by decide) (List.mem_cons_of_mem _ (List.mem_append_left _ (List.mem_of_getElem? (i := 4) rfl))) rfl (v := .ref (o + 1)) rfl dX7_init_147 ?_
  refine lv_bipush (v := nI 30) hx hb dX7_init_150 (by decide) ?_
  refine lv_bipush (v := nI 8) hx hb dX7_init_152 (by decide) ?_
  refine lv_iload_n hx hb dX7_init_154 rfl (lv_at hl 1 rfl) ?_
  refine n_imul (n := 16) hx hb dX7_init_155 (by omega) ?_
  refine n_iadd (n := 46) hx hb dX7_init_156 (by omega) ?_
  refine lv_iconst (v := nI 4) hx hb dX7_init_157 (by decide) ?_
  refine n_iadd (n := 50) hx hb dX7_init_158 (by omega) ?_
  refine lv_iload_n hx hb dX7_init_159 rfl (lv_at hl 0 rfl) ?_
  refine n_iadd (n := 50) hx hb dX7_init_160 (by omega) ?_
  refine lv_bipush (v := nI 50) hx hb dX7_init_161 (by decide) ?_
  refine k_iast hx hb hK a32 (i := 50) (by omega) (by decide) hS (by constructor <;> omega) dX7_init_163 (fun H locs a33 zH hF hS => ?_)
  have a10 := a10.kept (hF _ (by omega))
  have a3 := a3.kept (hF _ (by omega))
  have a5 := a5.kept (hF _ (by omega))
  have a7 := a7.kept (hF _ (by omega))
  have a9 := a9.kept (hF _ (by omega))
  have hz : H.size = o + 6 := by omega
  refine lv_iinc (v := nI 1) (lv' := [(2, .int (nI 1)), (1, .int (nI 2)), (0, .ref o)]) hx hb dX7_init_164 hl (k := 0) rfl (by decide) (by decide) rfl (fun ls hl => ?_)
  refine lv_goto (tgt := 141) hx hb dX7_init_167 (by decide) ?_
  refine lv_iload_n hx hb dX7_init_141 rfl (lv_at hl 0 rfl) ?_
  refine lv_iconst (v := nI 4) hx hb dX7_init_142 (by decide) ?_
  refine n_ige (tgt := 170) hx hb dX7_init_143 (by decide) (by omega) (by omega) (fun h => absurd h (by decide)) (fun c143_11 => ?_)
  refine lv_aload_n hx hb dX7_init_146 rfl (lv_at hl 2 rfl) ?_
  refine k_get S hK a10 rfl (fun _ h => List.mem_cons_of_mem _ (List.mem_append_right _ (h))) 0 (by decide) (List.mem_cons_of_mem _ (List.mem_append_left _ (List.mem_of_getElem? (i := 4) rfl))) rfl (v := .ref (o + 1)) rfl dX7_init_147 ?_
  refine lv_bipush (v := nI 30) hx hb dX7_init_150 (by decide) ?_
  refine lv_bipush (v := nI 8) hx hb dX7_init_152 (by decide) ?_
  refine lv_iload_n hx hb dX7_init_154 rfl (lv_at hl 1 rfl) ?_
  refine n_imul (n := 16) hx hb dX7_init_155 (by omega) ?_
  refine n_iadd (n := 46) hx hb dX7_init_156 (by omega) ?_
  refine lv_iconst (v := nI 4) hx hb dX7_init_157 (by decide) ?_
  refine n_iadd (n := 50) hx hb dX7_init_158 (by omega) ?_
  refine lv_iload_n hx hb dX7_init_159 rfl (lv_at hl 0 rfl) ?_
  refine n_iadd (n := 51) hx hb dX7_init_160 (by omega) ?_
  refine lv_bipush (v := nI 50) hx hb dX7_init_161 (by decide) ?_
  refine k_iast hx hb hK a33 (i := 51) (by omega) (by decide) hS (by constructor <;> omega) dX7_init_163 (fun H locs a34 zH hF hS => ?_)
  have a10 := a10.kept (hF _ (by omega))
  have a3 := a3.kept (hF _ (by omega))
  have a5 := a5.kept (hF _ (by omega))
  have a7 := a7.kept (hF _ (by omega))
  have a9 := a9.kept (hF _ (by omega))
  have hz : H.size = o + 6 := by omega
  refine lv_iinc (v := nI 2) (lv' := [(2, .int (nI 2)), (1, .int (nI 2)), (0, .ref o)]) hx hb dX7_init_164 hl (k := 0) rfl (by decide) (by decide) rfl (fun ls hl => ?_)
  refine lv_goto (tgt := 141) hx hb dX7_init_167 (by decide) ?_
  refine lv_iload_n hx hb dX7_init_141 rfl (lv_at hl 0 rfl) ?_
  refine lv_iconst (v := nI 4) hx hb dX7_init_142 (by decide) ?_
  refine n_ige (tgt := 170) hx hb dX7_init_143 (by decide) (by omega) (by omega) (fun h => absurd h (by decide)) (fun c143_12 => ?_)
  refine lv_aload_n hx hb dX7_init_146 rfl (lv_at hl 2 rfl) ?_
  refine k_get S hK a10 rfl (fun _ h => List.mem_cons_of_mem _ (List.mem_append_right _ (h))) 0 (by decide) (List.mem_cons_of_mem _ (List.mem_append_left _ (List.mem_of_getElem? (i := 4) rfl))) rfl (v := .ref (o + 1)) rfl dX7_init_147 ?_
  refine lv_bipush (v := nI 30) hx hb dX7_init_150 (by decide) ?_
  refine lv_bipush (v := nI 8) hx hb dX7_init_152 (by decide) ?_
  refine lv_iload_n hx hb dX7_init_154 rfl (lv_at hl 1 rfl) ?_
  refine n_imul (n := 16) hx hb dX7_init_155 (by omega) ?_
  refine n_iadd (n := 46) hx hb dX7_init_156 (by omega) ?_
  refine lv_iconst (v := nI 4) hx hb dX7_init_157 (by decide) ?_
  refine n_iadd (n := 50) hx hb dX7_init_158 (by omega) ?_
  refine lv_iload_n hx hb dX7_init_159 rfl (lv_at hl 0 rfl) ?_
  refine n_iadd (n := 52) hx hb dX7_init_160 (by omega) ?_
  refine lv_bipush (v := nI 50) hx hb dX7_init_161 (by decide) ?_
  refine k_iast hx hb hK a34 (i := 52) (by omega) (by decide) hS (by constructor <;> omega) dX7_init_163 (fun H locs a35 zH hF hS => ?_)
  have a10 := a10.kept (hF _ (by omega))
  have a3 := a3.kept (hF _ (by omega))
  have a5 := a5.kept (hF _ (by omega))
  have a7 := a7.kept (hF _ (by omega))
  have a9 := a9.kept (hF _ (by omega))
  have hz : H.size = o + 6 := by omega
  refine lv_iinc (v := nI 3) (lv' := [(2, .int (nI 3)), (1, .int (nI 2)), (0, .ref o)]) hx hb dX7_init_164 hl (k := 0) rfl (by decide) (by decide) rfl (fun ls hl => ?_)
  refine lv_goto (tgt := 141) hx hb dX7_init_167 (by decide) ?_
  refine lv_iload_n hx hb dX7_init_141 rfl (lv_at hl 0 rfl) ?_
  refine lv_iconst (v := nI 4) hx hb dX7_init_142 (by decide) ?_
  refine n_ige (tgt := 170) hx hb dX7_init_143 (by decide) (by omega) (by omega) (fun h => absurd h (by decide)) (fun c143_13 => ?_)
  refine lv_aload_n hx hb dX7_init_146 rfl (lv_at hl 2 rfl) ?_
  refine k_get S hK a10 rfl (fun _ h => List.mem_cons_of_mem _ (List.mem_append_right _ (h))) 0 (by decide) (List.mem_cons_of_mem _ (List.mem_append_left _ (List.mem_of_getElem? (i := 4) rfl))) rfl (v := .ref (o + 1)) rfl dX7_init_147 ?_
  refine lv_bipush (v := nI 30) hx hb dX7_init_150 (by decide) ?_
  refine lv_bipush (v := nI 8) hx hb dX7_init_152 (by decide) ?_
  refine lv_iload_n hx hb dX7_init_154 rfl (lv_at hl 1 rfl) ?_
  refine n_imul (n := 16) hx hb dX7_init_155 (by omega) ?_
  refine n_iadd (n := 46) hx hb dX7_init_156 (by omega) ?_
  refine lv_iconst (v := nI 4) hx hb dX7_init_157 (by decide) ?_
  refine n_iadd (n := 50) hx hb dX7_init_158 (by omega) ?_
  refine lv_iload_n hx hb dX7_init_159 rfl (lv_at hl 0 rfl) ?_
  refine n_iadd (n := 53) hx hb dX7_init_160 (by omega) ?_
  refine lv_bipush (v := nI 50) hx hb dX7_init_161 (by decide) ?_
  refine k_iast hx hb hK a35 (i := 53) (by omega) (by decide) hS (by constructor <;> omega) dX7_init_163 (fun H locs a36 zH hF hS => ?_)
  have a10 := a10.kept (hF _ (by omega))
  have a3 := a3.kept (hF _ (by omega))
  have a5 := a5.kept (hF _ (by omega))
  have a7 := a7.kept (hF _ (by omega))
  have a9 := a9.kept (hF _ (by omega))
  have hz : H.size = o + 6 := by omega
  refine lv_iinc (v := nI 4) (lv' := [(2, .int (nI 4)), (1, .int (nI 2)), (0, .ref o)]) hx hb dX7_init_164 hl (k := 0) rfl (by decide) (by decide) rfl (fun ls hl => ?_)
  refine lv_goto (tgt := 141) hx hb dX7_init_167 (by decide) ?_
  refine lv_iload_n hx hb dX7_init_141 rfl (lv_at hl 0 rfl) ?_
  refine lv_iconst (v := nI 4) hx hb dX7_init_142 (by decide) ?_
  refine n_ige (tgt := 170) hx hb dX7_init_143 (by decide) (by omega) (by omega) (fun c143_14 => ?_) (fun h => absurd h (by decide))
  refine lv_iinc (v := nI 3) (lv' := [(1, .int (nI 3)), (2, .int (nI 4)), (0, .ref o)]) hx hb dX7_init_170 hl (k := 1) rfl (by decide) (by decide) rfl (fun ls hl => ?_)
  refine lv_goto (tgt := 119) hx hb dX7_init_173 (by decide) ?_
  refine lv_iload_n hx hb dX7_init_119 rfl (lv_at hl 0 rfl) ?_
  refine lv_iconst (v := nI 4) hx hb dX7_init_120 (by decide) ?_
  refine n_ige (tgt := 176) hx hb dX7_init_121 (by decide) (by omega) (by omega) (fun h => absurd h (by decide)) (fun c121_3 => ?_)
  refine lv_aload_n hx hb dX7_init_124 rfl (lv_at hl 2 rfl) ?_
  refine k_get S hK a10 rfl (fun _ h => List.mem_cons_of_mem _ (List.mem_append_right _ (h))) 0 (by decide) (List.mem_cons_of_mem _ (List.mem_append_left _ (List.mem_of_getElem? (i := 4) rfl))) rfl (v := .ref (o + 1)) rfl dX7_init_125 ?_
  refine lv_bipush (v := nI 30) hx hb dX7_init_128 (by decide) ?_
  refine lv_bipush (v := nI 8) hx hb dX7_init_130 (by decide) ?_
  refine lv_iload_n hx hb dX7_init_132 rfl (lv_at hl 0 rfl) ?_
  refine n_imul (n := 24) hx hb dX7_init_133 (by omega) ?_
  refine n_iadd (n := 54) hx hb dX7_init_134 (by omega) ?_
  refine lv_sipush (v := nI 1000) hx hb dX7_init_135 (by decide) ?_
  refine k_iast hx hb hK a36 (i := 54) (by omega) (by decide) hS (by constructor <;> omega) dX7_init_138 (fun H locs a37 zH hF hS => ?_)
  have a10 := a10.kept (hF _ (by omega))
  have a3 := a3.kept (hF _ (by omega))
  have a5 := a5.kept (hF _ (by omega))
  have a7 := a7.kept (hF _ (by omega))
  have a9 := a9.kept (hF _ (by omega))
  have hz : H.size = o + 6 := by omega
  refine lv_iconst (v := nI 0) hx hb dX7_init_139 (by decide) ?_
  refine lv_istore_n (lv' := [(2, .int (nI 0)), (1, .int (nI 3)), (0, .ref o)]) hx hb dX7_init_140 rfl hl (by decide) rfl (fun ls hl => ?_)
  refine lv_iload_n hx hb dX7_init_141 rfl (lv_at hl 0 rfl) ?_
  refine lv_iconst (v := nI 4) hx hb dX7_init_142 (by decide) ?_
  refine n_ige (tgt := 170) hx hb dX7_init_143 (by decide) (by omega) (by omega) (fun h => absurd h (by decide)) (fun c143_15 => ?_)
  refine lv_aload_n hx hb dX7_init_146 rfl (lv_at hl 2 rfl) ?_
  refine k_get S hK a10 rfl (fun _ h => List.mem_cons_of_mem _ (List.mem_append_right _ (h))) 0 (by decide) (List.mem_cons_of_mem _ (List.mem_append_left _ (List.mem_of_getElem? (i := 4) rfl))) rfl (v := .ref (o + 1)) rfl dX7_init_147 ?_
  refine lv_bipush (v := nI 30) hx hb dX7_init_150 (by decide) ?_
  refine lv_bipush (v := nI 8) hx hb dX7_init_152 (by decide) ?_
  refine lv_iload_n hx hb dX7_init_154 rfl (lv_at hl 1 rfl) ?_
  refine n_imul (n := 24) hx hb dX7_init_155 (by omega) ?_
  refine n_iadd (n := 54) hx hb dX7_init_156 (by omega) ?_
  refine lv_iconst (v := nI 4) hx hb dX7_init_157 (by decide) ?_
  refine n_iadd (n := 58) hx hb dX7_init_158 (by omega) ?_
  refine lv_iload_n hx hb dX7_init_159 rfl (lv_at hl 0 rfl) ?_
  refine n_iadd (n := 58) hx hb dX7_init_160 (by omega) ?_
  refine lv_bipush (v := nI 50) hx hb dX7_init_161 (by decide) ?_
  refine k_iast hx hb hK a37 (i := 58) (by omega) (by decide) hS (by constructor <;> omega) dX7_init_163 (fun H locs a38 zH hF hS => ?_)
  have a10 := a10.kept (hF _ (by omega))
  have a3 := a3.kept (hF _ (by omega))
  have a5 := a5.kept (hF _ (by omega))
  have a7 := a7.kept (hF _ (by omega))
  have a9 := a9.kept (hF _ (by omega))
  have hz : H.size = o + 6 := by omega
  refine lv_iinc (v := nI 1) (lv' := [(2, .int (nI 1)), (1, .int (nI 3)), (0, .ref o)]) hx hb dX7_init_164 hl (k := 0) rfl (by decide) (by decide) rfl (fun ls hl => ?_)
  refine lv_goto (tgt := 141) hx hb dX7_init_167 (by decide) ?_
  refine lv_iload_n hx hb dX7_init_141 rfl (lv_at hl 0 rfl) ?_
  refine lv_iconst (v := nI 4) hx hb dX7_init_142 (by decide) ?_
  refine n_ige (tgt := 170) hx hb dX7_init_143 (by decide) (by omega) (by omega) (fun h => absurd h (by decide)) (fun c143_16 => ?_)
  refine lv_aload_n hx hb dX7_init_146 rfl (lv_at hl 2 rfl) ?_
  refine k_get S hK a10 rfl (fun _ h => List.mem_cons_of_mem _ (List.mem_append_right _ (h))) 0 (by decide) (List.mem_cons_of_mem _ (List.mem_append_left _ (List.mem_of_getElem? (i := 4) rfl))) rfl (v := .ref (o + 1)) rfl dX7_init_147 ?_
  refine lv_bipush (v := nI 30) hx hb dX7_init_150 (by decide) ?_
  refine lv_bipush (v := nI 8) hx hb dX7_init_152 (by decide) ?_
  refine lv_iload_n hx hb dX7_init_154 rfl (lv_at hl 1 rfl) ?_
  refine n_imul (n := 24) hx hb dX7_init_155 (by omega) ?_
  refine n_iadd (n := 54) hx hb dX7_init_156 (by omega) ?_
  refine lv_iconst (v := nI 4) hx hb dX7_init_157 (by decide) ?_
  refine n_iadd (n := 58) hx hb dX7_init_158 (by omega) ?_
  refine lv_iload_n hx hb dX7_init_159 rfl (lv_at hl 0 rfl) ?_
  refine n_iadd (n := 59) hx hb dX7_init_160 (by omega) ?_
  refine lv_bipush (v := nI 50) hx hb dX7_init_161 (by decide) ?_
  refine k_iast hx hb hK a38 (i := 59) (by omega) (by decide) hS (by constructor <;> omega) dX7_init_163 (fun H locs a39 zH hF hS => ?_)
  have a10 := a10.kept (hF _ (by omega))
  have a3 := a3.kept (hF _ (by omega))
  have a5 := a5.kept (hF _ (by omega))
  have a7 := a7.kept (hF _ (by omega))
  have a9 := a9.kept (hF _ (by omega))
  have hz : H.size = o + 6 := by omega
  refine lv_iinc (v := nI 2) (lv' := [(2, .int (nI 2)), (1, .int (nI 3)), (0, .ref o)]) hx hb dX7_init_164 hl (k := 0) rfl (by decide) (by decide) rfl (fun ls hl => ?_)
  refine lv_goto (tgt := 141) hx hb dX7_init_167 (by decide) ?_
  refine lv_iload_n hx hb dX7_init_141 rfl (lv_at hl 0 rfl) ?_
  refine lv_iconst (v := nI 4) hx hb dX7_init_142 (by decide) ?_
  refine n_ige (tgt := 170) hx hb dX7_init_143 (by decide) (by omega) (by omega) (fun h => absurd h (by decide)) (fun c143_17 => ?_)
  refine lv_aload_n hx hb dX7_init_146 rfl (lv_at hl 2 rfl) ?_
  refine k_get S hK a10 rfl (fun _ h => List.mem_cons_of_mem _ (List.mem_append_right _ (h))) 0 (by decide) (List.mem_cons_of_mem _ (List.mem_append_left _ (List.mem_of_getElem? (i := 4) rfl))) rfl (v := .ref (o + 1)) rfl dX7_init_147 ?_
  refine lv_bipush (v := nI 30) hx hb dX7_init_150 (by decide) ?_
  refine lv_bipush (v := nI 8) hx hb dX7_init_152 (by decide) ?_
  refine lv_iload_n hx hb dX7_init_154 rfl (lv_at hl 1 rfl) ?_
  refine n_imul (n := 24) hx hb dX7_init_155 (by omega) ?_
  refine n_iadd (n := 54) hx hb dX7_init_156 (by omega) ?_
  refine lv_iconst (v := nI 4) hx hb dX7_init_157 (by decide) ?_
  refine n_iadd (n := 58) hx hb dX7_init_158 (by omega) ?_
  refine lv_iload_n hx hb dX7_init_159 rfl (lv_at hl 0 rfl) ?_
  refine n_iadd (n := 60) hx hb dX7_init_160 (by omega) ?_
  refine lv_bipush (v := nI 50) hx hb dX7_init_161 (by decide) ?_
  refine k_iast hx hb hK a39 (i := 60) (by omega) (by decide) hS (by constructor <;> omega) dX7_init_163 (fun H locs a40 zH hF hS => ?_)
  have a10 := a10.kept (hF _ (by omega))
  have a3 := a3.kept (hF _ (by omega))
  have a5 := a5.kept (hF _ (by omega))
  have a7 := a7.kept (hF _ (by omega))
  have a9 := a9.kept (hF _ (by omega))
  have hz : H.size = o + 6 := by omega
  refine lv_iinc (v := nI 3) (lv' := [(2, .int (nI 3)), (1, .int (nI 3)), (0, .ref o)]) hx hb dX7_init_164 hl (k := 0) rfl (by decide) (by decide) rfl (fun ls hl => ?_)
  refine lv_goto (tgt := 141) hx hb dX7_init_167 (by decide) ?_
  refine lv_iload_n hx hb dX7_init_141 rfl (lv_at hl 0 rfl) ?_
  refine lv_iconst (v := nI 4) hx hb dX7_init_142 (by decide) ?_
  refine n_ige (tgt := 170) hx hb dX7_init_143 (by decide) (by omega) (by omega) (fun h => absurd h (by decide)) (fun c143_18 => ?_)
  refine lv_aload_n hx hb dX7_init_146 rfl (lv_at hl 2 rfl) ?_
  refine k_get S hK a10 rfl (fun _ h => List.mem_cons_of_mem _ (List.mem_append_right _ (h))) 0 (by decide) (List.mem_cons_of_mem _ (List.mem_append_left _ (List.mem_of_getElem? (i := 4) rfl))) rfl (v := .ref (o + 1)) rfl dX7_init_147 ?_
  refine lv_bipush (v := nI 30) hx hb dX7_init_150 (by decide) ?_
  refine lv_bipush (v := nI 8) hx hb dX7_init_152 (by decide) ?_
  refine lv_iload_n hx hb dX7_init_154 rfl (lv_at hl 1 rfl) ?_
  refine n_imul (n := 24) hx hb dX7_init_155 (by omega) ?_
  refine n_iadd (n := 54) hx hb dX7_init_156 (by omega) ?_
  refine lv_iconst (v := nI 4) hx hb dX7_init_157 (by decide) ?_
  refine n_iadd (n := 58) hx hb dX7_init_158 (by omega) ?_
  refine lv_iload_n hx hb dX7_init_159 rfl (lv_at hl 0 rfl) ?_
  refine n_iadd (n := 61) hx hb dX7_init_160 (by omega) ?_
  refine lv_bipush (v := nI 50) hx hb dX7_init_161 (by decide) ?_
  refine k_iast hx hb hK a40 (i := 61) (by omega) (by decide) hS (by constructor <;> omega) dX7_init_163 (fun H locs a41 zH hF hS => ?_)
  have a10 := a10.kept (hF _ (by omega))
  have a3 := a3.kept (hF _ (by omega))
  have a5 := a5.kept (hF _ (by omega))
  have a7 := a7.kept (hF _ (by omega))
  have a9 := a9.kept (hF _ (by omega))
  have hz : H.size = o + 6 := by omega
  refine lv_iinc (v := nI 4) (lv' := [(2, .int (nI 4)), (1, .int (nI 3)), (0, .ref o)]) hx hb dX7_init_164 hl (k := 0) rfl (by decide) (by decide) rfl (fun ls hl => ?_)
  refine lv_goto (tgt := 141) hx hb dX7_init_167 (by decide) ?_
  refine lv_iload_n hx hb dX7_init_141 rfl (lv_at hl 0 rfl) ?_
  refine lv_iconst (v := nI 4) hx hb dX7_init_142 (by decide) ?_
  refine n_ige (tgt := 170) hx hb dX7_init_143 (by decide) (by omega) (by omega) (fun c143_19 => ?_) (fun h => absurd h (by decide))
  refine lv_iinc (v := nI 4) (lv' := [(1, .int (nI 4)), (2, .int (nI 4)), (0, .ref o)]) hx hb dX7_init_170 hl (k := 1) rfl (by decide) (by decide) rfl (fun ls hl => ?_)
  refine lv_goto (tgt := 119) hx hb dX7_init_173 (by decide) ?_
  refine lv_iload_n hx hb dX7_init_119 rfl (lv_at hl 0 rfl) ?_
  refine lv_iconst (v := nI 4) hx hb dX7_init_120 (by decide) ?_
  refine n_ige (tgt := 176) hx hb dX7_init_121 (by decide) (by omega) (by omega) (fun c121_4 => ?_) (fun h => absurd h (by decide))
  exact k_cs (cells' := 5) (slots' := 2732) (by omega) (by omega) (k_vretM hx hb hr hlk dX7_init_176 hS (show (b7 E o) H from ⟨hz, md_z (z := upd (upd (upd (upd (upd (upd (upd (upd (upd (upd (upd (upd (upd (upd (upd (upd (upd (upd (upd (upd (upd (upd (upd (upd (upd (upd (upd (upd (upd (upd (upd (fun _ => 0) 7 (nI 30)) 8 (nI 20)) 9 (nI 10)) 10 (nI 2)) 11 (nI 3)) 12 (nI 100)) 15 (nI 100)) 18 (nI 100)) 21 (nI 100)) 24 (nI 100)) 27 (nI 100)) 30 (nI 1000)) 34 (nI 50)) 35 (nI 50)) 36 (nI 50)) 37 (nI 50)) 38 (nI 1000)) 42 (nI 50)) 43 (nI 50)) 44 (nI 50)) 45 (nI 50)) 46 (nI 1000)) 50 (nI 50)) 51 (nI 50)) 52 (nI 50)) 53 (nI 50)) 54 (nI 1000)) 58 (nI 50)) 59 (nI 50)) 60 (nI 50)) 61 (nI 50)) ⟨a10, a41, a3, a5, a7, a9⟩ (by decide +kernel)⟩))
