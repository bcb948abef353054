def rm_X7_fails : Room := { frames := 0, cells := 0, slots := 0, locals := 0 }
theorem hd_X7_fails : k_hd1 yX7_fails RX7 1 := by decide +kernel
set_option maxHeartbeats 4000000 in
set_option maxRecDepth 100000 in
theorem c_X7_fails (l : Launch) (E : ke_E) (o : Nat) (z : Nat → Int32) (w : md_w) (x : Int32) : Met l yX7_fails wsX7_fails rm_X7_fails (kp E [.ref o, .int x] (md E o z w)) (qm (some (.int (nI 0))) (bl o 6) (md E o z (w_th w x))) 0 0 (bl o 6) := by
  refine k_hd (cc := cX7_fails) (maxL := 2) (ret := (some .int)) (by decide) rfl (Nat.le_of_ble_eq_true rfl) ?_
  intro p e s m below meth c ls S hr hlk hnm hK hP hl
  have hx := S.1
  have hb := S.2.1
  have hts := S.2.2.2.2
  have hP : md E o z w s.heap := hP
  have hl : lv_has ls 2 [(0, .ref o), (1, .int x)] := hl
  have hS : va_S (bl o 6) s.heap s.heap [] := va_S.rf
  refine lv_aload_n hx hb dX7_fails_0 rfl (lv_at hl 0 rfl) ?_
  refine lv_iload_n hx hb dX7_fails_1 rfl (lv_at hl 1 rfl) ?_
  refine md_put (w' := w_th w x) S hK hP (fun _ h => List.mem_cons_of_mem _ (List.mem_append_right _ (h))) 6 (by decide) (List.mem_cons_of_mem _ (List.mem_append_left _ (List.mem_of_getElem? (i := 0) rfl))) rfl rfl rfl rfl rfl rfl rfl rfl rfl hS (fun _ h => h) dX7_fails_2 (fun H locs hP zH fH hS => ?_)
  refine lv_iconst (v := nI 0) hx hb dX7_fails_5 (by decide) ?_
  exact k_iretM hx hb hr hlk dX7_fails_6 hS hP (rfl)
def rm_X7_save : Room := { frames := 0, cells := 0, slots := 0, locals := 0 }
theorem hd_X7_save : k_hd1 yX7_save RX7 0 := by decide +kernel
set_option maxHeartbeats 4000000 in
set_option maxRecDepth 100000 in
theorem c_X7_save (l : Launch) (E : ke_E) (o : Nat) (z : Nat → Int32) (w : md_w) (sn : Nat) (hs : q_sm w = nI sn) (hn : sn ≤ 6) : Met l yX7_save wsX7_save rm_X7_save (kp E [.ref o] (md E o z w)) (qm none (bl o 6) (md E o z (svW z w sn))) 0 0 (bl o 6) := by
  refine k_hd (cc := cX7_save) (maxL := 2) (ret := none) (by decide) rfl (Nat.le_of_ble_eq_true rfl) ?_
  intro p e s m below meth c ls S hr hlk hnm hK hP hl
  have hx := S.1
  have hb := S.2.1
  have hts := S.2.2.2.2
  have hP : md E o z w s.heap := hP
  have hl : lv_has ls 2 [(0, .ref o)] := hl
  have hS : va_S (bl o 6) s.heap s.heap [] := va_S.rf
  have J52 : ∀ (n_ : Nat), ∀ (f : Nat → Int32), ∀ (b : Nat), ∀ (k : Nat), b ≤ 5 → k ≤ 322 → (sn = 6 ∧ b = 5 ∧ f = shI (q_rows w) 1610) ∨ (¬ sn = 6 ∧ b = sn ∧ f = q_rows w) → 322 < k + n_ → ∀ (H : Heap) (locs : List Loc), md E o z (w_sm (w_rows w (puI f z b k)) (nI b)) H → va_S (bl o 6) s.heap H locs → ∀ (ls : Array Slot), lv_has ls 2 [(0, .ref o), (1, .int (nI k))] → W p l e (headSpec wsX7_save rm_X7_save).room s m ([.ref o] : List Value).toArray below meth c H locs 0 0 (MQ below (qm none (bl o 6) (md E o z (svW z w sn))) ([.ref o] : List Value).toArray s 0 0 (bl o 6)) (F0 m 52 ls []) := by
    intro n_
    induction n_ with
    | zero =>
      intro f b k hb5 hk hbf hn_ _ _ _ _ _ _
      exact absurd hn_ (by omega)
    | succ n_ ih =>
      intro f b k hb5 hk hbf hn_ H locs hW0 hS ls hl
      refine lv_iload_n hx hb dX7_save_52 rfl (lv_at hl 1 rfl) ?_
      refine lv_sipush (v := nI 322) hx hb dX7_save_53 (by decide) ?_
      refine n_ige (tgt := 86) hx hb dX7_save_56 (by decide) (by omega) (by omega) (fun c56 => ?_) (fun c56 => ?_)
      · refine lv_aload_n hx hb dX7_save_86 rfl (lv_at hl 0 rfl) ?_
        refine lv_dup hx hb dX7_save_87 rfl ?_
        refine k_get S hK hW0.1 rfl (fun _ h => List.mem_cons_of_mem _ (List.mem_append_right _ (h))) 3 (by decide) (List.mem_cons_of_mem _ (List.mem_append_left _ (List.mem_of_getElem? (i := 0) rfl))) rfl (v := .int (nI b)) rfl dX7_save_88 ?_
        refine lv_iconst (v := nI 1) hx hb dX7_save_91 (by decide) ?_
        refine n_iadd (n := b + 1) hx hb dX7_save_92 (by omega) ?_
        refine md_put (w' := w_sm (w_rows w (puI f z b k)) (nI (b + 1))) S hK hW0 (fun _ h => List.mem_cons_of_mem _ (List.mem_append_right _ (h))) 3 (by decide) (List.mem_cons_of_mem _ (List.mem_append_left _ (List.mem_of_getElem? (i := 0) rfl))) rfl rfl rfl rfl rfl rfl rfl rfl rfl hS (fun _ h => h) dX7_save_93 (fun H locs hP zH fH hS => ?_)
        exact k_vretM hx hb hr hlk dX7_save_96 hS (show md E o z (svW z w sn) _ from (by have e9 : k = 322 := (by omega); rw [e9] at hP; rcases hbf with ⟨q1, q2, q3⟩ | ⟨q1, q2, q3⟩ <;> subst q2 q3 <;> first | (rw [svW_6 q1]; exact hP) | (rw [svW_n q1]; exact hP)))
      · refine lv_aload_n hx hb dX7_save_59 rfl (lv_at hl 0 rfl) ?_
        refine k_get S hK hW0.1 rfl (fun _ h => List.mem_cons_of_mem _ (List.mem_append_right _ (h))) 1 (by decide) (List.mem_cons_of_mem _ (List.mem_append_left _ (List.mem_of_getElem? (i := 1) rfl))) rfl (v := .ref (o + 2)) rfl dX7_save_60 ?_
        refine lv_sipush (v := nI 322) hx hb dX7_save_63 (by decide) ?_
        refine lv_aload_n hx hb dX7_save_66 rfl (lv_at hl 0 rfl) ?_
        refine k_get S hK hW0.1 rfl (fun _ h => List.mem_cons_of_mem _ (List.mem_append_right _ (h))) 3 (by decide) (List.mem_cons_of_mem _ (List.mem_append_left _ (List.mem_of_getElem? (i := 0) rfl))) rfl (v := .int (nI b)) rfl dX7_save_67 ?_
        refine n_imul (n := 322*b) hx hb dX7_save_70 (by omega) ?_
        refine lv_iload_n hx hb dX7_save_71 rfl (lv_at hl 1 rfl) ?_
        refine n_iadd (n := 322*b + k) hx hb dX7_save_72 (by omega) ?_
        refine lv_aload_n hx hb dX7_save_73 rfl (lv_at hl 0 rfl) ?_
        refine k_get S hK hW0.1 rfl (fun _ h => List.mem_cons_of_mem _ (List.mem_append_right _ (h))) 0 (by decide) (List.mem_cons_of_mem _ (List.mem_append_left _ (List.mem_of_getElem? (i := 2) rfl))) rfl (v := .ref (o + 1)) rfl dX7_save_74 ?_
        refine lv_iload_n hx hb dX7_save_77 rfl (lv_at hl 1 rfl) ?_
        refine k_iald hx hb hK hW0.2.1 (by omega) (by decide) (v := z k) rfl dX7_save_78 ?_
        refine md_ast_rows hx hb hK hW0 (by omega) hS (fun _ h => h) dX7_save_79 (fun H locs hP zH fH hS => ?_)
        refine lv_iinc (v := nI (k + 1)) (lv' := [(1, .int (nI (k + 1))), (0, .ref o)]) hx hb dX7_save_80 hl (k := 1) rfl (inc_1 _) (by decide) rfl (fun ls hl => ?_)
        refine lv_goto (tgt := 52) hx hb dX7_save_83 (by decide) ?_
        exact ih f b (k + 1) hb5 (by omega) hbf (by omega) _ _ (show md E o z (w_sm (w_rows w (puI f z b (k + 1))) (nI b)) _ from (by rw [puI_s]; exact hP)) hS _ (lv_sub hl [1, 0] rfl)
  have J11 : ∀ (n_ : Nat), ∀ (k : Nat), k ≤ 1610 → sn = 6 → 1610 < k + n_ → ∀ (H : Heap) (locs : List Loc), md E o z (w_rows w (shI (q_rows w) k)) H → va_S (bl o 6) s.heap H locs → ∀ (ls : Array Slot), lv_has ls 2 [(0, .ref o), (1, .int (nI k))] → W p l e (headSpec wsX7_save rm_X7_save).room s m ([.ref o] : List Value).toArray below meth c H locs 0 0 (MQ below (qm none (bl o 6) (md E o z (svW z w sn))) ([.ref o] : List Value).toArray s 0 0 (bl o 6)) (F0 m 11 ls []) := by
    intro n_
    induction n_ with
    | zero =>
      intro k hk h6 hn_ _ _ _ _ _ _
      exact absurd hn_ (by omega)
    | succ n_ ih =>
      intro k hk h6 hn_ H locs hW0 hS ls hl
      refine lv_iload_n hx hb dX7_save_11 rfl (lv_at hl 1 rfl) ?_
      refine lv_sipush (v := nI 1610) hx hb dX7_save_12 (by decide) ?_
      refine n_ige (tgt := 40) hx hb dX7_save_15 (by decide) (by omega) (by omega) (fun c15 => ?_) (fun c15 => ?_)
      · refine lv_aload_n hx hb dX7_save_40 rfl (lv_at hl 0 rfl) ?_
        refine lv_dup hx hb dX7_save_41 rfl ?_
        refine k_get S hK hW0.1 rfl (fun _ h => List.mem_cons_of_mem _ (List.mem_append_right _ (h))) 3 (by decide) (List.mem_cons_of_mem _ (List.mem_append_left _ (List.mem_of_getElem? (i := 0) rfl))) rfl (v := .int (nI sn)) (congrArg (fun x => some (Value.int x)) (hs)) dX7_save_42 ?_
        refine k_top (y := nI 6) (by rw [show sn = 6 by omega]) ?_
        refine lv_iconst (v := nI 1) hx hb dX7_save_45 (by decide) ?_
        refine n_isub (n := 5) hx hb dX7_save_46 (by omega) ?_
        refine md_put (w' := w_sm (w_rows w (shI (q_rows w) k)) (nI 5)) S hK hW0 (fun _ h => List.mem_cons_of_mem _ (List.mem_append_right _ (h))) 3 (by decide) (List.mem_cons_of_mem _ (List.mem_append_left _ (List.mem_of_getElem? (i := 0) rfl))) rfl rfl rfl rfl rfl rfl rfl rfl rfl hS (fun _ h => h) dX7_save_47 (fun H locs hP zH fH hS => ?_)
        refine lv_iconst (v := nI 0) hx hb dX7_save_50 (by decide) ?_
        refine lv_istore_n (lv' := [(1, .int (nI 0)), (0, .ref o)]) hx hb dX7_save_51 rfl hl (by decide) rfl (fun ls hl => ?_)
        exact J52 (322 + 1) (shI (q_rows w) 1610) 5 0 (by omega) (by omega) (Or.inl ⟨h6, rfl, rfl⟩) (by omega) _ _ (show md E o z (w_sm (w_rows w (puI (shI (q_rows w) 1610) z 5 0)) (nI 5)) _ from (by have e9 : k = 1610 := (by omega); rw [e9] at hP; rw [puI_0]; exact hP)) hS _ (lv_sub hl [1, 0] rfl)
      · refine lv_aload_n hx hb dX7_save_18 rfl (lv_at hl 0 rfl) ?_
        refine k_get S hK hW0.1 rfl (fun _ h => List.mem_cons_of_mem _ (List.mem_append_right _ (h))) 1 (by decide) (List.mem_cons_of_mem _ (List.mem_append_left _ (List.mem_of_getElem? (i := 1) rfl))) rfl (v := .ref (o + 2)) rfl dX7_save_19 ?_
        refine lv_iload_n hx hb dX7_save_22 rfl (lv_at hl 1 rfl) ?_
        refine lv_aload_n hx hb dX7_save_23 rfl (lv_at hl 0 rfl) ?_
        refine k_get S hK hW0.1 rfl (fun _ h => List.mem_cons_of_mem _ (List.mem_append_right _ (h))) 1 (by decide) (List.mem_cons_of_mem _ (List.mem_append_left _ (List.mem_of_getElem? (i := 1) rfl))) rfl (v := .ref (o + 2)) rfl dX7_save_24 ?_
        refine lv_iload_n hx hb dX7_save_27 rfl (lv_at hl 1 rfl) ?_
        refine lv_sipush (v := nI 322) hx hb dX7_save_28 (by decide) ?_
        refine n_iadd (n := k + 322) hx hb dX7_save_31 (by omega) ?_
        refine k_iald hx hb hK hW0.2.2.1 (by omega) (by decide) (v := (shI (q_rows w) k) (k + 322)) rfl dX7_save_32 ?_
        refine md_ast_rows hx hb hK hW0 (by omega) hS (fun _ h => h) dX7_save_33 (fun H locs hP zH fH hS => ?_)
        refine lv_iinc (v := nI (k + 1)) (lv' := [(1, .int (nI (k + 1))), (0, .ref o)]) hx hb dX7_save_34 hl (k := 1) rfl (inc_1 _) (by decide) rfl (fun ls hl => ?_)
        refine lv_goto (tgt := 11) hx hb dX7_save_37 (by decide) ?_
        exact ih (k + 1) (by omega) h6 (by omega) _ _ (show md E o z (w_rows w (shI (q_rows w) (k + 1))) _ from (by rw [shI_s]; exact hP)) hS _ (lv_sub hl [1, 0] rfl)
  refine lv_aload_n hx hb dX7_save_0 rfl (lv_at hl 0 rfl) ?_
  refine k_get S hK hP.1 rfl (fun _ h => List.mem_cons_of_mem _ (List.mem_append_right _ (h))) 3 (by decide) (List.mem_cons_of_mem _ (List.mem_append_left _ (List.mem_of_getElem? (i := 0) rfl))) rfl (v := .int (nI sn)) (congrArg (fun x => some (Value.int x)) (hs)) dX7_save_1 ?_
  refine lv_bipush (v := nI 6) hx hb dX7_save_4 (by decide) ?_
  refine n_ine (tgt := 50) hx hb dX7_save_6 (by decide) (by omega) (by omega) (fun c6 => ?_) (fun c6 => ?_)
  · refine lv_iconst (v := nI 0) hx hb dX7_save_50 (by decide) ?_
    refine lv_istore_n (lv' := [(1, .int (nI 0)), (0, .ref o)]) hx hb dX7_save_51 rfl hl (by decide) rfl (fun ls hl => ?_)
    exact J52 (322 + 1) (q_rows w) sn 0 (by omega) (by omega) (Or.inr ⟨c6, rfl, rfl⟩) (by omega) _ _ (show md E o z (w_sm (w_rows w (puI (q_rows w) z sn 0)) (nI sn)) _ from (by rw [puI_0, ← hs]; exact hP)) hS _ (lv_sub hl [1, 0] rfl)
  · refine lv_iconst (v := nI 0) hx hb dX7_save_9 (by decide) ?_
    refine lv_istore_n (lv' := [(1, .int (nI 0)), (0, .ref o)]) hx hb dX7_save_10 rfl hl (by decide) rfl (fun ls hl => ?_)
    exact J11 (1610 + 1) 0 (by omega) c6 (by omega) _ _ (show md E o z (w_rows w (shI (q_rows w) 0)) _ from (by rw [shI_0]; exact hP)) hS _ (lv_sub hl [1, 0] rfl)
def rm_X7_putAside : Room := { frames := 0, cells := 0, slots := 0, locals := 0 }
theorem hd_X7_putAside : k_hd1 yX7_putAside RX7 0 := by decide +kernel
set_option maxHeartbeats 4000000 in
set_option maxRecDepth 100000 in
theorem c_X7_putAside (l : Launch) (E : ke_E) (o : Nat) (z : Nat → Int32) (w : md_w) : Met l yX7_putAside wsX7_putAside rm_X7_putAside (kp E [.ref o] (md E o z w)) (qm none (bl o 6) (md E o z (w_aside w (asI (q_aside w) z 322)))) 0 0 (bl o 6) := by
  refine k_hd (cc := cX7_putAside) (maxL := 2) (ret := none) (by decide) rfl (Nat.le_of_ble_eq_true rfl) ?_
  intro p e s m below meth c ls S hr hlk hnm hK hP hl
  have hx := S.1
  have hb := S.2.1
  have hts := S.2.2.2.2
  have hP : md E o z w s.heap := hP
  have hl : lv_has ls 2 [(0, .ref o)] := hl
  have hS : va_S (bl o 6) s.heap s.heap [] := va_S.rf
  have J2 : ∀ (n_ : Nat), ∀ (k : Nat), k ≤ 322 → 322 < k + n_ → ∀ (H : Heap) (locs : List Loc), md E o z (w_aside w (asI (q_aside w) z k)) H → va_S (bl o 6) s.heap H locs → ∀ (ls : Array Slot), lv_has ls 2 [(0, .ref o), (1, .int (nI k))] → W p l e (headSpec wsX7_putAside rm_X7_putAside).room s m ([.ref o] : List Value).toArray below meth c H locs 0 0 (MQ below (qm none (bl o 6) (md E o z (w_aside w (asI (q_aside w) z 322)))) ([.ref o] : List Value).toArray s 0 0 (bl o 6)) (F0 m 2 ls []) := by
    intro n_
    induction n_ with
    | zero =>
      intro k hk hn_ _ _ _ _ _ _
      exact absurd hn_ (by omega)
    | succ n_ ih =>
      intro k hk hn_ H locs hW0 hS ls hl
      refine lv_iload_n hx hb dX7_putAside_2 rfl (lv_at hl 1 rfl) ?_
      refine lv_sipush (v := nI 322) hx hb dX7_putAside_3 (by decide) ?_
      refine n_ige (tgt := 27) hx hb dX7_putAside_6 (by decide) (by omega) (by omega) (fun c6 => ?_) (fun c6 => ?_)
      · exact k_vretM hx hb hr hlk dX7_putAside_27 hS (show md E o z (w_aside w (asI (q_aside w) z 322)) _ from (by have e9 : k = 322 := (by omega); rw [e9] at hW0; exact hW0))
      · refine lv_aload_n hx hb dX7_putAside_9 rfl (lv_at hl 0 rfl) ?_
        refine k_get S hK hW0.1 rfl (fun _ h => List.mem_cons_of_mem _ (List.mem_append_right _ (h))) 2 (by decide) (List.mem_cons_of_mem _ (List.mem_append_left _ (List.mem_of_getElem? (i := 0) rfl))) rfl (v := .ref (o + 3)) rfl dX7_putAside_10 ?_
        refine lv_iload_n hx hb dX7_putAside_13 rfl (lv_at hl 1 rfl) ?_
        refine lv_aload_n hx hb dX7_putAside_14 rfl (lv_at hl 0 rfl) ?_
        refine k_get S hK hW0.1 rfl (fun _ h => List.mem_cons_of_mem _ (List.mem_append_right _ (h))) 0 (by decide) (List.mem_cons_of_mem _ (List.mem_append_left _ (List.mem_of_getElem? (i := 1) rfl))) rfl (v := .ref (o + 1)) rfl dX7_putAside_15 ?_
        refine lv_iload_n hx hb dX7_putAside_18 rfl (lv_at hl 1 rfl) ?_
        refine k_iald hx hb hK hW0.2.1 (by omega) (by decide) (v := z k) rfl dX7_putAside_19 ?_
        refine md_ast_aside hx hb hK hW0 (by omega) hS (fun _ h => h) dX7_putAside_20 (fun H locs hP zH fH hS => ?_)
        refine lv_iinc (v := nI (k + 1)) (lv' := [(1, .int (nI (k + 1))), (0, .ref o)]) hx hb dX7_putAside_21 hl (k := 1) rfl (inc_1 _) (by decide) rfl (fun ls hl => ?_)
        refine lv_goto (tgt := 2) hx hb dX7_putAside_24 (by decide) ?_
        exact ih (k + 1) (by omega) (by omega) _ _ (show md E o z (w_aside w (asI (q_aside w) z (k + 1))) _ from (by rw [asI_s]; exact hP)) hS _ (lv_sub hl [1, 0] rfl)
  refine lv_iconst (v := nI 0) hx hb dX7_putAside_0 (by decide) ?_
  refine lv_istore_n (lv' := [(1, .int (nI 0)), (0, .ref o)]) hx hb dX7_putAside_1 rfl hl (by decide) rfl (fun ls hl => ?_)
  exact J2 (322 + 1) 0 (by omega) (by omega) _ _ (show md E o z (w_aside w (asI (q_aside w) z 0)) _ from (by rw [asI_0]; exact hP)) hS _ (lv_sub hl [1, 0] rfl)
def rm_X7_putBack : Room := { frames := 0, cells := 0, slots := 0, locals := 0 }
theorem hd_X7_putBack : k_hd1 yX7_putBack RX7 0 := by decide +kernel
set_option maxHeartbeats 4000000 in
set_option maxRecDepth 100000 in
theorem c_X7_putBack (l : Launch) (E : ke_E) (o : Nat) (z : Nat → Int32) (w : md_w) : Met l yX7_putBack wsX7_putBack rm_X7_putBack (kp E [.ref o] (md E o z w)) (qm none (bl o 6) (md E o (asI z (q_aside w) 322) w)) 0 0 (bl o 6) := by
  refine k_hd (cc := cX7_putBack) (maxL := 2) (ret := none) (by decide) rfl (Nat.le_of_ble_eq_true rfl) ?_
  intro p e s m below meth c ls S hr hlk hnm hK hP hl
  have hx := S.1
  have hb := S.2.1
  have hts := S.2.2.2.2
  have hP : md E o z w s.heap := hP
  have hl : lv_has ls 2 [(0, .ref o)] := hl
  have hS : va_S (bl o 6) s.heap s.heap [] := va_S.rf
  have J2 : ∀ (n_ : Nat), ∀ (k : Nat), k ≤ 322 → 322 < k + n_ → ∀ (H : Heap) (locs : List Loc), md E o (asI z (q_aside w) k) w H → va_S (bl o 6) s.heap H locs → ∀ (ls : Array Slot), lv_has ls 2 [(0, .ref o), (1, .int (nI k))] → W p l e (headSpec wsX7_putBack rm_X7_putBack).room s m ([.ref o] : List Value).toArray below meth c H locs 0 0 (MQ below (qm none (bl o 6) (md E o (asI z (q_aside w) 322) w)) ([.ref o] : List Value).toArray s 0 0 (bl o 6)) (F0 m 2 ls []) := by
    intro n_
    induction n_ with
    | zero =>
      intro k hk hn_ _ _ _ _ _ _
      exact absurd hn_ (by omega)
    | succ n_ ih =>
      intro k hk hn_ H locs hW0 hS ls hl
      refine lv_iload_n hx hb dX7_putBack_2 rfl (lv_at hl 1 rfl) ?_
      refine lv_sipush (v := nI 322) hx hb dX7_putBack_3 (by decide) ?_
      refine n_ige (tgt := 27) hx hb dX7_putBack_6 (by decide) (by omega) (by omega) (fun c6 => ?_) (fun c6 => ?_)
      · exact k_vretM hx hb hr hlk dX7_putBack_27 hS (show md E o (asI z (q_aside w) 322) w _ from (by have e9 : k = 322 := (by omega); rw [e9] at hW0; exact hW0))
      · refine lv_aload_n hx hb dX7_putBack_9 rfl (lv_at hl 0 rfl) ?_
        refine k_get S hK hW0.1 rfl (fun _ h => List.mem_cons_of_mem _ (List.mem_append_right _ (h))) 0 (by decide) (List.mem_cons_of_mem _ (List.mem_append_left _ (List.mem_of_getElem? (i := 0) rfl))) rfl (v := .ref (o + 1)) rfl dX7_putBack_10 ?_
        refine lv_iload_n hx hb dX7_putBack_13 rfl (lv_at hl 1 rfl) ?_
        refine lv_aload_n hx hb dX7_putBack_14 rfl (lv_at hl 0 rfl) ?_
        refine k_get S hK hW0.1 rfl (fun _ h => List.mem_cons_of_mem _ (List.mem_append_right _ (h))) 2 (by decide) (List.mem_cons_of_mem _ (List.mem_append_left _ (List.mem_of_getElem? (i := 1) rfl))) rfl (v := .ref (o + 3)) rfl dX7_putBack_15 ?_
        refine lv_iload_n hx hb dX7_putBack_18 rfl (lv_at hl 1 rfl) ?_
        refine k_iald hx hb hK hW0.2.2.2.1 (by omega) (by decide) (v := q_aside w k) rfl dX7_putBack_19 ?_
        refine md_ast_z hx hb hK hW0 (by omega) hS (fun _ h => h) dX7_putBack_20 (fun H locs hP zH fH hS => ?_)
        refine lv_iinc (v := nI (k + 1)) (lv' := [(1, .int (nI (k + 1))), (0, .ref o)]) hx hb dX7_putBack_21 hl (k := 1) rfl (inc_1 _) (by decide) rfl (fun ls hl => ?_)
        refine lv_goto (tgt := 2) hx hb dX7_putBack_24 (by decide) ?_
        exact ih (k + 1) (by omega) (by omega) _ _ (show md E o (asI z (q_aside w) (k + 1)) w _ from (by rw [asI_s]; exact hP)) hS _ (lv_sub hl [1, 0] rfl)
  refine lv_iconst (v := nI 0) hx hb dX7_putBack_0 (by decide) ?_
  refine lv_istore_n (lv' := [(1, .int (nI 0)), (0, .ref o)]) hx hb dX7_putBack_1 rfl hl (by decide) rfl (fun ls hl => ?_)
  exact J2 (322 + 1) 0 (by omega) (by omega) _ _ (show md E o (asI z (q_aside w) 0) w _ from (by rw [asI_0]; exact hP)) hS _ (lv_sub hl [1, 0] rfl)
def rm_X7_receiveNow : Room := { frames := 1, cells := 0, slots := 0, locals := 20 }
theorem hd_X7_receiveNow : k_hd1 yX7_receiveNow RX7 2 := by decide +kernel
set_option maxHeartbeats 4000000 in
set_option maxRecDepth 100000 in
theorem c_X7_receiveNow (l : Launch) (E : ke_E) (o : Nat) (z : Nat → Int32) (w : md_w) (q : Nat) (r : Nat) (hI : iv z) (hc : cn z < 20) : Met l yX7_receiveNow wsX7_receiveNow rm_X7_receiveNow (kp E [.ref o, .int (nI q), .int (nI r)] (md E o z w)) (qm none (bl o 6) (md E o (rcv z q r) w)) 0 0 (bl o 6) := by
  refine k_hd (cc := cX7_receiveNow) (maxL := 5) (ret := none) (by decide) rfl (Nat.le_of_ble_eq_true rfl) ?_
  intro p e s m below meth c ls S hr hlk hnm hK hP hl
  have hx := S.1
  have hb := S.2.1
  have hts := S.2.2.2.2
  have hP : md E o z w s.heap := hP
  have hl : lv_has ls 5 [(0, .ref o), (1, .int (nI q)), (2, .int (nI r))] := hl
  have hS : va_S (bl o 6) s.heap s.heap [] := va_S.rf
  have hcn := iv_c hI
  have J36 : ∀ (H : Heap) (locs : List Loc), md E o (clr z 13) w H → va_S (bl o 6) s.heap H locs → ∀ (ls : Array Slot), lv_has ls 5 [(0, .ref o), (1, .int (nI q)), (2, .int (nI r)), (3, .int (nI (13*cn z + 62)))] → W p l e (headSpec wsX7_receiveNow rm_X7_receiveNow).room s m ([.ref o, .int (nI q), .int (nI r)] : List Value).toArray below meth c H locs 0 0 (MQ below (qm none (bl o 6) (md E o (rcv z q r) w)) ([.ref o, .int (nI q), .int (nI r)] : List Value).toArray s 0 0 (bl o 6)) (F0 m 36 ls []) := by
    intro H locs hW0 hS ls hl
    refine lv_aload_n hx hb dX7_receiveNow_36 rfl (lv_at hl 0 rfl) ?_
    refine k_get S hK hW0.1 rfl (fun _ h => List.mem_cons_of_mem _ (List.mem_append_right _ (h))) 0 (by decide) (List.mem_cons_of_mem _ (List.mem_append_left _ (List.mem_of_getElem? (i := 0) rfl))) rfl (v := .ref (o + 1)) rfl dX7_receiveNow_37 ?_
    refine lv_iload_n hx hb dX7_receiveNow_40 rfl (lv_at hl 3 rfl) ?_
    refine lv_iload_n hx hb dX7_receiveNow_41 rfl (lv_at hl 1 rfl) ?_
    refine md_ast_z hx hb hK hW0 (by omega) hS (fun _ h => h) dX7_receiveNow_42 (fun H locs hP zH fH hS => ?_)
    refine lv_aload_n hx hb dX7_receiveNow_43 rfl (lv_at hl 0 rfl) ?_
    refine k_get S hK hP.1 rfl (fun _ h => List.mem_cons_of_mem _ (List.mem_append_right _ (h))) 0 (by decide) (List.mem_cons_of_mem _ (List.mem_append_left _ (List.mem_of_getElem? (i := 0) rfl))) rfl (v := .ref (o + 1)) rfl dX7_receiveNow_44 ?_
    refine lv_iload_n hx hb dX7_receiveNow_47 rfl (lv_at hl 3 rfl) ?_
    refine lv_iconst (v := nI 1) hx hb dX7_receiveNow_48 (by decide) ?_
    refine n_iadd (n := 13*cn z + 63) hx hb dX7_receiveNow_49 (by omega) ?_
    refine lv_iload_n hx hb dX7_receiveNow_50 rfl (lv_at hl 2 rfl) ?_
    refine md_ast_z hx hb hK hP (by omega) hS (fun _ h => h) dX7_receiveNow_51 (fun H locs hP zH fH hS => ?_)
    refine lv_iconst (v := nI 0) hx hb dX7_receiveNow_52 (by decide) ?_
    refine lv_istore (lv' := [(4, .int (nI 0)), (0, .ref o), (1, .int (nI q)), (2, .int (nI r)), (3, .int (nI (13*cn z + 62)))]) hx hb dX7_receiveNow_53 hl (by decide) rfl (fun ls hl => ?_)
    refine lv_iload hx hb dX7_receiveNow_55 (lv_at hl 0 rfl) ?_
    refine lv_iconst (v := nI 4) hx hb dX7_receiveNow_57 (by decide) ?_
    refine n_ige (tgt := 79) hx hb dX7_receiveNow_58 (by decide) (by omega) (by omega) (fun h => absurd h (by decide)) (fun c58 => ?_)
    refine lv_aload_n hx hb dX7_receiveNow_61 rfl (lv_at hl 1 rfl) ?_
    refine k_get S hK hP.1 rfl (fun _ h => List.mem_cons_of_mem _ (List.mem_append_right _ (h))) 0 (by decide) (List.mem_cons_of_mem _ (List.mem_append_left _ (List.mem_of_getElem? (i := 0) rfl))) rfl (v := .ref (o + 1)) rfl dX7_receiveNow_62 ?_
    refine lv_iload_n hx hb dX7_receiveNow_65 rfl (lv_at hl 4 rfl) ?_
    refine lv_iconst (v := nI 2) hx hb dX7_receiveNow_66 (by decide) ?_
    refine n_iadd (n := 13*cn z + 64) hx hb dX7_receiveNow_67 (by omega) ?_
    refine lv_iload hx hb dX7_receiveNow_68 (lv_at hl 0 rfl) ?_
    refine n_iadd (n := 13*cn z + 64) hx hb dX7_receiveNow_70 (by omega) ?_
    refine lv_iconst (v := (-1)) hx hb dX7_receiveNow_71 (by decide) ?_
    refine md_ast_z hx hb hK hP (by omega) hS (fun _ h => h) dX7_receiveNow_72 (fun H locs hP zH fH hS => ?_)
    refine lv_iinc (v := nI 1) (lv' := [(4, .int (nI 1)), (0, .ref o), (1, .int (nI q)), (2, .int (nI r)), (3, .int (nI (13*cn z + 62)))]) hx hb dX7_receiveNow_73 hl (k := 0) rfl (by decide) (by decide) rfl (fun ls hl => ?_)
    refine lv_goto (tgt := 55) hx hb dX7_receiveNow_76 (by decide) ?_
    refine lv_iload hx hb dX7_receiveNow_55 (lv_at hl 0 rfl) ?_
    refine lv_iconst (v := nI 4) hx hb dX7_receiveNow_57 (by decide) ?_
    refine n_ige (tgt := 79) hx hb dX7_receiveNow_58 (by decide) (by omega) (by omega) (fun h => absurd h (by decide)) (fun c58_1 => ?_)
    refine lv_aload_n hx hb dX7_receiveNow_61 rfl (lv_at hl 1 rfl) ?_
    refine k_get S hK hP.1 rfl (fun _ h => List.mem_cons_of_mem _ (List.mem_append_right _ (h))) 0 (by decide) (List.mem_cons_of_mem _ (List.mem_append_left _ (List.mem_of_getElem? (i := 0) rfl))) rfl (v := .ref (o + 1)) rfl dX7_receiveNow_62 ?_
    refine lv_iload_n hx hb dX7_receiveNow_65 rfl (lv_at hl 4 rfl) ?_
    refine lv_iconst (v := nI 2) hx hb dX7_receiveNow_66 (by decide) ?_
    refine n_iadd (n := 13*cn z + 64) hx hb dX7_receiveNow_67 (by omega) ?_
    refine lv_iload hx hb dX7_receiveNow_68 (lv_at hl 0 rfl) ?_
    refine n_iadd (n := 13*cn z + 65) hx hb dX7_receiveNow_70 (by omega) ?_
    refine lv_iconst (v := (-1)) hx hb dX7_receiveNow_71 (by decide) ?_
    refine md_ast_z hx hb hK hP (by omega) hS (fun _ h => h) dX7_receiveNow_72 (fun H locs hP zH fH hS => ?_)
    refine lv_iinc (v := nI 2) (lv' := [(4, .int (nI 2)), (0, .ref o), (1, .int (nI q)), (2, .int (nI r)), (3, .int (nI (13*cn z + 62)))]) hx hb dX7_receiveNow_73 hl (k := 0) rfl (by decide) (by decide) rfl (fun ls hl => ?_)
    refine lv_goto (tgt := 55) hx hb dX7_receiveNow_76 (by decide) ?_
    refine lv_iload hx hb dX7_receiveNow_55 (lv_at hl 0 rfl) ?_
    refine lv_iconst (v := nI 4) hx hb dX7_receiveNow_57 (by decide) ?_
    refine n_ige (tgt := 79) hx hb dX7_receiveNow_58 (by decide) (by omega) (by omega) (fun h => absurd h (by decide)) (fun c58_2 => ?_)
    refine lv_aload_n hx hb dX7_receiveNow_61 rfl (lv_at hl 1 rfl) ?_
    refine k_get S hK hP.1 rfl (fun _ h => List.mem_cons_of_mem _ (List.mem_append_right _ (h))) 0 (by decide) (List.mem_cons_of_mem _ (List.mem_append_left _ (List.mem_of_getElem? (i := 0) rfl))) rfl (v := .ref (o + 1)) rfl dX7_receiveNow_62 ?_
    refine lv_iload_n hx hb dX7_receiveNow_65 rfl (lv_at hl 4 rfl) ?_
    refine lv_iconst (v := nI 2) hx hb dX7_receiveNow_66 (by decide) ?_
    refine n_iadd (n := 13*cn z + 64) hx hb dX7_receiveNow_67 (by omega) ?_
    refine lv_iload hx hb dX7_receiveNow_68 (lv_at hl 0 rfl) ?_
    refine n_iadd (n := 13*cn z + 66) hx hb dX7_receiveNow_70 (by omega) ?_
    refine lv_iconst (v := (-1)) hx hb dX7_receiveNow_71 (by decide) ?_
    refine md_ast_z hx hb hK hP (by omega) hS (fun _ h => h) dX7_receiveNow_72 (fun H locs hP zH fH hS => ?_)
    refine lv_iinc (v := nI 3) (lv' := [(4, .int (nI 3)), (0, .ref o), (1, .int (nI q)), (2, .int (nI r)), (3, .int (nI (13*cn z + 62)))]) hx hb dX7_receiveNow_73 hl (k := 0) rfl (by decide) (by decide) rfl (fun ls hl => ?_)
    refine lv_goto (tgt := 55) hx hb dX7_receiveNow_76 (by decide) ?_
    refine lv_iload hx hb dX7_receiveNow_55 (lv_at hl 0 rfl) ?_
    refine lv_iconst (v := nI 4) hx hb dX7_receiveNow_57 (by decide) ?_
    refine n_ige (tgt := 79) hx hb dX7_receiveNow_58 (by decide) (by omega) (by omega) (fun h => absurd h (by decide)) (fun c58_3 => ?_)
    refine lv_aload_n hx hb dX7_receiveNow_61 rfl (lv_at hl 1 rfl) ?_
    refine k_get S hK hP.1 rfl (fun _ h => List.mem_cons_of_mem _ (List.mem_append_right _ (h))) 0 (by decide) (List.mem_cons_of_mem _ (List.mem_append_left _ (List.mem_of_getElem? (i := 0) rfl))) rfl (v := .ref (o + 1)) rfl dX7_receiveNow_62 ?_
    refine lv_iload_n hx hb dX7_receiveNow_65 rfl (lv_at hl 4 rfl) ?_
    refine lv_iconst (v := nI 2) hx hb dX7_receiveNow_66 (by decide) ?_
    refine n_iadd (n := 13*cn z + 64) hx hb dX7_receiveNow_67 (by omega) ?_
    refine lv_iload hx hb dX7_receiveNow_68 (lv_at hl 0 rfl) ?_
    refine n_iadd (n := 13*cn z + 67) hx hb dX7_receiveNow_70 (by omega) ?_
    refine lv_iconst (v := (-1)) hx hb dX7_receiveNow_71 (by decide) ?_
    refine md_ast_z hx hb hK hP (by omega) hS (fun _ h => h) dX7_receiveNow_72 (fun H locs hP zH fH hS => ?_)
    refine lv_iinc (v := nI 4) (lv' := [(4, .int (nI 4)), (0, .ref o), (1, .int (nI q)), (2, .int (nI r)), (3, .int (nI (13*cn z + 62)))]) hx hb dX7_receiveNow_73 hl (k := 0) rfl (by decide) (by decide) rfl (fun ls hl => ?_)
    refine lv_goto (tgt := 55) hx hb dX7_receiveNow_76 (by decide) ?_
    refine lv_iload hx hb dX7_receiveNow_55 (lv_at hl 0 rfl) ?_
    refine lv_iconst (v := nI 4) hx hb dX7_receiveNow_57 (by decide) ?_
    refine n_ige (tgt := 79) hx hb dX7_receiveNow_58 (by decide) (by omega) (by omega) (fun c58_4 => ?_) (fun h => absurd h (by decide))
    refine lv_aload_n hx hb dX7_receiveNow_79 rfl (lv_at hl 1 rfl) ?_
    refine k_get S hK hP.1 rfl (fun _ h => List.mem_cons_of_mem _ (List.mem_append_right _ (h))) 0 (by decide) (List.mem_cons_of_mem _ (List.mem_append_left _ (List.mem_of_getElem? (i := 0) rfl))) rfl (v := .ref (o + 1)) rfl dX7_receiveNow_80 ?_
    refine lv_iload_n hx hb dX7_receiveNow_83 rfl (lv_at hl 4 rfl) ?_
    refine lv_bipush (v := nI 8) hx hb dX7_receiveNow_84 (by decide) ?_
    refine n_iadd (n := 13*cn z + 70) hx hb dX7_receiveNow_86 (by omega) ?_
    refine lv_iconst (v := (-1)) hx hb dX7_receiveNow_87 (by decide) ?_
    refine md_ast_z hx hb hK hP (by omega) hS (fun _ h => h) dX7_receiveNow_88 (fun H locs hP zH fH hS => ?_)
    refine lv_aload_n hx hb dX7_receiveNow_89 rfl (lv_at hl 1 rfl) ?_
    refine k_get S hK hP.1 rfl (fun _ h => List.mem_cons_of_mem _ (List.mem_append_right _ (h))) 0 (by decide) (List.mem_cons_of_mem _ (List.mem_append_left _ (List.mem_of_getElem? (i := 0) rfl))) rfl (v := .ref (o + 1)) rfl dX7_receiveNow_90 ?_
    refine lv_iconst (v := nI 0) hx hb dX7_receiveNow_93 (by decide) ?_
    refine lv_dup2_11 hx hb dX7_receiveNow_94 rfl rfl ?_
    refine k_iald hx hb hK hP.2.1 (by omega) (by decide) (v := nI (cn z)) ((upd_n (by omega)).trans ((upd_n (by omega)).trans ((upd_n (by omega)).trans ((upd_n (by omega)).trans ((upd_n (by omega)).trans ((upd_n (by omega)).trans ((upd_n (by omega)).trans (((clr_n (by omega)).trans (iv_n hI)))))))))) dX7_receiveNow_95 ?_
    refine lv_iconst (v := nI 1) hx hb dX7_receiveNow_96 (by decide) ?_
    refine n_iadd (n := cn z + 1) hx hb dX7_receiveNow_97 (by omega) ?_
    refine md_ast_z hx hb hK hP (by omega) hS (fun _ h => h) dX7_receiveNow_98 (fun H locs hP zH fH hS => ?_)
    exact k_vretM hx hb hr hlk dX7_receiveNow_99 hS (show md E o (rcv z q r) w _ from hP)
  have J13 : ∀ (n_ : Nat), ∀ (k : Nat), k ≤ 13 → 13 < k + n_ → ∀ (H : Heap) (locs : List Loc), md E o (clr z k) w H → va_S (bl o 6) s.heap H locs → ∀ (ls : Array Slot), lv_has ls 5 [(0, .ref o), (1, .int (nI q)), (2, .int (nI r)), (3, .int (nI (13*cn z + 62))), (4, .int (nI k))] → W p l e (headSpec wsX7_receiveNow rm_X7_receiveNow).room s m ([.ref o, .int (nI q), .int (nI r)] : List Value).toArray below meth c H locs 0 0 (MQ below (qm none (bl o 6) (md E o (rcv z q r) w)) ([.ref o, .int (nI q), .int (nI r)] : List Value).toArray s 0 0 (bl o 6)) (F0 m 13 ls []) := by
    intro n_
    induction n_ with
    | zero =>
      intro k hk hn_ _ _ _ _ _ _
      exact absurd hn_ (by omega)
    | succ n_ ih =>
      intro k hk hn_ H locs hW0 hS ls hl
      refine lv_iload hx hb dX7_receiveNow_13 (lv_at hl 4 rfl) ?_
      refine lv_bipush (v := nI 13) hx hb dX7_receiveNow_15 (by decide) ?_
      refine n_ige (tgt := 36) hx hb dX7_receiveNow_17 (by decide) (by omega) (by omega) (fun c17 => ?_) (fun c17 => ?_)
      · exact J36 _ _ (show md E o (clr z 13) w _ from (by have e9 : k = 13 := (by omega); rw [e9] at hW0; exact hW0)) hS _ (lv_sub hl [0, 1, 2, 3] rfl)
      · refine lv_aload_n hx hb dX7_receiveNow_20 rfl (lv_at hl 0 rfl) ?_
        refine k_get S hK hW0.1 rfl (fun _ h => List.mem_cons_of_mem _ (List.mem_append_right _ (h))) 0 (by decide) (List.mem_cons_of_mem _ (List.mem_append_left _ (List.mem_of_getElem? (i := 0) rfl))) rfl (v := .ref (o + 1)) rfl dX7_receiveNow_21 ?_
        refine lv_iload_n hx hb dX7_receiveNow_24 rfl (lv_at hl 3 rfl) ?_
        refine lv_iload hx hb dX7_receiveNow_25 (lv_at hl 4 rfl) ?_
        refine n_iadd (n := 13*cn z + k + 62) hx hb dX7_receiveNow_27 (by omega) ?_
        refine lv_iconst (v := nI 0) hx hb dX7_receiveNow_28 (by decide) ?_
        refine md_ast_z hx hb hK hW0 (by omega) hS (fun _ h => h) dX7_receiveNow_29 (fun H locs hP zH fH hS => ?_)
        refine lv_iinc (v := nI (k + 1)) (lv' := [(4, .int (nI (k + 1))), (0, .ref o), (1, .int (nI q)), (2, .int (nI r)), (3, .int (nI (13*cn z + 62)))]) hx hb dX7_receiveNow_30 hl (k := 4) rfl (inc_1 _) (by decide) rfl (fun ls hl => ?_)
        refine lv_goto (tgt := 13) hx hb dX7_receiveNow_33 (by decide) ?_
        exact ih (k + 1) (by omega) (by omega) _ _ (show md E o (clr z (k + 1)) w _ from (by rw [clr_s]; exact hP)) hS _ (lv_sub hl [1, 2, 3, 4, 0] rfl)
  refine lv_aload_n hx hb dX7_receiveNow_0 rfl (lv_at hl 0 rfl) ?_
  refine k_get S hK hP.1 rfl (fun _ h => List.mem_cons_of_mem _ (List.mem_append_right _ (h))) 0 (by decide) (List.mem_cons_of_mem _ (List.mem_append_left _ (List.mem_of_getElem? (i := 0) rfl))) rfl (v := .ref (o + 1)) rfl dX7_receiveNow_1 ?_
  refine lv_iconst (v := nI 0) hx hb dX7_receiveNow_4 (by decide) ?_
  refine k_iald hx hb hK hP.2.1 (by omega) (by decide) (v := nI (cn z)) (iv_n hI) dX7_receiveNow_5 ?_
  refine k_S (As := [.int (nI (cn z))]) (rest := []) S hK (c_X7_at l E (cn z)) gX7_receiveNow_X7_at rfl hd_X7_at ⟨rfl, rfl⟩ ⟨Nat.le_of_ble_eq_true rfl, Nat.le_of_ble_eq_true rfl⟩ trivial rfl hl.1 rfl (Nat.le_of_ble_eq_true rfl) dX7_receiveNow_6 ⟨Nat.le_of_ble_eq_true rfl, Nat.le_of_ble_eq_true rfl⟩ ?_
  refine lv_istore_n (lv' := [(3, .int (nI (13*cn z + 62))), (0, .ref o), (1, .int (nI q)), (2, .int (nI r))]) hx hb dX7_receiveNow_9 rfl hl (by decide) rfl (fun ls hl => ?_)
  refine lv_iconst (v := nI 0) hx hb dX7_receiveNow_10 (by decide) ?_
  refine lv_istore (lv' := [(4, .int (nI 0)), (3, .int (nI (13*cn z + 62))), (0, .ref o), (1, .int (nI q)), (2, .int (nI r))]) hx hb dX7_receiveNow_11 hl (by decide) rfl (fun ls hl => ?_)
  exact J13 (13 + 1) 0 (by omega) (by omega) _ _ (show md E o (clr z 0) w _ from (by rw [clr_0]; exact hP)) hS _ (lv_sub hl [2, 3, 4, 1, 0] rfl)
def rm_X7_pays : Room := { frames := 1, cells := 0, slots := 0, locals := 20 }
theorem hd_X7_pays : k_hd1 yX7_pays RX7 1 := by decide +kernel
set_option maxHeartbeats 4000000 in
set_option maxRecDepth 100000 in
theorem c_X7_pays (l : Launch) (E : ke_E) (o : Nat) (z : Nat → Int32) (w : md_w) (u : Nat) (hI : iv z) (hu : u < cn z) : Met l yX7_pays wsX7_pays rm_X7_pays (kp E [.ref o, .int (nI u)] (md E o z w)) (qm (some (.int (bI (payP z u)))) (bl o 6) (md E o (payZ z u) w)) 0 0 (bl o 6) := by
  refine k_hd (cc := cX7_pays) (maxL := 5) (ret := (some .boolean)) (by decide) rfl (Nat.le_of_ble_eq_true rfl) ?_
  intro p e s m below meth c ls S hr hlk hnm hK hP hl
  have hx := S.1
  have hb := S.2.1
  have hts := S.2.2.2.2
  have hP : md E o z w s.heap := hP
  have hl : lv_has ls 5 [(0, .ref o), (1, .int (nI u))] := hl
  have hS : va_S (bl o 6) s.heap s.heap [] := va_S.rf
  have hcn := iv_c hI
  refine lv_aload_n hx hb dX7_pays_0 rfl (lv_at hl 0 rfl) ?_
  refine k_get S hK hP.1 rfl (fun _ h => List.mem_cons_of_mem _ (List.mem_append_right _ (h))) 0 (by decide) (List.mem_cons_of_mem _ (List.mem_append_left _ (List.mem_of_getElem? (i := 0) rfl))) rfl (v := .ref (o + 1)) rfl dX7_pays_1 ?_
  refine lv_iload_n hx hb dX7_pays_4 rfl (lv_at hl 1 rfl) ?_
  refine k_S (As := [.int (nI u)]) (rest := [.ref (o + 1)]) S hK (c_X7_at l E u) gX7_pays_X7_at rfl hd_X7_at ⟨rfl, rfl⟩ ⟨Nat.le_of_ble_eq_true rfl, Nat.le_of_ble_eq_true rfl⟩ trivial rfl hl.1 rfl (Nat.le_of_ble_eq_true rfl) dX7_pays_5 ⟨Nat.le_of_ble_eq_true rfl, Nat.le_of_ble_eq_true rfl⟩ ?_
  refine lv_bipush (v := nI 9) hx hb dX7_pays_8 (by decide) ?_
  refine n_iadd (n := 13*u + 71) hx hb dX7_pays_10 (by omega) ?_
  have hq1 := iv_ubl hI hu
  refine k_iald hx hb hK hP.2.1 (by omega) (by decide) (v := nI (ub z u)) (iv_ub hI hu) dX7_pays_11 ?_
  refine k_S (As := [.int (nI (ub z u))]) (rest := []) S hK (c_X7_seller l E (ub z u)) gX7_pays_X7_seller rfl hd_X7_seller ⟨rfl, rfl⟩ ⟨Nat.le_of_ble_eq_true rfl, Nat.le_of_ble_eq_true rfl⟩ trivial rfl hl.1 rfl (Nat.le_of_ble_eq_true rfl) dX7_pays_12 ⟨Nat.le_of_ble_eq_true rfl, Nat.le_of_ble_eq_true rfl⟩ ?_
  refine lv_istore_n (lv' := [(2, .int (nI (8*ub z u + 30))), (0, .ref o), (1, .int (nI u))]) hx hb dX7_pays_15 rfl hl (by decide) rfl (fun ls hl => ?_)
  refine lv_aload_n hx hb dX7_pays_16 rfl (lv_at hl 1 rfl) ?_
  refine k_get S hK hP.1 rfl (fun _ h => List.mem_cons_of_mem _ (List.mem_append_right _ (h))) 0 (by decide) (List.mem_cons_of_mem _ (List.mem_append_left _ (List.mem_of_getElem? (i := 0) rfl))) rfl (v := .ref (o + 1)) rfl dX7_pays_17 ?_
  refine lv_iload_n hx hb dX7_pays_20 rfl (lv_at hl 2 rfl) ?_
  refine k_S (As := [.int (nI u)]) (rest := [.ref (o + 1)]) S hK (c_X7_at l E u) gX7_pays_X7_at rfl hd_X7_at ⟨rfl, rfl⟩ ⟨Nat.le_of_ble_eq_true rfl, Nat.le_of_ble_eq_true rfl⟩ trivial rfl hl.1 rfl (Nat.le_of_ble_eq_true rfl) dX7_pays_21 ⟨Nat.le_of_ble_eq_true rfl, Nat.le_of_ble_eq_true rfl⟩ ?_
  refine lv_bipush (v := nI 8) hx hb dX7_pays_24 (by decide) ?_
  refine n_iadd (n := 13*u + 70) hx hb dX7_pays_26 (by omega) ?_
  refine k_iald hx hb hK hP.2.1 (by omega) (by decide) (v := z (13*u + 70)) rfl dX7_pays_27 ?_
  refine lv_istore_n (lv' := [(3, .int (z (13*u + 70))), (2, .int (nI (8*ub z u + 30))), (0, .ref o), (1, .int (nI u))]) hx hb dX7_pays_28 rfl hl (by decide) rfl (fun ls hl => ?_)
  refine lv_iload_n hx hb dX7_pays_29 rfl (lv_at hl 0 rfl) ?_
  refine lv_aload_n hx hb dX7_pays_30 rfl (lv_at hl 2 rfl) ?_
  refine k_get S hK hP.1 rfl (fun _ h => List.mem_cons_of_mem _ (List.mem_append_right _ (h))) 0 (by decide) (List.mem_cons_of_mem _ (List.mem_append_left _ (List.mem_of_getElem? (i := 0) rfl))) rfl (v := .ref (o + 1)) rfl dX7_pays_31 ?_
  refine lv_iload_n hx hb dX7_pays_34 rfl (lv_at hl 1 rfl) ?_
  refine lv_iconst (v := nI 1) hx hb dX7_pays_35 (by decide) ?_
  refine n_iadd (n := 8*ub z u + 31) hx hb dX7_pays_36 (by omega) ?_
  refine k_iald hx hb hK hP.2.1 (by omega) (by decide) (v := z (8*ub z u + 31)) rfl dX7_pays_37 ?_
  refine lv_iadd hx hb dX7_pays_38 ?_
  refine lv_aload_n hx hb dX7_pays_39 rfl (lv_at hl 2 rfl) ?_
  refine k_get S hK hP.1 rfl (fun _ h => List.mem_cons_of_mem _ (List.mem_append_right _ (h))) 0 (by decide) (List.mem_cons_of_mem _ (List.mem_append_left _ (List.mem_of_getElem? (i := 0) rfl))) rfl (v := .ref (o + 1)) rfl dX7_pays_40 ?_
  refine lv_iload_n hx hb dX7_pays_43 rfl (lv_at hl 1 rfl) ?_
  refine k_iald hx hb hK hP.2.1 (by omega) (by decide) (v := z (8*ub z u + 30)) rfl dX7_pays_44 ?_
  refine lv_icmp_gt (tgt := 52) hx hb dX7_pays_45 (by decide) (fun c45 => ?_) (fun c45 => ?_)
  · refine lv_iconst (v := nI 0) hx hb dX7_pays_52 (by decide) ?_
    refine lv_istore (lv' := [(4, .int (nI 0)), (3, .int (z (13*u + 70))), (2, .int (nI (8*ub z u + 30))), (0, .ref o), (1, .int (nI u))]) hx hb dX7_pays_53 hl (by decide) rfl (fun ls hl => ?_)
    refine lv_iload hx hb dX7_pays_55 (lv_at hl 0 rfl) ?_
    refine lv_if_eq (tgt := 107) hx hb dX7_pays_57 (by decide) (fun c57 => ?_) (fun h => absurd h (by decide))
    refine lv_iload hx hb dX7_pays_107 (lv_at hl 0 rfl) ?_
    exact k_bretM hx hb hr hlk dX7_pays_109 rfl hS (show md E o (payZ z u) w _ from (by rw [show payZ z u = _ from iF_f (fun h => h c45)]; exact hP)) (bI_f (fun h => h c45))
  · refine lv_iconst (v := nI 1) hx hb dX7_pays_48 (by decide) ?_
    refine lv_goto (tgt := 53) hx hb dX7_pays_49 (by decide) ?_
    refine lv_istore (lv' := [(4, .int (nI 1)), (3, .int (z (13*u + 70))), (2, .int (nI (8*ub z u + 30))), (0, .ref o), (1, .int (nI u))]) hx hb dX7_pays_53 hl (by decide) rfl (fun ls hl => ?_)
    refine lv_iload hx hb dX7_pays_55 (lv_at hl 0 rfl) ?_
    refine lv_if_eq (tgt := 107) hx hb dX7_pays_57 (by decide) (fun h => absurd h (by decide)) (fun c57 => ?_)
    refine lv_aload_n hx hb dX7_pays_60 rfl (lv_at hl 3 rfl) ?_
    refine k_get S hK hP.1 rfl (fun _ h => List.mem_cons_of_mem _ (List.mem_append_right _ (h))) 0 (by decide) (List.mem_cons_of_mem _ (List.mem_append_left _ (List.mem_of_getElem? (i := 0) rfl))) rfl (v := .ref (o + 1)) rfl dX7_pays_61 ?_
    refine lv_iload_n hx hb dX7_pays_64 rfl (lv_at hl 2 rfl) ?_
    refine lv_iconst (v := nI 1) hx hb dX7_pays_65 (by decide) ?_
    refine n_iadd (n := 8*ub z u + 31) hx hb dX7_pays_66 (by omega) ?_
    refine lv_dup2_11 hx hb dX7_pays_67 rfl rfl ?_
    refine k_iald hx hb hK hP.2.1 (by omega) (by decide) (v := z (8*ub z u + 31)) rfl dX7_pays_68 ?_
    refine lv_iload_n hx hb dX7_pays_69 rfl (lv_at hl 1 rfl) ?_
    refine lv_iadd hx hb dX7_pays_70 ?_
    refine md_ast_z hx hb hK hP (by omega) hS (fun _ h => h) dX7_pays_71 (fun H locs hP zH fH hS => ?_)
    refine lv_aload_n hx hb dX7_pays_72 rfl (lv_at hl 3 rfl) ?_
    refine k_get S hK hP.1 rfl (fun _ h => List.mem_cons_of_mem _ (List.mem_append_right _ (h))) 0 (by decide) (List.mem_cons_of_mem _ (List.mem_append_left _ (List.mem_of_getElem? (i := 0) rfl))) rfl (v := .ref (o + 1)) rfl dX7_pays_73 ?_
    refine lv_iload_n hx hb dX7_pays_76 rfl (lv_at hl 2 rfl) ?_
    refine lv_iconst (v := nI 2) hx hb dX7_pays_77 (by decide) ?_
    refine n_iadd (n := 8*ub z u + 32) hx hb dX7_pays_78 (by omega) ?_
    refine lv_dup2_11 hx hb dX7_pays_79 rfl rfl ?_
    refine k_iald hx hb hK hP.2.1 (by omega) (by decide) (v := z (8*ub z u + 32)) ((upd_n (by omega)).trans (rfl)) dX7_pays_80 ?_
    refine lv_iload_n hx hb dX7_pays_81 rfl (lv_at hl 1 rfl) ?_
    refine lv_iadd hx hb dX7_pays_82 ?_
    refine md_ast_z hx hb hK hP (by omega) hS (fun _ h => h) dX7_pays_83 (fun H locs hP zH fH hS => ?_)
    refine lv_aload_n hx hb dX7_pays_84 rfl (lv_at hl 3 rfl) ?_
    refine k_get S hK hP.1 rfl (fun _ h => List.mem_cons_of_mem _ (List.mem_append_right _ (h))) 0 (by decide) (List.mem_cons_of_mem _ (List.mem_append_left _ (List.mem_of_getElem? (i := 0) rfl))) rfl (v := .ref (o + 1)) rfl dX7_pays_85 ?_
    refine lv_iconst (v := nI 3) hx hb dX7_pays_88 (by decide) ?_
    refine lv_dup2_11 hx hb dX7_pays_89 rfl rfl ?_
    refine k_iald hx hb hK hP.2.1 (by omega) (by decide) (v := z 3) ((upd_n (by omega)).trans ((upd_n (by omega)).trans (rfl))) dX7_pays_90 ?_
    refine lv_iload_n hx hb dX7_pays_91 rfl (lv_at hl 1 rfl) ?_
    refine lv_iadd hx hb dX7_pays_92 ?_
    refine md_ast_z hx hb hK hP (by omega) hS (fun _ h => h) dX7_pays_93 (fun H locs hP zH fH hS => ?_)
    refine lv_aload_n hx hb dX7_pays_94 rfl (lv_at hl 3 rfl) ?_
    refine k_get S hK hP.1 rfl (fun _ h => List.mem_cons_of_mem _ (List.mem_append_right _ (h))) 0 (by decide) (List.mem_cons_of_mem _ (List.mem_append_left _ (List.mem_of_getElem? (i := 0) rfl))) rfl (v := .ref (o + 1)) rfl dX7_pays_95 ?_
    refine lv_iload_n hx hb dX7_pays_98 rfl (lv_at hl 4 rfl) ?_
    refine k_S (As := [.int (nI u)]) (rest := [.ref (o + 1)]) S hK (c_X7_at l E u) gX7_pays_X7_at rfl hd_X7_at ⟨rfl, rfl⟩ ⟨Nat.le_of_ble_eq_true rfl, Nat.le_of_ble_eq_true rfl⟩ trivial rfl hl.1 rfl (Nat.le_of_ble_eq_true rfl) dX7_pays_99 ⟨Nat.le_of_ble_eq_true rfl, Nat.le_of_ble_eq_true rfl⟩ ?_
    refine lv_bipush (v := nI 10) hx hb dX7_pays_102 (by decide) ?_
    refine n_iadd (n := 13*u + 72) hx hb dX7_pays_104 (by omega) ?_
    refine lv_iconst (v := nI 1) hx hb dX7_pays_105 (by decide) ?_
    refine md_ast_z hx hb hK hP (by omega) hS (fun _ h => h) dX7_pays_106 (fun H locs hP zH fH hS => ?_)
    refine lv_iload hx hb dX7_pays_107 (lv_at hl 0 rfl) ?_
    exact k_bretM hx hb hr hlk dX7_pays_109 rfl hS (show md E o (payZ z u) w _ from (by rw [show payZ z u = _ from iF_t c45]; exact hP)) (bI_t c45)
def rm_X7_repair : Room := { frames := 3, cells := 0, slots := 0, locals := 67 }
theorem hd_X7_repair : k_hd1 yX7_repair RX7 1 := by decide +kernel
set_option maxHeartbeats 4000000 in
set_option maxRecDepth 100000 in
theorem c_X7_repair (l : Launch) (E : ke_E) (o : Nat) (z : Nat → Int32) (w : md_w) (u : Nat) (hI : iv z) (hu : u < cn z) : Met l yX7_repair wsX7_repair rm_X7_repair (kp E [.ref o, .int (nI u)] (md E o z w)) (qm (some (.int (rpc z u))) (bl o 6) (md E o (rez z u) w)) 0 0 (bl o 6) := by
  refine k_hd (cc := cX7_repair) (maxL := 4) (ret := (some .int)) (by decide) rfl (Nat.le_of_ble_eq_true rfl) ?_
  intro p e s m below meth c ls S hr hlk hnm hK hP hl
  have hx := S.1
  have hb := S.2.1
  have hts := S.2.2.2.2
  have hP : md E o z w s.heap := hP
  have hl : lv_has ls 4 [(0, .ref o), (1, .int (nI u))] := hl
  have hS : va_S (bl o 6) s.heap s.heap [] := va_S.rf
  have hcn := iv_c hI
  refine lv_aload_n hx hb dX7_repair_0 rfl (lv_at hl 0 rfl) ?_
  refine lv_iload_n hx hb dX7_repair_1 rfl (lv_at hl 1 rfl) ?_
  refine k_V (As := [.int (nI u)]) (rest := []) S hK (c_X7_points l E o z w u hI hu) gX7_repair_X7_points rfl hd_X7_points ⟨rfl, rfl⟩ ⟨Nat.le_of_ble_eq_true rfl, Nat.le_of_ble_eq_true rfl⟩ (k_recv hK hP.1 rfl) hP rfl hl.1 rfl (Nat.le_of_ble_eq_true rfl) dX7_repair_2 ⟨Nat.le_of_ble_eq_true rfl, Nat.le_of_ble_eq_true rfl⟩ ?_
  refine lv_aload_n hx hb dX7_repair_5 rfl (lv_at hl 0 rfl) ?_
  refine k_get S hK hP.1 rfl (fun _ h => List.mem_cons_of_mem _ (List.mem_append_right _ (h))) 0 (by decide) (List.mem_cons_of_mem _ (List.mem_append_left _ (List.mem_of_getElem? (i := 0) rfl))) rfl (v := .ref (o + 1)) rfl dX7_repair_6 ?_
  refine lv_bipush (v := nI 11) hx hb dX7_repair_9 (by decide) ?_
  refine k_iald hx hb hK hP.2.1 (by omega) (by decide) (v := z 11) rfl dX7_repair_11 ?_
  refine lv_imul hx hb dX7_repair_12 ?_
  refine lv_istore_n (lv' := [(2, .int ((pts z u) * (z 11))), (0, .ref o), (1, .int (nI u))]) hx hb dX7_repair_13 rfl hl (by decide) rfl (fun ls hl => ?_)
  refine lv_iconst (v := nI 0) hx hb dX7_repair_14 (by decide) ?_
  refine lv_istore_n (lv' := [(3, .int (nI 0)), (2, .int ((pts z u) * (z 11))), (0, .ref o), (1, .int (nI u))]) hx hb dX7_repair_15 rfl hl (by decide) rfl (fun ls hl => ?_)
  refine lv_iload_n hx hb dX7_repair_16 rfl (lv_at hl 0 rfl) ?_
  refine lv_iconst (v := nI 4) hx hb dX7_repair_17 (by decide) ?_
  refine n_ige (tgt := 47) hx hb dX7_repair_18 (by decide) (by omega) (by omega) (fun h => absurd h (by decide)) (fun c18 => ?_)
  refine lv_aload_n hx hb dX7_repair_21 rfl (lv_at hl 2 rfl) ?_
  refine k_get S hK hP.1 rfl (fun _ h => List.mem_cons_of_mem _ (List.mem_append_right _ (h))) 0 (by decide) (List.mem_cons_of_mem _ (List.mem_append_left _ (List.mem_of_getElem? (i := 0) rfl))) rfl (v := .ref (o + 1)) rfl dX7_repair_22 ?_
  refine lv_iload_n hx hb dX7_repair_25 rfl (lv_at hl 3 rfl) ?_
  refine k_S (As := [.int (nI u)]) (rest := [.ref (o + 1)]) S hK (c_X7_at l E u) gX7_repair_X7_at rfl hd_X7_at ⟨rfl, rfl⟩ ⟨Nat.le_of_ble_eq_true rfl, Nat.le_of_ble_eq_true rfl⟩ trivial rfl hl.1 rfl (Nat.le_of_ble_eq_true rfl) dX7_repair_26 ⟨Nat.le_of_ble_eq_true rfl, Nat.le_of_ble_eq_true rfl⟩ ?_
  refine lv_iconst (v := nI 2) hx hb dX7_repair_29 (by decide) ?_
  refine n_iadd (n := 13*u + 64) hx hb dX7_repair_30 (by omega) ?_
  refine lv_iload_n hx hb dX7_repair_31 rfl (lv_at hl 0 rfl) ?_
  refine n_iadd (n := 13*u + 64) hx hb dX7_repair_32 (by omega) ?_
  refine lv_aload_n hx hb dX7_repair_33 rfl (lv_at hl 2 rfl) ?_
  refine lv_iload_n hx hb dX7_repair_34 rfl (lv_at hl 3 rfl) ?_
  refine lv_iload_n hx hb dX7_repair_35 rfl (lv_at hl 0 rfl) ?_
  refine lv_iconst (v := nI 1) hx hb dX7_repair_36 (by decide) ?_
  refine k_V (As := [.int (nI u), .int (nI 0), .int (nI 1)]) (rest := [.int (nI (13*u + 64)), .ref (o + 1)]) S hK (c_X7_score l E o z w u 0 (nI 1) hI hu c18) gX7_repair_X7_score rfl hd_X7_score ⟨rfl, rfl⟩ ⟨Nat.le_of_ble_eq_true rfl, Nat.le_of_ble_eq_true rfl⟩ (k_recv hK hP.1 rfl) hP rfl hl.1 rfl (Nat.le_of_ble_eq_true rfl) dX7_repair_37 ⟨Nat.le_of_ble_eq_true rfl, Nat.le_of_ble_eq_true rfl⟩ ?_
  refine md_ast_z hx hb hK hP (by omega) hS (fun _ h => h) dX7_repair_40 (fun H locs hP zH fH hS => ?_)
  refine lv_iinc (v := nI 1) (lv' := [(3, .int (nI 1)), (2, .int ((pts z u) * (z 11))), (0, .ref o), (1, .int (nI u))]) hx hb dX7_repair_41 hl (k := 0) rfl (by decide) (by decide) rfl (fun ls hl => ?_)
  refine lv_goto (tgt := 16) hx hb dX7_repair_44 (by decide) ?_
  refine lv_iload_n hx hb dX7_repair_16 rfl (lv_at hl 0 rfl) ?_
  refine lv_iconst (v := nI 4) hx hb dX7_repair_17 (by decide) ?_
  refine n_ige (tgt := 47) hx hb dX7_repair_18 (by decide) (by omega) (by omega) (fun h => absurd h (by decide)) (fun c18_1 => ?_)
  refine lv_aload_n hx hb dX7_repair_21 rfl (lv_at hl 2 rfl) ?_
  refine k_get S hK hP.1 rfl (fun _ h => List.mem_cons_of_mem _ (List.mem_append_right _ (h))) 0 (by decide) (List.mem_cons_of_mem _ (List.mem_append_left _ (List.mem_of_getElem? (i := 0) rfl))) rfl (v := .ref (o + 1)) rfl dX7_repair_22 ?_
  refine lv_iload_n hx hb dX7_repair_25 rfl (lv_at hl 3 rfl) ?_
  refine k_S (As := [.int (nI u)]) (rest := [.ref (o + 1)]) S hK (c_X7_at l E u) gX7_repair_X7_at rfl hd_X7_at ⟨rfl, rfl⟩ ⟨Nat.le_of_ble_eq_true rfl, Nat.le_of_ble_eq_true rfl⟩ trivial rfl hl.1 rfl (Nat.le_of_ble_eq_true rfl) dX7_repair_26 ⟨Nat.le_of_ble_eq_true rfl, Nat.le_of_ble_eq_true rfl⟩ ?_
  refine lv_iconst (v := nI 2) hx hb dX7_repair_29 (by decide) ?_
  refine n_iadd (n := 13*u + 64) hx hb dX7_repair_30 (by omega) ?_
  refine lv_iload_n hx hb dX7_repair_31 rfl (lv_at hl 0 rfl) ?_
  refine n_iadd (n := 13*u + 65) hx hb dX7_repair_32 (by omega) ?_
  refine lv_aload_n hx hb dX7_repair_33 rfl (lv_at hl 2 rfl) ?_
  refine lv_iload_n hx hb dX7_repair_34 rfl (lv_at hl 3 rfl) ?_
  refine lv_iload_n hx hb dX7_repair_35 rfl (lv_at hl 0 rfl) ?_
  refine lv_iconst (v := nI 1) hx hb dX7_repair_36 (by decide) ?_
  refine k_V (As := [.int (nI u), .int (nI 1), .int (nI 1)]) (rest := [.int (nI (13*u + 65)), .ref (o + 1)]) S hK (c_X7_score l E o (upd z (13*u + 64) (scr z u 0 (nI 1))) w u 1 (nI 1) (iv_s0 hI hu) (by rw [cn_u (by omega)]; exact hu) c18_1) gX7_repair_X7_score rfl hd_X7_score ⟨rfl, rfl⟩ ⟨Nat.le_of_ble_eq_true rfl, Nat.le_of_ble_eq_true rfl⟩ (k_recv hK hP.1 rfl) hP rfl hl.1 rfl (Nat.le_of_ble_eq_true rfl) dX7_repair_37 ⟨Nat.le_of_ble_eq_true rfl, Nat.le_of_ble_eq_true rfl⟩ ?_
  refine k_top (y := scr z u 1 (nI 1)) (by rw [sc_o (by omega)]) ?_
  refine md_ast_z hx hb hK hP (by omega) hS (fun _ h => h) dX7_repair_40 (fun H locs hP zH fH hS => ?_)
  refine lv_iinc (v := nI 2) (lv' := [(3, .int (nI 2)), (2, .int ((pts z u) * (z 11))), (0, .ref o), (1, .int (nI u))]) hx hb dX7_repair_41 hl (k := 0) rfl (by decide) (by decide) rfl (fun ls hl => ?_)
  refine lv_goto (tgt := 16) hx hb dX7_repair_44 (by decide) ?_
  refine lv_iload_n hx hb dX7_repair_16 rfl (lv_at hl 0 rfl) ?_
  refine lv_iconst (v := nI 4) hx hb dX7_repair_17 (by decide) ?_
  refine n_ige (tgt := 47) hx hb dX7_repair_18 (by decide) (by omega) (by omega) (fun h => absurd h (by decide)) (fun c18_2 => ?_)
  refine lv_aload_n hx hb dX7_repair_21 rfl (lv_at hl 2 rfl) ?_
  refine k_get S hK hP.1 rfl (fun _ h => List.mem_cons_of_mem _ (List.mem_append_right _ (h))) 0 (by decide) (List.mem_cons_of_mem _ (List.mem_append_left _ (List.mem_of_getElem? (i := 0) rfl))) rfl (v := .ref (o + 1)) rfl dX7_repair_22 ?_
  refine lv_iload_n hx hb dX7_repair_25 rfl (lv_at hl 3 rfl) ?_
  refine k_S (As := [.int (nI u)]) (rest := [.ref (o + 1)]) S hK (c_X7_at l E u) gX7_repair_X7_at rfl hd_X7_at ⟨rfl, rfl⟩ ⟨Nat.le_of_ble_eq_true rfl, Nat.le_of_ble_eq_true rfl⟩ trivial rfl hl.1 rfl (Nat.le_of_ble_eq_true rfl) dX7_repair_26 ⟨Nat.le_of_ble_eq_true rfl, Nat.le_of_ble_eq_true rfl⟩ ?_
  refine lv_iconst (v := nI 2) hx hb dX7_repair_29 (by decide) ?_
  refine n_iadd (n := 13*u + 64) hx hb dX7_repair_30 (by omega) ?_
  refine lv_iload_n hx hb dX7_repair_31 rfl (lv_at hl 0 rfl) ?_
  refine n_iadd (n := 13*u + 66) hx hb dX7_repair_32 (by omega) ?_
  refine lv_aload_n hx hb dX7_repair_33 rfl (lv_at hl 2 rfl) ?_
  refine lv_iload_n hx hb dX7_repair_34 rfl (lv_at hl 3 rfl) ?_
  refine lv_iload_n hx hb dX7_repair_35 rfl (lv_at hl 0 rfl) ?_
  refine lv_iconst (v := nI 1) hx hb dX7_repair_36 (by decide) ?_
  refine k_V (As := [.int (nI u), .int (nI 2), .int (nI 1)]) (rest := [.int (nI (13*u + 66)), .ref (o + 1)]) S hK (c_X7_score l E o (upd (upd z (13*u + 64) (scr z u 0 (nI 1))) (13*u + 65) (scr z u 1 (nI 1))) w u 2 (nI 1) (iv_s1 hI hu) (by rw [cn_u (by omega)]; rw [cn_u (by omega)]; exact hu) c18_2) gX7_repair_X7_score rfl hd_X7_score ⟨rfl, rfl⟩ ⟨Nat.le_of_ble_eq_true rfl, Nat.le_of_ble_eq_true rfl⟩ (k_recv hK hP.1 rfl) hP rfl hl.1 rfl (Nat.le_of_ble_eq_true rfl) dX7_repair_37 ⟨Nat.le_of_ble_eq_true rfl, Nat.le_of_ble_eq_true rfl⟩ ?_
  refine k_top (y := scr z u 2 (nI 1)) (by rw [sc_o (by omega), sc_o (by omega)]) ?_
  refine md_ast_z hx hb hK hP (by omega) hS (fun _ h => h) dX7_repair_40 (fun H locs hP zH fH hS => ?_)
  refine lv_iinc (v := nI 3) (lv' := [(3, .int (nI 3)), (2, .int ((pts z u) * (z 11))), (0, .ref o), (1, .int (nI u))]) hx hb dX7_repair_41 hl (k := 0) rfl (by decide) (by decide) rfl (fun ls hl => ?_)
  refine lv_goto (tgt := 16) hx hb dX7_repair_44 (by decide) ?_
  refine lv_iload_n hx hb dX7_repair_16 rfl (lv_at hl 0 rfl) ?_
  refine lv_iconst (v := nI 4) hx hb dX7_repair_17 (by decide) ?_
  refine n_ige (tgt := 47) hx hb dX7_repair_18 (by decide) (by omega) (by omega) (fun h => absurd h (by decide)) (fun c18_3 => ?_)
  refine lv_aload_n hx hb dX7_repair_21 rfl (lv_at hl 2 rfl) ?_
  refine k_get S hK hP.1 rfl (fun _ h => List.mem_cons_of_mem _ (List.mem_append_right _ (h))) 0 (by decide) (List.mem_cons_of_mem _ (List.mem_append_left _ (List.mem_of_getElem? (i := 0) rfl))) rfl (v := .ref (o + 1)) rfl dX7_repair_22 ?_
  refine lv_iload_n hx hb dX7_repair_25 rfl (lv_at hl 3 rfl) ?_
  refine k_S (As := [.int (nI u)]) (rest := [.ref (o + 1)]) S hK (c_X7_at l E u) gX7_repair_X7_at rfl hd_X7_at ⟨rfl, rfl⟩ ⟨Nat.le_of_ble_eq_true rfl, Nat.le_of_ble_eq_true rfl⟩ trivial rfl hl.1 rfl (Nat.le_of_ble_eq_true rfl) dX7_repair_26 ⟨Nat.le_of_ble_eq_true rfl, Nat.le_of_ble_eq_true rfl⟩ ?_
  refine lv_iconst (v := nI 2) hx hb dX7_repair_29 (by decide) ?_
  refine n_iadd (n := 13*u + 64) hx hb dX7_repair_30 (by omega) ?_
  refine lv_iload_n hx hb dX7_repair_31 rfl (lv_at hl 0 rfl) ?_
  refine n_iadd (n := 13*u + 67) hx hb dX7_repair_32 (by omega) ?_
  refine lv_aload_n hx hb dX7_repair_33 rfl (lv_at hl 2 rfl) ?_
  refine lv_iload_n hx hb dX7_repair_34 rfl (lv_at hl 3 rfl) ?_
  refine lv_iload_n hx hb dX7_repair_35 rfl (lv_at hl 0 rfl) ?_
  refine lv_iconst (v := nI 1) hx hb dX7_repair_36 (by decide) ?_
  refine k_V (As := [.int (nI u), .int (nI 3), .int (nI 1)]) (rest := [.int (nI (13*u + 67)), .ref (o + 1)]) S hK (c_X7_score l E o (upd (upd (upd z (13*u + 64) (scr z u 0 (nI 1))) (13*u + 65) (scr z u 1 (nI 1))) (13*u + 66) (scr z u 2 (nI 1))) w u 3 (nI 1) (iv_s2 hI hu) (by rw [cn_u (by omega)]; rw [cn_u (by omega)]; rw [cn_u (by omega)]; exact hu) c18_3) gX7_repair_X7_score rfl hd_X7_score ⟨rfl, rfl⟩ ⟨Nat.le_of_ble_eq_true rfl, Nat.le_of_ble_eq_true rfl⟩ (k_recv hK hP.1 rfl) hP rfl hl.1 rfl (Nat.le_of_ble_eq_true rfl) dX7_repair_37 ⟨Nat.le_of_ble_eq_true rfl, Nat.le_of_ble_eq_true rfl⟩ ?_
  refine k_top (y := scr z u 3 (nI 1)) (by rw [sc_o (by omega), sc_o (by omega), sc_o (by omega)]) ?_
  refine md_ast_z hx hb hK hP (by omega) hS (fun _ h => h) dX7_repair_40 (fun H locs hP zH fH hS => ?_)
  refine lv_iinc (v := nI 4) (lv' := [(3, .int (nI 4)), (2, .int ((pts z u) * (z 11))), (0, .ref o), (1, .int (nI u))]) hx hb dX7_repair_41 hl (k := 0) rfl (by decide) (by decide) rfl (fun ls hl => ?_)
  refine lv_goto (tgt := 16) hx hb dX7_repair_44 (by decide) ?_
  refine lv_iload_n hx hb dX7_repair_16 rfl (lv_at hl 0 rfl) ?_
  refine lv_iconst (v := nI 4) hx hb dX7_repair_17 (by decide) ?_
  refine n_ige (tgt := 47) hx hb dX7_repair_18 (by decide) (by omega) (by omega) (fun c18_4 => ?_) (fun h => absurd h (by decide))
  refine lv_aload_n hx hb dX7_repair_47 rfl (lv_at hl 2 rfl) ?_
  refine k_get S hK hP.1 rfl (fun _ h => List.mem_cons_of_mem _ (List.mem_append_right _ (h))) 0 (by decide) (List.mem_cons_of_mem _ (List.mem_append_left _ (List.mem_of_getElem? (i := 0) rfl))) rfl (v := .ref (o + 1)) rfl dX7_repair_48 ?_
  refine lv_iload_n hx hb dX7_repair_51 rfl (lv_at hl 3 rfl) ?_
  refine k_S (As := [.int (nI u)]) (rest := [.ref (o + 1)]) S hK (c_X7_at l E u) gX7_repair_X7_at rfl hd_X7_at ⟨rfl, rfl⟩ ⟨Nat.le_of_ble_eq_true rfl, Nat.le_of_ble_eq_true rfl⟩ trivial rfl hl.1 rfl (Nat.le_of_ble_eq_true rfl) dX7_repair_52 ⟨Nat.le_of_ble_eq_true rfl, Nat.le_of_ble_eq_true rfl⟩ ?_
  refine lv_bipush (v := nI 12) hx hb dX7_repair_55 (by decide) ?_
  refine n_iadd (n := 13*u + 74) hx hb dX7_repair_57 (by omega) ?_
  refine lv_dup2_11 hx hb dX7_repair_58 rfl rfl ?_
  refine k_iald hx hb hK hP.2.1 (by omega) (by decide) (v := z (13*u + 74)) ((upd_n (by omega)).trans ((upd_n (by omega)).trans ((upd_n (by omega)).trans ((upd_n (by omega)).trans (rfl))))) dX7_repair_59 ?_
  refine lv_iload_n hx hb dX7_repair_60 rfl (lv_at hl 1 rfl) ?_
  refine lv_iadd hx hb dX7_repair_61 ?_
  refine md_ast_z hx hb hK hP (by omega) hS (fun _ h => h) dX7_repair_62 (fun H locs hP zH fH hS => ?_)
  refine lv_aload_n hx hb dX7_repair_63 rfl (lv_at hl 2 rfl) ?_
  refine k_get S hK hP.1 rfl (fun _ h => List.mem_cons_of_mem _ (List.mem_append_right _ (h))) 0 (by decide) (List.mem_cons_of_mem _ (List.mem_append_left _ (List.mem_of_getElem? (i := 0) rfl))) rfl (v := .ref (o + 1)) rfl dX7_repair_64 ?_
  refine lv_iload_n hx hb dX7_repair_67 rfl (lv_at hl 3 rfl) ?_
  refine k_S (As := [.int (nI u)]) (rest := [.ref (o + 1)]) S hK (c_X7_at l E u) gX7_repair_X7_at rfl hd_X7_at ⟨rfl, rfl⟩ ⟨Nat.le_of_ble_eq_true rfl, Nat.le_of_ble_eq_true rfl⟩ trivial rfl hl.1 rfl (Nat.le_of_ble_eq_true rfl) dX7_repair_68 ⟨Nat.le_of_ble_eq_true rfl, Nat.le_of_ble_eq_true rfl⟩ ?_
  refine lv_bipush (v := nI 6) hx hb dX7_repair_71 (by decide) ?_
  refine n_iadd (n := 13*u + 68) hx hb dX7_repair_73 (by omega) ?_
  refine lv_iconst (v := nI 0) hx hb dX7_repair_74 (by decide) ?_
  refine md_ast_z hx hb hK hP (by omega) hS (fun _ h => h) dX7_repair_75 (fun H locs hP zH fH hS => ?_)
  refine lv_aload_n hx hb dX7_repair_76 rfl (lv_at hl 2 rfl) ?_
  refine k_get S hK hP.1 rfl (fun _ h => List.mem_cons_of_mem _ (List.mem_append_right _ (h))) 0 (by decide) (List.mem_cons_of_mem _ (List.mem_append_left _ (List.mem_of_getElem? (i := 0) rfl))) rfl (v := .ref (o + 1)) rfl dX7_repair_77 ?_
  refine lv_iconst (v := nI 4) hx hb dX7_repair_80 (by decide) ?_
  refine lv_dup2_11 hx hb dX7_repair_81 rfl rfl ?_
  refine k_iald hx hb hK hP.2.1 (by omega) (by decide) (v := z 4) ((upd_n (by omega)).trans ((upd_n (by omega)).trans ((upd_n (by omega)).trans ((upd_n (by omega)).trans ((upd_n (by omega)).trans ((upd_n (by omega)).trans (rfl))))))) dX7_repair_82 ?_
  refine lv_iload_n hx hb dX7_repair_83 rfl (lv_at hl 1 rfl) ?_
  refine lv_iadd hx hb dX7_repair_84 ?_
  refine md_ast_z hx hb hK hP (by omega) hS (fun _ h => h) dX7_repair_85 (fun H locs hP zH fH hS => ?_)
  refine lv_iload_n hx hb dX7_repair_86 rfl (lv_at hl 1 rfl) ?_
  exact k_iretM hx hb hr hlk dX7_repair_87 hS (show md E o (rez z u) w _ from hP) (rfl)
def rm_X7_day : Room := { frames := 5, cells := 0, slots := 0, locals := 117 }
theorem hd_X7_day : k_hd1 yX7_day RX7 0 := by decide +kernel
set_option maxHeartbeats 4000000 in
set_option maxRecDepth 100000 in
theorem c_X7_day (l : Launch) (E : ke_E) (o : Nat) (z : Nat → Int32) (w : md_w) (hI : iv z) : Met l yX7_day wsX7_day rm_X7_day (kp E [.ref o] (md E o z w)) (qm (some (.int (dyZ z).2)) (bl o 6) (md E o (dyZ z).1 w)) 0 0 (bl o 6) := by
  refine k_hd (cc := cX7_day) (maxL := 4) (ret := (some .int)) (by decide) rfl (Nat.le_of_ble_eq_true rfl) ?_
  intro p e s m below meth c ls S hr hlk hnm hK hP hl
  have hx := S.1
  have hb := S.2.1
  have hts := S.2.2.2.2
  have hP : md E o z w s.heap := hP
  have hl : lv_has ls 4 [(0, .ref o)] := hl
  have hS : va_S (bl o 6) s.heap s.heap [] := va_S.rf
  have hcn := iv_c hI
  have hpd := iv_pd1 hI
  have J21 : ∀ (n_ : Nat), ∀ (k : Nat), ∀ (b : Option Nat), k ≤ pd z → nw (dyI (dy0 z) k).1 (nI 0) (nI 0) (cn (dyI (dy0 z) k).1) = b → pd z < k + n_ → ∀ (H : Heap) (locs : List Loc), md E o (dyI (dy0 z) k).1 w H → va_S (bl o 6) s.heap H locs → ∀ (ls : Array Slot), lv_has ls 4 [(0, .ref o), (1, .int (dyI (dy0 z) k).2), (2, .int (oI b)), (3, .int (nI k))] → W p l e (headSpec wsX7_day rm_X7_day).room s m ([.ref o] : List Value).toArray below meth c H locs 0 0 (MQ below (qm (some (.int (dyZ z).2)) (bl o 6) (md E o (dyZ z).1 w)) ([.ref o] : List Value).toArray s 0 0 (bl o 6)) (F0 m 21 ls []) := by
    intro n_
    induction n_ with
    | zero =>
      intro k b hk hbb hn_ _ _ _ _ _ _
      exact absurd hn_ (by omega)
    | succ n_ ih =>
      intro k b hk hbb hn_ H locs hW0 hS ls hl
      have hdy := dyI_iv (iv_dy0 hI) k
      refine lv_iload_n hx hb dX7_day_21 rfl (lv_at hl 3 rfl) ?_
      refine lv_aload_n hx hb dX7_day_22 rfl (lv_at hl 0 rfl) ?_
      refine k_get S hK hW0.1 rfl (fun _ h => List.mem_cons_of_mem _ (List.mem_append_right _ (h))) 0 (by decide) (List.mem_cons_of_mem _ (List.mem_append_left _ (List.mem_append_left _ (List.mem_of_getElem? (i := 0) rfl)))) rfl (v := .ref (o + 1)) rfl dX7_day_23 ?_
      refine lv_bipush (v := nI 10) hx hb dX7_day_26 (by decide) ?_
      refine k_iald hx hb hK hW0.2.1 (by omega) (by decide) (v := nI (pd z)) ((hdy.2.2 10 (by omega) (by omega)).trans (((upd_n (by omega)).trans (iv_pd hI)))) dX7_day_28 ?_
      refine n_ige (tgt := 58) hx hb dX7_day_29 (by decide) (by omega) (by omega) (fun c29 => ?_) (fun c29 => ?_)
      · refine lv_iload_n hx hb dX7_day_58 rfl (lv_at hl 1 rfl) ?_
        exact k_iretM hx hb hr hlk dX7_day_59 hS (show md E o (dyZ z).1 w _ from (by unfold dyZ; rw [show pd z = k by omega]; exact hW0)) (by unfold dyZ; rw [show pd z = k by omega])
      · rcases b with _ | j
        · have hl : lv_has ls 4 [(0, .ref o), (1, .int (dyI (dy0 z) k).2), (2, .int (-1)), (3, .int (nI k))] := hl
          refine lv_iload_n hx hb dX7_day_32 rfl (lv_at hl 2 rfl) ?_
          refine lv_iconst (v := (-1)) hx hb dX7_day_33 (by decide) ?_
          refine lv_icmp_eq (tgt := 58) hx hb dX7_day_34 (by decide) (fun c34 => ?_) (fun h => absurd rfl h)
          refine lv_iload_n hx hb dX7_day_58 rfl (lv_at hl 1 rfl) ?_
          exact k_iretM hx hb hr hlk dX7_day_59 hS (show md E o (dyZ z).1 w _ from (by unfold dyZ; rw [show pd z = k + (pd z - k) by omega, dyI_stop hbb]; exact hW0)) (by unfold dyZ; rw [show pd z = k + (pd z - k) by omega, dyI_stop hbb])
        · have hl : lv_has ls 4 [(0, .ref o), (1, .int (dyI (dy0 z) k).2), (2, .int (nI j)), (3, .int (nI k))] := hl
          have hj := (nw_lt hbb).1
          have hj9 : j < cn z := by have e9 := hdy.2.1; rw [cn_dy0] at e9; omega
          refine lv_iload_n hx hb dX7_day_32 rfl (lv_at hl 2 rfl) ?_
          refine lv_iconst (v := (-1)) hx hb dX7_day_33 (by decide) ?_
          refine lv_icmp_eq (tgt := 58) hx hb dX7_day_34 (by decide) (fun h => absurd h (nI_nm1 (by omega))) (fun c34 => ?_)
          refine lv_iload_n hx hb dX7_day_37 rfl (lv_at hl 1 rfl) ?_
          refine lv_aload_n hx hb dX7_day_38 rfl (lv_at hl 0 rfl) ?_
          refine lv_iload_n hx hb dX7_day_39 rfl (lv_at hl 2 rfl) ?_
          refine k_VM (As := [.int (nI j)]) (rest := [.int (dyI (dy0 z) k).2]) S hK (c_X7_repair l E o (dyI (dy0 z) k).1 w j hdy.1 hj) gX7_day_X7_repair rfl hd_X7_repair ⟨rfl, rfl⟩ ⟨Nat.le_of_ble_eq_true rfl, Nat.le_of_ble_eq_true rfl⟩ (k_recv hK hW0.1 rfl) hW0 rfl hl.1 rfl (Nat.le_of_ble_eq_true rfl) dX7_day_40 ⟨Nat.le_of_ble_eq_true rfl, Nat.le_of_ble_eq_true rfl⟩ hS (fun q h => h) (fun q h => h) (fun H locs hQ zH fH hS => ?_)
          have hP := hQ
          refine lv_iadd hx hb dX7_day_43 ?_
          refine lv_istore_n (lv' := [(1, .int ((dyI (dy0 z) k).2 + (rpc (dyI (dy0 z) k).1 j))), (0, .ref o), (2, .int (nI j)), (3, .int (nI k))]) hx hb dX7_day_44 rfl hl (by decide) rfl (fun ls hl => ?_)
          refine lv_aload_n hx hb dX7_day_45 rfl (lv_at hl 1 rfl) ?_
          refine lv_iconst (v := nI 0) hx hb dX7_day_46 (by decide) ?_
          refine lv_iconst (v := nI 0) hx hb dX7_day_47 (by decide) ?_
          refine k_V (As := [.int (nI 0), .int (nI 0)]) (rest := []) S hK (c_X7_nextWork l E o (rez (dyI (dy0 z) k).1 j) w (nI 0) (nI 0) (iv_rez hdy.1 hj)) gX7_day_X7_nextWork rfl hd_X7_nextWork ⟨rfl, rfl⟩ ⟨Nat.le_of_ble_eq_true rfl, Nat.le_of_ble_eq_true rfl⟩ (k_recv hK hP.1 rfl) hP rfl hl.1 rfl (Nat.le_of_ble_eq_true rfl) dX7_day_48 ⟨Nat.le_of_ble_eq_true rfl, Nat.le_of_ble_eq_true rfl⟩ ?_
          refine lv_istore_n (lv' := [(2, .int (oI (nw (rez (dyI (dy0 z) k).1 j) (nI 0) (nI 0) (cn (rez (dyI (dy0 z) k).1 j))))), (1, .int ((dyI (dy0 z) k).2 + (rpc (dyI (dy0 z) k).1 j))), (0, .ref o), (3, .int (nI k))]) hx hb dX7_day_51 rfl hl (by decide) rfl (fun ls hl => ?_)
          refine lv_iinc (v := nI (k + 1)) (lv' := [(3, .int (nI (k + 1))), (2, .int (oI (nw (rez (dyI (dy0 z) k).1 j) (nI 0) (nI 0) (cn (rez (dyI (dy0 z) k).1 j))))), (1, .int ((dyI (dy0 z) k).2 + (rpc (dyI (dy0 z) k).1 j))), (0, .ref o)]) hx hb dX7_day_52 hl (k := 3) rfl (inc_1 _) (by decide) rfl (fun ls hl => ?_)
          refine lv_goto (tgt := 21) hx hb dX7_day_55 (by decide) ?_
          have hl : lv_has ls 4 [(0, .ref o), (1, .int (dyI (dy0 z) (k + 1)).2), (2, .int (oI (nw (dyI (dy0 z) (k + 1)).1 (nI 0) (nI 0) (cn (dyI (dy0 z) (k + 1)).1)))), (3, .int (nI (k + 1)))] := by
            have h9 := lv_sub (l' := [(0, .ref o), (1, .int ((dyI (dy0 z) k).2 + (rpc (dyI (dy0 z) k).1 j))), (2, .int (oI (nw (rez (dyI (dy0 z) k).1 j) (nI 0) (nI 0) (cn (rez (dyI (dy0 z) k).1 j))))), (3, .int (nI (k + 1)))]) hl [3, 2, 1, 0] rfl
            rw [show (.int (dyI (dy0 z) (k + 1)).2 : Value) = .int ((dyI (dy0 z) k).2 + (rpc (dyI (dy0 z) k).1 j)) from congrArg Value.int (congrArg Prod.snd (dyI_s hbb))]
            rw [show (.int (oI (nw (dyI (dy0 z) (k + 1)).1 (nI 0) (nI 0) (cn (dyI (dy0 z) (k + 1)).1))) : Value) = .int (oI (nw (rez (dyI (dy0 z) k).1 j) (nI 0) (nI 0) (cn (rez (dyI (dy0 z) k).1 j)))) from congrArg Value.int (congrArg (fun y9 => oI (nw y9 (nI 0) (nI 0) (cn y9))) (congrArg Prod.fst (dyI_s hbb)))]
            exact h9
          exact ih (k + 1) (nw (dyI (dy0 z) (k + 1)).1 (nI 0) (nI 0) (cn (dyI (dy0 z) (k + 1)).1)) (by omega) rfl (by omega) _ _ (show md E o (dyI (dy0 z) (k + 1)).1 w _ from (by rw [dyI_s hbb]; exact hP)) hS _ hl
  refine lv_iconst (v := nI 0) hx hb dX7_day_0 (by decide) ?_
  refine lv_istore_n (lv' := [(1, .int (nI 0)), (0, .ref o)]) hx hb dX7_day_1 rfl hl (by decide) rfl (fun ls hl => ?_)
  refine lv_aload_n hx hb dX7_day_2 rfl (lv_at hl 1 rfl) ?_
  refine k_get S hK hP.1 rfl (fun _ h => List.mem_cons_of_mem _ (List.mem_append_right _ (h))) 0 (by decide) (List.mem_cons_of_mem _ (List.mem_append_left _ (List.mem_append_left _ (List.mem_of_getElem? (i := 0) rfl)))) rfl (v := .ref (o + 1)) rfl dX7_day_3 ?_
  refine lv_iconst (v := nI 1) hx hb dX7_day_6 (by decide) ?_
  refine lv_dup2_11 hx hb dX7_day_7 rfl rfl ?_
  refine k_iald hx hb hK hP.2.1 (by omega) (by decide) (v := z 1) rfl dX7_day_8 ?_
  refine lv_iconst (v := nI 1) hx hb dX7_day_9 (by decide) ?_
  refine lv_iadd hx hb dX7_day_10 ?_
  refine md_ast_z hx hb hK hP (by omega) hS (fun _ h => h) dX7_day_11 (fun H locs hP zH fH hS => ?_)
  refine lv_aload_n hx hb dX7_day_12 rfl (lv_at hl 1 rfl) ?_
  refine lv_iconst (v := nI 0) hx hb dX7_day_13 (by decide) ?_
  refine lv_iconst (v := nI 0) hx hb dX7_day_14 (by decide) ?_
  refine k_V (As := [.int (nI 0), .int (nI 0)]) (rest := []) S hK (c_X7_nextWork l E o (upd z 1 ((z 1) + (nI 1))) w (nI 0) (nI 0) (iv_dy0 hI)) gX7_day_X7_nextWork rfl hd_X7_nextWork ⟨rfl, rfl⟩ ⟨Nat.le_of_ble_eq_true rfl, Nat.le_of_ble_eq_true rfl⟩ (k_recv hK hP.1 rfl) hP rfl hl.1 rfl (Nat.le_of_ble_eq_true rfl) dX7_day_15 ⟨Nat.le_of_ble_eq_true rfl, Nat.le_of_ble_eq_true rfl⟩ ?_
  refine lv_istore_n (lv' := [(2, .int (oI (nw (upd z 1 ((z 1) + (nI 1))) (nI 0) (nI 0) (cn (upd z 1 ((z 1) + (nI 1))))))), (1, .int (nI 0)), (0, .ref o)]) hx hb dX7_day_18 rfl hl (by decide) rfl (fun ls hl => ?_)
  refine lv_iconst (v := nI 0) hx hb dX7_day_19 (by decide) ?_
  refine lv_istore_n (lv' := [(3, .int (nI 0)), (2, .int (oI (nw (upd z 1 ((z 1) + (nI 1))) (nI 0) (nI 0) (cn (upd z 1 ((z 1) + (nI 1))))))), (1, .int (nI 0)), (0, .ref o)]) hx hb dX7_day_20 rfl hl (by decide) rfl (fun ls hl => ?_)
  have hl : lv_has ls 4 [(0, .ref o), (1, .int (dyI (dy0 z) 0).2), (2, .int (oI (nw (dy0 z) (nI 0) (nI 0) (cn (dy0 z))))), (3, .int (nI 0))] := by
    have h9 := lv_sub (l' := [(0, .ref o), (1, .int (nI 0)), (2, .int (oI (nw (upd z 1 ((z 1) + (nI 1))) (nI 0) (nI 0) (cn (upd z 1 ((z 1) + (nI 1))))))), (3, .int (nI 0))]) hl [3, 2, 1, 0] rfl
    rw [show (.int (dyI (dy0 z) 0).2 : Value) = .int (nI 0) from congrArg Value.int rfl]
    rw [show (.int (oI (nw (dy0 z) (nI 0) (nI 0) (cn (dy0 z)))) : Value) = .int (oI (nw (upd z 1 ((z 1) + (nI 1))) (nI 0) (nI 0) (cn (upd z 1 ((z 1) + (nI 1)))))) from congrArg Value.int rfl]
    exact h9
  exact J21 (pd z + 1) 0 (nw (dy0 z) (nI 0) (nI 0) (cn (dy0 z))) (by omega) rfl (by omega) _ _ (show md E o (dyI (dy0 z) 0).1 w _ from hP) hS _ hl
def rm_X7_closeNow : Room := { frames := 3, cells := 0, slots := 0, locals := 65 }
theorem hd_X7_closeNow : k_hd1 yX7_closeNow RX7 0 := by decide +kernel
set_option maxHeartbeats 4000000 in
set_option maxRecDepth 100000 in
theorem c_X7_closeNow (l : Launch) (E : ke_E) (o : Nat) (z : Nat → Int32) (w : md_w) (hI : iv z) : Met l yX7_closeNow wsX7_closeNow rm_X7_closeNow (kp E [.ref o] (md E o z w)) (qm (some (.int (cloZ z).2)) (bl o 6) (md E o (cloZ z).1 w)) 0 0 (bl o 6) := by
  refine k_hd (cc := cX7_closeNow) (maxL := 4) (ret := (some .int)) (by decide) rfl (Nat.le_of_ble_eq_true rfl) ?_
  intro p e s m below meth c ls S hr hlk hnm hK hP hl
  have hx := S.1
  have hb := S.2.1
  have hts := S.2.2.2.2
  have hP : md E o z w s.heap := hP
  have hl : lv_has ls 4 [(0, .ref o)] := hl
  have hS : va_S (bl o 6) s.heap s.heap [] := va_S.rf
  have hcn := iv_c hI
  have J45 : ∀ (n_ : Nat), ∀ (z1 : Nat → Int32), ∀ (d : Int32), ∀ (a : Int32), ∀ (f1 : Nat), ∀ (b : Option Nat), iv z1 → clo f1 z1 d a = cloZ z → cntb d (cn z1) ≤ f1 → nc z1 d (cn z1) = b → f1 < n_ → ∀ (H : Heap) (locs : List Loc), md E o z1 w H → va_S (bl o 6) s.heap H locs → ∀ (ls : Array Slot), lv_has ls 4 [(0, .ref o), (1, .int d), (2, .int a), (3, .int (oI b))] → W p l e (headSpec wsX7_closeNow rm_X7_closeNow).room s m ([.ref o] : List Value).toArray below meth c H locs 0 0 (MQ below (qm (some (.int (cloZ z).2)) (bl o 6) (md E o (cloZ z).1 w)) ([.ref o] : List Value).toArray s 0 0 (bl o 6)) (F0 m 45 ls []) := by
    intro n_
    induction n_ with
    | zero =>
      intro z1 d a f1 b hI1 hR hf hbb hn_ _ _ _ _ _ _
      exact absurd hn_ (by omega)
    | succ n_ ih =>
      intro z1 d a f1 b hI1 hR hf hbb hn_ H locs hW0 hS ls hl
      rcases b with _ | j
      · have hl : lv_has ls 4 [(0, .ref o), (1, .int d), (2, .int a), (3, .int (-1))] := hl
        refine lv_iload_n hx hb dX7_closeNow_45 rfl (lv_at hl 3 rfl) ?_
        refine lv_iconst (v := (-1)) hx hb dX7_closeNow_46 (by decide) ?_
        refine lv_icmp_eq (tgt := 92) hx hb dX7_closeNow_47 (by decide) (fun c47 => ?_) (fun h => absurd rfl h)
        refine lv_iload_n hx hb dX7_closeNow_92 rfl (lv_at hl 2 rfl) ?_
        exact k_iretM hx hb hr hlk dX7_closeNow_93 hS (show md E o (cloZ z).1 w _ from (by rw [← hR, clo_n hbb]; exact hW0)) (by rw [← hR, clo_n hbb])
      · have hl : lv_has ls 4 [(0, .ref o), (1, .int d), (2, .int a), (3, .int (nI j))] := hl
        have hj := (nc_lt hbb).1
        have hjb := (nc_lt hbb).2.2
        have hc9 := iv_c hI1
        have hpy := payZ_iv hI1 hj
        have hcb := (cntb_or (d := d) (j := j) (by omega) (cn z1) (by omega)).2 hjb hj
        obtain ⟨f, rfl⟩ : ∃ f, f1 = f + 1 := ⟨f1 - 1, by omega⟩
        refine lv_iload_n hx hb dX7_closeNow_45 rfl (lv_at hl 3 rfl) ?_
        refine lv_iconst (v := (-1)) hx hb dX7_closeNow_46 (by decide) ?_
        refine lv_icmp_eq (tgt := 92) hx hb dX7_closeNow_47 (by decide) (fun h => absurd h (nI_nm1 (by omega))) (fun c47 => ?_)
        refine lv_iload_n hx hb dX7_closeNow_50 rfl (lv_at hl 1 rfl) ?_
        refine lv_iconst (v := nI 1) hx hb dX7_closeNow_51 (by decide) ?_
        refine lv_iload_n hx hb dX7_closeNow_52 rfl (lv_at hl 3 rfl) ?_
        refine lv_ishl hx hb dX7_closeNow_53 ?_
        refine lv_ior hx hb dX7_closeNow_54 ?_
        refine lv_istore_n (lv' := [(1, .int (d ||| ((nI 1) <<< (nI j &&& 31)))), (0, .ref o), (2, .int a), (3, .int (nI j))]) hx hb dX7_closeNow_55 rfl hl (by decide) rfl (fun ls hl => ?_)
        refine lv_iload_n hx hb dX7_closeNow_56 rfl (lv_at hl 2 rfl) ?_
        refine lv_aload_n hx hb dX7_closeNow_57 rfl (lv_at hl 1 rfl) ?_
        refine lv_iload_n hx hb dX7_closeNow_58 rfl (lv_at hl 3 rfl) ?_
        refine k_VM (As := [.int (nI j)]) (rest := [.int a]) S hK (c_X7_pays l E o z1 w j hI1 hj) gX7_closeNow_X7_pays rfl hd_X7_pays ⟨rfl, rfl⟩ ⟨Nat.le_of_ble_eq_true rfl, Nat.le_of_ble_eq_true rfl⟩ (k_recv hK hW0.1 rfl) hW0 rfl hl.1 rfl (Nat.le_of_ble_eq_true rfl) dX7_closeNow_59 ⟨Nat.le_of_ble_eq_true rfl, Nat.le_of_ble_eq_true rfl⟩ hS (fun q h => h) (fun q h => h) (fun H locs hQ zH fH hS => ?_)
        have hP := hQ
        refine b_eq (tgt := 80) hx hb dX7_closeNow_62 (by decide) (fun c62 => ?_) (fun c62 => ?_)
        · refine lv_iconst (v := nI 0) hx hb dX7_closeNow_80 (by decide) ?_
          refine lv_iadd hx hb dX7_closeNow_81 ?_
          refine lv_istore_n (lv' := [(2, .int (a + (nI 0))), (1, .int (d ||| ((nI 1) <<< (nI j &&& 31)))), (0, .ref o), (3, .int (nI j))]) hx hb dX7_closeNow_82 rfl hl (by decide) rfl (fun ls hl => ?_)
          refine lv_aload_n hx hb dX7_closeNow_83 rfl (lv_at hl 2 rfl) ?_
          refine lv_iload_n hx hb dX7_closeNow_84 rfl (lv_at hl 1 rfl) ?_
          refine k_V (As := [.int (d ||| ((nI 1) <<< (nI j &&& 31)))]) (rest := []) S hK (c_X7_nextClaim l E o (payZ z1 j) w (d ||| ((nI 1) <<< (nI j &&& 31))) hpy.1) gX7_closeNow_X7_nextClaim rfl hd_X7_nextClaim ⟨rfl, rfl⟩ ⟨Nat.le_of_ble_eq_true rfl, Nat.le_of_ble_eq_true rfl⟩ (k_recv hK hP.1 rfl) hP rfl hl.1 rfl (Nat.le_of_ble_eq_true rfl) dX7_closeNow_85 ⟨Nat.le_of_ble_eq_true rfl, Nat.le_of_ble_eq_true rfl⟩ ?_
          refine lv_istore_n (lv' := [(3, .int (oI (nc (payZ z1 j) (d ||| ((nI 1) <<< (nI j &&& 31))) (cn (payZ z1 j))))), (2, .int (a + (nI 0))), (1, .int (d ||| ((nI 1) <<< (nI j &&& 31)))), (0, .ref o)]) hx hb dX7_closeNow_88 rfl hl (by decide) rfl (fun ls hl => ?_)
          refine lv_goto (tgt := 45) hx hb dX7_closeNow_89 (by decide) ?_
          have hl : lv_has ls 4 [(0, .ref o), (1, .int (d ||| ((nI 1) <<< (nI j &&& 31)))), (2, .int (a + iF (payP z1 j) (z1 (13*j + 70)) (nI 0))), (3, .int (oI (nc (payZ z1 j) (d ||| ((nI 1) <<< (nI j &&& 31))) (cn (payZ z1 j)))))] := by
            have h9 := lv_sub (l' := [(0, .ref o), (1, .int (d ||| ((nI 1) <<< (nI j &&& 31)))), (2, .int (a + (nI 0))), (3, .int (oI (nc (payZ z1 j) (d ||| ((nI 1) <<< (nI j &&& 31))) (cn (payZ z1 j)))))]) hl [3, 2, 1, 0] rfl
            rw [show (.int (a + iF (payP z1 j) (z1 (13*j + 70)) (nI 0)) : Value) = .int (a + (nI 0)) from congrArg Value.int (congrArg (fun x => a + x) (iF_f c62))]
            exact h9
          exact ih (payZ z1 j) (d ||| ((nI 1) <<< (nI j &&& 31))) (a + iF (payP z1 j) (z1 (13*j + 70)) (nI 0)) f (nc (payZ z1 j) (d ||| ((nI 1) <<< (nI j &&& 31))) (cn (payZ z1 j))) hpy.1 ((clo_s hbb).symm.trans hR) (by rw [hpy.2.1]; omega) rfl (by omega) _ _ (show md E o (payZ z1 j) w _ from hP) hS _ hl
        · refine lv_aload_n hx hb dX7_closeNow_65 rfl (lv_at hl 1 rfl) ?_
          refine k_get S hK hP.1 rfl (fun _ h => List.mem_cons_of_mem _ (List.mem_append_right _ (h))) 0 (by decide) (List.mem_cons_of_mem _ (List.mem_append_left _ (List.mem_of_getElem? (i := 0) rfl))) rfl (v := .ref (o + 1)) rfl dX7_closeNow_66 ?_
          refine lv_iload_n hx hb dX7_closeNow_69 rfl (lv_at hl 3 rfl) ?_
          refine k_S (As := [.int (nI j)]) (rest := [.ref (o + 1), .int a]) S hK (c_X7_at l E j) gX7_closeNow_X7_at rfl hd_X7_at ⟨rfl, rfl⟩ ⟨Nat.le_of_ble_eq_true rfl, Nat.le_of_ble_eq_true rfl⟩ trivial rfl hl.1 rfl (Nat.le_of_ble_eq_true rfl) dX7_closeNow_70 ⟨Nat.le_of_ble_eq_true rfl, Nat.le_of_ble_eq_true rfl⟩ ?_
          refine lv_bipush (v := nI 8) hx hb dX7_closeNow_73 (by decide) ?_
          refine n_iadd (n := 13*j + 70) hx hb dX7_closeNow_75 (by omega) ?_
          refine k_iald hx hb hK hP.2.1 (by omega) (by decide) (v := (payZ z1 j) (13*j + 70)) rfl dX7_closeNow_76 ?_
          refine lv_goto (tgt := 81) hx hb dX7_closeNow_77 (by decide) ?_
          refine lv_iadd hx hb dX7_closeNow_81 ?_
          refine lv_istore_n (lv' := [(2, .int (a + ((payZ z1 j) (13*j + 70)))), (1, .int (d ||| ((nI 1) <<< (nI j &&& 31)))), (0, .ref o), (3, .int (nI j))]) hx hb dX7_closeNow_82 rfl hl (by decide) rfl (fun ls hl => ?_)
          refine lv_aload_n hx hb dX7_closeNow_83 rfl (lv_at hl 2 rfl) ?_
          refine lv_iload_n hx hb dX7_closeNow_84 rfl (lv_at hl 1 rfl) ?_
          refine k_V (As := [.int (d ||| ((nI 1) <<< (nI j &&& 31)))]) (rest := []) S hK (c_X7_nextClaim l E o (payZ z1 j) w (d ||| ((nI 1) <<< (nI j &&& 31))) hpy.1) gX7_closeNow_X7_nextClaim rfl hd_X7_nextClaim ⟨rfl, rfl⟩ ⟨Nat.le_of_ble_eq_true rfl, Nat.le_of_ble_eq_true rfl⟩ (k_recv hK hP.1 rfl) hP rfl hl.1 rfl (Nat.le_of_ble_eq_true rfl) dX7_closeNow_85 ⟨Nat.le_of_ble_eq_true rfl, Nat.le_of_ble_eq_true rfl⟩ ?_
          refine lv_istore_n (lv' := [(3, .int (oI (nc (payZ z1 j) (d ||| ((nI 1) <<< (nI j &&& 31))) (cn (payZ z1 j))))), (2, .int (a + ((payZ z1 j) (13*j + 70)))), (1, .int (d ||| ((nI 1) <<< (nI j &&& 31)))), (0, .ref o)]) hx hb dX7_closeNow_88 rfl hl (by decide) rfl (fun ls hl => ?_)
          refine lv_goto (tgt := 45) hx hb dX7_closeNow_89 (by decide) ?_
          have hl : lv_has ls 4 [(0, .ref o), (1, .int (d ||| ((nI 1) <<< (nI j &&& 31)))), (2, .int (a + iF (payP z1 j) (z1 (13*j + 70)) (nI 0))), (3, .int (oI (nc (payZ z1 j) (d ||| ((nI 1) <<< (nI j &&& 31))) (cn (payZ z1 j)))))] := by
            have h9 := lv_sub (l' := [(0, .ref o), (1, .int (d ||| ((nI 1) <<< (nI j &&& 31)))), (2, .int (a + ((payZ z1 j) (13*j + 70)))), (3, .int (oI (nc (payZ z1 j) (d ||| ((nI 1) <<< (nI j &&& 31))) (cn (payZ z1 j)))))]) hl [3, 2, 1, 0] rfl
            rw [show (.int (a + iF (payP z1 j) (z1 (13*j + 70)) (nI 0)) : Value) = .int (a + ((payZ z1 j) (13*j + 70))) from congrArg Value.int (congrArg (fun x => a + x) ((iF_t c62).trans (hpy.2.2 j).symm))]
            exact h9
          exact ih (payZ z1 j) (d ||| ((nI 1) <<< (nI j &&& 31))) (a + iF (payP z1 j) (z1 (13*j + 70)) (nI 0)) f (nc (payZ z1 j) (d ||| ((nI 1) <<< (nI j &&& 31))) (cn (payZ z1 j))) hpy.1 ((clo_s hbb).symm.trans hR) (by rw [hpy.2.1]; omega) rfl (by omega) _ _ (show md E o (payZ z1 j) w _ from hP) hS _ hl
  refine lv_iconst (v := nI 0) hx hb dX7_closeNow_0 (by decide) ?_
  refine lv_istore_n (lv' := [(1, .int (nI 0)), (0, .ref o)]) hx hb dX7_closeNow_1 rfl hl (by decide) rfl (fun ls hl => ?_)
  refine lv_iload_n hx hb dX7_closeNow_2 rfl (lv_at hl 0 rfl) ?_
  refine lv_iconst (v := nI 4) hx hb dX7_closeNow_3 (by decide) ?_
  refine n_ige (tgt := 25) hx hb dX7_closeNow_4 (by decide) (by omega) (by omega) (fun h => absurd h (by decide)) (fun c4 => ?_)
  refine lv_aload_n hx hb dX7_closeNow_7 rfl (lv_at hl 1 rfl) ?_
  refine k_get S hK hP.1 rfl (fun _ h => List.mem_cons_of_mem _ (List.mem_append_right _ (h))) 0 (by decide) (List.mem_cons_of_mem _ (List.mem_append_left _ (List.mem_of_getElem? (i := 0) rfl))) rfl (v := .ref (o + 1)) rfl dX7_closeNow_8 ?_
  refine lv_iload_n hx hb dX7_closeNow_11 rfl (lv_at hl 0 rfl) ?_
  refine k_S (As := [.int (nI 0)]) (rest := [.ref (o + 1)]) S hK (c_X7_seller l E 0) gX7_closeNow_X7_seller rfl hd_X7_seller ⟨rfl, rfl⟩ ⟨Nat.le_of_ble_eq_true rfl, Nat.le_of_ble_eq_true rfl⟩ trivial rfl hl.1 rfl (Nat.le_of_ble_eq_true rfl) dX7_closeNow_12 ⟨Nat.le_of_ble_eq_true rfl, Nat.le_of_ble_eq_true rfl⟩ ?_
  refine lv_iconst (v := nI 1) hx hb dX7_closeNow_15 (by decide) ?_
  refine n_iadd (n := 31) hx hb dX7_closeNow_16 (by omega) ?_
  refine lv_iconst (v := nI 0) hx hb dX7_closeNow_17 (by decide) ?_
  refine md_ast_z hx hb hK hP (by omega) hS (fun _ h => h) dX7_closeNow_18 (fun H locs hP zH fH hS => ?_)
  refine lv_iinc (v := nI 1) (lv' := [(1, .int (nI 1)), (0, .ref o)]) hx hb dX7_closeNow_19 hl (k := 0) rfl (by decide) (by decide) rfl (fun ls hl => ?_)
  refine lv_goto (tgt := 2) hx hb dX7_closeNow_22 (by decide) ?_
  refine lv_iload_n hx hb dX7_closeNow_2 rfl (lv_at hl 0 rfl) ?_
  refine lv_iconst (v := nI 4) hx hb dX7_closeNow_3 (by decide) ?_
  refine n_ige (tgt := 25) hx hb dX7_closeNow_4 (by decide) (by omega) (by omega) (fun h => absurd h (by decide)) (fun c4_1 => ?_)
  refine lv_aload_n hx hb dX7_closeNow_7 rfl (lv_at hl 1 rfl) ?_
  refine k_get S hK hP.1 rfl (fun _ h => List.mem_cons_of_mem _ (List.mem_append_right _ (h))) 0 (by decide) (List.mem_cons_of_mem _ (List.mem_append_left _ (List.mem_of_getElem? (i := 0) rfl))) rfl (v := .ref (o + 1)) rfl dX7_closeNow_8 ?_
  refine lv_iload_n hx hb dX7_closeNow_11 rfl (lv_at hl 0 rfl) ?_
  refine k_S (As := [.int (nI 1)]) (rest := [.ref (o + 1)]) S hK (c_X7_seller l E 1) gX7_closeNow_X7_seller rfl hd_X7_seller ⟨rfl, rfl⟩ ⟨Nat.le_of_ble_eq_true rfl, Nat.le_of_ble_eq_true rfl⟩ trivial rfl hl.1 rfl (Nat.le_of_ble_eq_true rfl) dX7_closeNow_12 ⟨Nat.le_of_ble_eq_true rfl, Nat.le_of_ble_eq_true rfl⟩ ?_
  refine lv_iconst (v := nI 1) hx hb dX7_closeNow_15 (by decide) ?_
  refine n_iadd (n := 39) hx hb dX7_closeNow_16 (by omega) ?_
  refine lv_iconst (v := nI 0) hx hb dX7_closeNow_17 (by decide) ?_
  refine md_ast_z hx hb hK hP (by omega) hS (fun _ h => h) dX7_closeNow_18 (fun H locs hP zH fH hS => ?_)
  refine lv_iinc (v := nI 2) (lv' := [(1, .int (nI 2)), (0, .ref o)]) hx hb dX7_closeNow_19 hl (k := 0) rfl (by decide) (by decide) rfl (fun ls hl => ?_)
  refine lv_goto (tgt := 2) hx hb dX7_closeNow_22 (by decide) ?_
  refine lv_iload_n hx hb dX7_closeNow_2 rfl (lv_at hl 0 rfl) ?_
  refine lv_iconst (v := nI 4) hx hb dX7_closeNow_3 (by decide) ?_
  refine n_ige (tgt := 25) hx hb dX7_closeNow_4 (by decide) (by omega) (by omega) (fun h => absurd h (by decide)) (fun c4_2 => ?_)
  refine lv_aload_n hx hb dX7_closeNow_7 rfl (lv_at hl 1 rfl) ?_
  refine k_get S hK hP.1 rfl (fun _ h => List.mem_cons_of_mem _ (List.mem_append_right _ (h))) 0 (by decide) (List.mem_cons_of_mem _ (List.mem_append_left _ (List.mem_of_getElem? (i := 0) rfl))) rfl (v := .ref (o + 1)) rfl dX7_closeNow_8 ?_
  refine lv_iload_n hx hb dX7_closeNow_11 rfl (lv_at hl 0 rfl) ?_
  refine k_S (As := [.int (nI 2)]) (rest := [.ref (o + 1)]) S hK (c_X7_seller l E 2) gX7_closeNow_X7_seller rfl hd_X7_seller ⟨rfl, rfl⟩ ⟨Nat.le_of_ble_eq_true rfl, Nat.le_of_ble_eq_true rfl⟩ trivial rfl hl.1 rfl (Nat.le_of_ble_eq_true rfl) dX7_closeNow_12 ⟨Nat.le_of_ble_eq_true rfl, Nat.le_of_ble_eq_true rfl⟩ ?_
  refine lv_iconst (v := nI 1) hx hb dX7_closeNow_15 (by decide) ?_
  refine n_iadd (n := 47) hx hb dX7_closeNow_16 (by omega) ?_
  refine lv_iconst (v := nI 0) hx hb dX7_closeNow_17 (by decide) ?_
  refine md_ast_z hx hb hK hP (by omega) hS (fun _ h => h) dX7_closeNow_18 (fun H locs hP zH fH hS => ?_)
  refine lv_iinc (v := nI 3) (lv' := [(1, .int (nI 3)), (0, .ref o)]) hx hb dX7_closeNow_19 hl (k := 0) rfl (by decide) (by decide) rfl (fun ls hl => ?_)
  refine lv_goto (tgt := 2) hx hb dX7_closeNow_22 (by decide) ?_
  refine lv_iload_n hx hb dX7_closeNow_2 rfl (lv_at hl 0 rfl) ?_
  refine lv_iconst (v := nI 4) hx hb dX7_closeNow_3 (by decide) ?_
  refine n_ige (tgt := 25) hx hb dX7_closeNow_4 (by decide) (by omega) (by omega) (fun h => absurd h (by decide)) (fun c4_3 => ?_)
  refine lv_aload_n hx hb dX7_closeNow_7 rfl (lv_at hl 1 rfl) ?_
  refine k_get S hK hP.1 rfl (fun _ h => List.mem_cons_of_mem _ (List.mem_append_right _ (h))) 0 (by decide) (List.mem_cons_of_mem _ (List.mem_append_left _ (List.mem_of_getElem? (i := 0) rfl))) rfl (v := .ref (o + 1)) rfl dX7_closeNow_8 ?_
  refine lv_iload_n hx hb dX7_closeNow_11 rfl (lv_at hl 0 rfl) ?_
  refine k_S (As := [.int (nI 3)]) (rest := [.ref (o + 1)]) S hK (c_X7_seller l E 3) gX7_closeNow_X7_seller rfl hd_X7_seller ⟨rfl, rfl⟩ ⟨Nat.le_of_ble_eq_true rfl, Nat.le_of_ble_eq_true rfl⟩ trivial rfl hl.1 rfl (Nat.le_of_ble_eq_true rfl) dX7_closeNow_12 ⟨Nat.le_of_ble_eq_true rfl, Nat.le_of_ble_eq_true rfl⟩ ?_
  refine lv_iconst (v := nI 1) hx hb dX7_closeNow_15 (by decide) ?_
  refine n_iadd (n := 55) hx hb dX7_closeNow_16 (by omega) ?_
  refine lv_iconst (v := nI 0) hx hb dX7_closeNow_17 (by decide) ?_
  refine md_ast_z hx hb hK hP (by omega) hS (fun _ h => h) dX7_closeNow_18 (fun H locs hP zH fH hS => ?_)
  refine lv_iinc (v := nI 4) (lv' := [(1, .int (nI 4)), (0, .ref o)]) hx hb dX7_closeNow_19 hl (k := 0) rfl (by decide) (by decide) rfl (fun ls hl => ?_)
  refine lv_goto (tgt := 2) hx hb dX7_closeNow_22 (by decide) ?_
  refine lv_iload_n hx hb dX7_closeNow_2 rfl (lv_at hl 0 rfl) ?_
  refine lv_iconst (v := nI 4) hx hb dX7_closeNow_3 (by decide) ?_
  refine n_ige (tgt := 25) hx hb dX7_closeNow_4 (by decide) (by omega) (by omega) (fun c4_4 => ?_) (fun h => absurd h (by decide))
  refine lv_aload_n hx hb dX7_closeNow_25 rfl (lv_at hl 1 rfl) ?_
  refine k_get S hK hP.1 rfl (fun _ h => List.mem_cons_of_mem _ (List.mem_append_right _ (h))) 0 (by decide) (List.mem_cons_of_mem _ (List.mem_append_left _ (List.mem_of_getElem? (i := 0) rfl))) rfl (v := .ref (o + 1)) rfl dX7_closeNow_26 ?_
  refine lv_iconst (v := nI 5) hx hb dX7_closeNow_29 (by decide) ?_
  refine lv_dup2_11 hx hb dX7_closeNow_30 rfl rfl ?_
  refine k_iald hx hb hK hP.2.1 (by omega) (by decide) (v := z 5) ((upd_n (by omega)).trans ((upd_n (by omega)).trans ((upd_n (by omega)).trans ((upd_n (by omega)).trans (rfl))))) dX7_closeNow_31 ?_
  refine lv_iconst (v := nI 1) hx hb dX7_closeNow_32 (by decide) ?_
  refine lv_iadd hx hb dX7_closeNow_33 ?_
  refine md_ast_z hx hb hK hP (by omega) hS (fun _ h => h) dX7_closeNow_34 (fun H locs hP zH fH hS => ?_)
  refine lv_iconst (v := nI 0) hx hb dX7_closeNow_35 (by decide) ?_
  refine lv_istore_n (lv' := [(1, .int (nI 0)), (0, .ref o)]) hx hb dX7_closeNow_36 rfl hl (by decide) rfl (fun ls hl => ?_)
  refine lv_iconst (v := nI 0) hx hb dX7_closeNow_37 (by decide) ?_
  refine lv_istore_n (lv' := [(2, .int (nI 0)), (1, .int (nI 0)), (0, .ref o)]) hx hb dX7_closeNow_38 rfl hl (by decide) rfl (fun ls hl => ?_)
  refine lv_aload_n hx hb dX7_closeNow_39 rfl (lv_at hl 2 rfl) ?_
  refine lv_iload_n hx hb dX7_closeNow_40 rfl (lv_at hl 1 rfl) ?_
  refine k_V (As := [.int (nI 0)]) (rest := []) S hK (c_X7_nextClaim l E o (upd (upd (upd (upd (upd z 31 (nI 0)) 39 (nI 0)) 47 (nI 0)) 55 (nI 0)) 5 ((z 5) + (nI 1))) w (nI 0) (iv_clz hI)) gX7_closeNow_X7_nextClaim rfl hd_X7_nextClaim ⟨rfl, rfl⟩ ⟨Nat.le_of_ble_eq_true rfl, Nat.le_of_ble_eq_true rfl⟩ (k_recv hK hP.1 rfl) hP rfl hl.1 rfl (Nat.le_of_ble_eq_true rfl) dX7_closeNow_41 ⟨Nat.le_of_ble_eq_true rfl, Nat.le_of_ble_eq_true rfl⟩ ?_
  refine lv_istore_n (lv' := [(3, .int (oI (nc (upd (upd (upd (upd (upd z 31 (nI 0)) 39 (nI 0)) 47 (nI 0)) 55 (nI 0)) 5 ((z 5) + (nI 1))) (nI 0) (cn (upd (upd (upd (upd (upd z 31 (nI 0)) 39 (nI 0)) 47 (nI 0)) 55 (nI 0)) 5 ((z 5) + (nI 1))))))), (2, .int (nI 0)), (1, .int (nI 0)), (0, .ref o)]) hx hb dX7_closeNow_44 rfl hl (by decide) rfl (fun ls hl => ?_)
  have hl : lv_has ls 4 [(0, .ref o), (1, .int (nI 0)), (2, .int (nI 0)), (3, .int (oI (nc (clz z) (nI 0) (cn (clz z)))))] := by
    have h9 := lv_sub (l' := [(0, .ref o), (1, .int (nI 0)), (2, .int (nI 0)), (3, .int (oI (nc (upd (upd (upd (upd (upd z 31 (nI 0)) 39 (nI 0)) 47 (nI 0)) 55 (nI 0)) 5 ((z 5) + (nI 1))) (nI 0) (cn (upd (upd (upd (upd (upd z 31 (nI 0)) 39 (nI 0)) 47 (nI 0)) 55 (nI 0)) 5 ((z 5) + (nI 1)))))))]) hl [3, 2, 1, 0] rfl
    rw [show (.int (oI (nc (clz z) (nI 0) (cn (clz z)))) : Value) = .int (oI (nc (upd (upd (upd (upd (upd z 31 (nI 0)) 39 (nI 0)) 47 (nI 0)) 55 (nI 0)) 5 ((z 5) + (nI 1))) (nI 0) (cn (upd (upd (upd (upd (upd z 31 (nI 0)) 39 (nI 0)) 47 (nI 0)) 55 (nI 0)) 5 ((z 5) + (nI 1)))))) from congrArg Value.int rfl]
    exact h9
  exact J45 (20 + 1) (clz z) (nI 0) (nI 0) 20 (nc (clz z) (nI 0) (cn (clz z))) (iv_clz hI) rfl (Nat.le_trans (cntb_le _) (iv_c (iv_clz hI))) rfl (by omega) _ _ (show md E o (clz z) w _ from hP) hS _ hl
def rm_X7_closedOf : Room := { frames := 4, cells := 0, slots := 0, locals := 88 }
theorem hd_X7_closedOf : k_hd1 yX7_closedOf RX7 0 := by decide +kernel
set_option maxHeartbeats 4000000 in
set_option maxRecDepth 100000 in
theorem c_X7_closedOf (l : Launch) (E : ke_E) (o : Nat) (z : Nat → Int32) (w : md_w) (hI : iv z) : Met l yX7_closedOf wsX7_closedOf rm_X7_closedOf (kp E [.ref o] (md E o z w)) (qm (some (.int (cloZ z).2)) (bl o 6) (md E o z (w_aside w (asI (q_aside w) z 322)))) 0 0 (bl o 6) := by
  refine k_hd (cc := cX7_closedOf) (maxL := 2) (ret := (some .int)) (by decide) rfl (Nat.le_of_ble_eq_true rfl) ?_
  intro p e s m below meth c ls S hr hlk hnm hK hP hl
  have hx := S.1
  have hb := S.2.1
  have hts := S.2.2.2.2
  have hP : md E o z w s.heap := hP
  have hl : lv_has ls 2 [(0, .ref o)] := hl
  have hS : va_S (bl o 6) s.heap s.heap [] := va_S.rf
  have hcn := iv_c hI
  refine lv_aload_n hx hb dX7_closedOf_0 rfl (lv_at hl 0 rfl) ?_
  refine k_VM (As := []) (rest := []) S hK (c_X7_putAside l E o z w) gX7_closedOf_X7_putAside rfl hd_X7_putAside ⟨rfl, rfl⟩ ⟨Nat.le_of_ble_eq_true rfl, Nat.le_of_ble_eq_true rfl⟩ (k_recv hK hP.1 rfl) hP rfl hl.1 rfl (Nat.le_of_ble_eq_true rfl) dX7_closedOf_1 ⟨Nat.le_of_ble_eq_true rfl, Nat.le_of_ble_eq_true rfl⟩ hS (fun q h => h) (fun q h => h) (fun H locs hQ zH fH hS => ?_)
  have hP := hQ
  refine lv_aload_n hx hb dX7_closedOf_4 rfl (lv_at hl 0 rfl) ?_
  refine k_VM (As := []) (rest := []) S hK (c_X7_closeNow l E o z (w_aside w (asI (q_aside w) z 322)) hI) gX7_closedOf_X7_closeNow rfl hd_X7_closeNow ⟨rfl, rfl⟩ ⟨Nat.le_of_ble_eq_true rfl, Nat.le_of_ble_eq_true rfl⟩ (k_recv hK hP.1 rfl) hP rfl hl.1 rfl (Nat.le_of_ble_eq_true rfl) dX7_closedOf_5 ⟨Nat.le_of_ble_eq_true rfl, Nat.le_of_ble_eq_true rfl⟩ hS (fun q h => h) (fun q h => h) (fun H locs hQ zH fH hS => ?_)
  have hP := hQ
  refine lv_istore_n (lv' := [(1, .int (cloZ z).2), (0, .ref o)]) hx hb dX7_closedOf_8 rfl hl (by decide) rfl (fun ls hl => ?_)
  refine lv_aload_n hx hb dX7_closedOf_9 rfl (lv_at hl 1 rfl) ?_
  refine k_VM (As := []) (rest := []) S hK (c_X7_putBack l E o (cloZ z).1 (w_aside w (asI (q_aside w) z 322))) gX7_closedOf_X7_putBack rfl hd_X7_putBack ⟨rfl, rfl⟩ ⟨Nat.le_of_ble_eq_true rfl, Nat.le_of_ble_eq_true rfl⟩ (k_recv hK hP.1 rfl) hP rfl hl.1 rfl (Nat.le_of_ble_eq_true rfl) dX7_closedOf_10 ⟨Nat.le_of_ble_eq_true rfl, Nat.le_of_ble_eq_true rfl⟩ hS (fun q h => h) (fun q h => h) (fun H locs hQ zH fH hS => ?_)
  have hP := hQ
  refine lv_iload_n hx hb dX7_closedOf_13 rfl (lv_at hl 0 rfl) ?_
  exact k_iretM hx hb hr hlk dX7_closedOf_14 hS (show md E o z (w_aside w (asI (q_aside w) z 322)) _ from (md_z hP (fun j hj => (show asI (cloZ z).1 (asI (q_aside w) z 322) 322 j = z j by simp [asI, hj]).symm))) (rfl)
