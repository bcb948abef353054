def rm_L_product : Room := { frames := 5, cells := 0, slots := 0, locals := 111 }
theorem hd_L_product : k_hd1 yL_product RL 5 := by decide +kernel
set_option maxHeartbeats 4000000 in
set_option maxRecDepth 100000 in
theorem c_L_product (l : Launch) (hlS : l.stackTraces = false) (E : ke_E) (A : Nat → Prop) (o : Nat) (z : Nat → Int32) (sn : Nat) (r : Nat → Int32) (bn : Nat) (f : Nat → Int32) (q : Nat) (y : Int32) (v : Nat) (w9 : Nat) (x9 : Int64) (hI : iv z) (hn6 : sn ≤ 6) (hq6 : q < 6) (hv4 : v < 4) (h1 : nI 1 ≤ y ∧ y ≤ nI 9999) (hw9 : w9 + 1 ≤ o ∨ o + 477 ≤ w9) : Met l yL_product wsL_product rm_L_product (kpx E A [.ref o, .int (nI q), .int y, .int (nI v), .ref w9] (fun H => gg E o H ∧ dz E (o + 1) z H ∧ tr E (o + 60) H ∧ hy E (o + 119) sn r H ∧ bo E (o + 475) bn (auE (au f bn)) (auS (au f bn)) f H ∧ la E w9 x9 H)) (qm (some (.int (nI 0))) (ow o w9) (fun H => gg E o H ∧ dz E (o + 1) (pdZ z q y v) H ∧ tr E (o + 60) H ∧ hy E (o + 119) (svN sn) (svR r z sn) H ∧ bo E (o + 475) bn (auE (au f bn)) (auS (au f bn)) f H ∧ la E w9 ((z (3*q + 12)).toInt64) H)) 0 0 (ow o w9) := by
  refine w_hd (cc := cL_product) (maxL := 6) (ret := (some .int)) (hh := [(0, 12, 15, 13), (0, 12, 19, 15)]) (by decide) rfl (Nat.le_of_ble_eq_true rfl) ?_
  intro p e s m below meth c ls S hr hlk htb hK hX hP hl
  have hx := S.1
  have hb := S.2.1
  have hts := S.2.2.2.2
  obtain ⟨hP0, hP1, hP2, hP3, hP4, hP5⟩ := hP
  have hl : lv_has ls 6 [(0, .ref o), (1, .int (nI q)), (2, .int y), (3, .int (nI v)), (4, .ref w9)] := hl
  have hS : va_S (ow o w9) s.heap s.heap [] := va_S.rf
  refine lv_aload hx hb dL_product_0 (lv_at hl 4 rfl) ?_
  refine lv_iconst (v := nI 0) hx hb dL_product_2 (by decide) ?_
  refine lv_aload_n hx hb dL_product_3 rfl (lv_at hl 0 rfl) ?_
  refine lv_iload_n hx hb dL_product_4 rfl (lv_at hl 1 rfl) ?_
  refine lv_iload_n hx hb dL_product_5 rfl (lv_at hl 2 rfl) ?_
  refine lv_iload_n hx hb dL_product_6 rfl (lv_at hl 3 rfl) ?_
  refine k_VM (As := [.int (nI q), .int y, .int (nI v)]) (rest := [.int (nI 0), .ref w9]) S hK (c_X6_product l E o z sn r bn f q y v hI hn6 hq6 hv4 h1) gL_product_X6_product rfl hd_X6_product ⟨rfl, rfl⟩ ⟨Nat.le_of_ble_eq_true rfl, Nat.le_of_ble_eq_true rfl⟩ (k_recv hK hP0 rfl) ⟨hP0, hP1, hP2, hP3, hP4⟩ rfl hl.1 rfl (Nat.le_of_ble_eq_true rfl) dL_product_7 ⟨Nat.le_of_ble_eq_true rfl, Nat.le_of_ble_eq_true rfl⟩ hS (fun q h => Or.inl h) (fun q h => Or.inl h) (fun H locs hQ zH fH hS => ?_)
  obtain ⟨hR0, hR1, hR2, hR3, hR4⟩ := hQ
  have hV1 := hR0
  have hV2 := hR1
  have hV3 := hR2
  have hV4 := hR3
  have hV5 := hR4
  have hk2 := la_fr2 hP5 (fun q hz hq => fH q hz (bl_ne hq (by omega)))
  refine lv_i2l hx hb dL_product_10 rfl ?_
  refine la_ast hx hb hK hk2 hS (Or.inr ⟨by omega, by omega⟩) dL_product_11 (fun H locs hP zH fH hS => ?_)
  have hV6 := hP
  have hk0 := bo_fr2 hV5 (fun q _ hq => fH q (bl_ne hq (by omega)))
  have hk1 := gg_fr2 hV1 (fun q _ hq => fH q (bl_ne hq (by omega)))
  have hk3 := dz_fr2 hV2 (fun q _ hq => fH q (bl_ne hq (by omega)))
  have hk4 := tr_fr2 hV3 (fun q _ hq => fH q (bl_ne hq (by omega)))
  have hk5 := hy_fr2 hV4 (fun q _ hq => fH q (bl_ne hq (by omega)))
  refine lv_goto (tgt := 23) hx hb dL_product_12 (by decide) ?_
  refine lv_iconst (v := nI 0) hx hb dL_product_23 (by decide) ?_
  exact k_iretM hx hb hr hlk dL_product_24 hS ⟨hk1, hk3, hk4, hk5, hk0, hV6⟩ (rfl)
def ry_L_product_1 : Room := { frames := 8, cells := 1, slots := 6, locals := 128 }
set_option maxHeartbeats 4000000 in
set_option maxRecDepth 100000 in
theorem y_L_product_1 (l : Launch) (hlS : l.stackTraces = false) (E : ke_E) (A : Nat → Prop) (o : Nat) (z : Nat → Int32) (x : Int32) (y : Int32) (w : Int32) (w9 : Nat) (x9 : Int64) (hI : iv z) (h1 : ¬ inR x 6) (hw9 : w9 + 1 ≤ o ∨ o + 477 ≤ w9) : Met l yL_product wsL_product ry_L_product_1 (kpx E A [.ref o, .int x, .int y, .int w, .ref w9] (fun H => gg E o H ∧ dz E (o + 1) z H ∧ la E w9 x9 H)) (qm (some (.int (nI 1))) (bl w9 1) (la E w9 x9)) 1 6 (bl w9 1) := by
  refine w_hd (cc := cL_product) (maxL := 6) (ret := (some .int)) (hh := [(0, 12, 15, 13), (0, 12, 19, 15)]) (by decide) rfl (Nat.le_of_ble_eq_true rfl) ?_
  intro p e s m below meth c ls S hr hlk htb hK hX hP hl
  have hx := S.1
  have hb := S.2.1
  have hts := S.2.2.2.2
  obtain ⟨hP0, hP1, hP2⟩ := hP
  have hl : lv_has ls 6 [(0, .ref o), (1, .int x), (2, .int y), (3, .int w), (4, .ref w9)] := hl
  have hS : va_S (bl w9 1) s.heap s.heap [] := va_S.rf
  refine lv_aload hx hb dL_product_0 (lv_at hl 4 rfl) ?_
  refine lv_iconst (v := nI 0) hx hb dL_product_2 (by decide) ?_
  refine lv_aload_n hx hb dL_product_3 rfl (lv_at hl 0 rfl) ?_
  refine lv_iload_n hx hb dL_product_4 rfl (lv_at hl 1 rfl) ?_
  refine lv_iload_n hx hb dL_product_5 rfl (lv_at hl 2 rfl) ?_
  refine lv_iload_n hx hb dL_product_6 rfl (lv_at hl 3 rfl) ?_
  refine w_V (As := [.int x, .int y, .int w]) (rest := [.int (nI 0), .ref w9]) (hd9 := 15) (A2 := bl w9 1) (pre := []) (x := ⟨0, 12, 15, 13⟩) (suf := [⟨0, 12, 19, 15⟩]) S hK hX (x_X6_product_1 l hlS E A o z x y w hI h1) gL_product_X6_product rfl hd_X6_product ⟨rfl, rfl⟩ ⟨Nat.le_of_ble_eq_true rfl, Nat.le_of_ble_eq_true rfl⟩ (k_recv hK hP0 rfl) ⟨hP0, hP1⟩ rfl hl.1 rfl (Nat.le_of_ble_eq_true rfl) dL_product_7 ⟨Nat.le_of_ble_eq_true rfl, Nat.le_of_ble_eq_true rfl⟩ (by decide) (htb.trans rfl) (fun z hz => by cases hz) (by decide) (by decide) (List.mem_cons_of_mem _ (List.mem_append_left _ (List.mem_append_left _ (List.mem_append_left _ (List.mem_append_left _ (List.mem_append_left _ (List.mem_append_left _ (List.mem_append_left _ (List.mem_append_left _ (List.mem_append_left _ (List.mem_of_getElem? (i := 0) rfl))))))))))) rfl (fun q9 H locs zH fH hS => ?_)
  have hkG := gg_fr2 hP0 (fun q h9 _ => fH q h9)
  have hkO := la_fr2 hP2 (fun q h9 _ => fH q h9)
  have hkQ := dz_fr2 hP1 (fun q h9 _ => fH q h9)
  refine lv_astore (lv' := [(5, .ref q9), (0, .ref o), (1, .int x), (2, .int y), (3, .int w), (4, .ref w9)]) hx hb dL_product_15 hl (by decide) rfl (fun ls hl => ?_)
  refine lv_iconst (v := nI 1) hx hb dL_product_17 (by decide) ?_
  exact k_iretM hx hb hr hlk dL_product_18 hS hkO (rfl)
def ry_L_product_2 : Room := { frames := 8, cells := 1, slots := 6, locals := 128 }
set_option maxHeartbeats 4000000 in
set_option maxRecDepth 100000 in
theorem y_L_product_2 (l : Launch) (hlS : l.stackTraces = false) (E : ke_E) (A : Nat → Prop) (o : Nat) (z : Nat → Int32) (q : Nat) (y : Int32) (x : Int32) (w9 : Nat) (x9 : Int64) (hI : iv z) (hq6 : q < 6) (h1 : ¬ inR x 4) (hw9 : w9 + 1 ≤ o ∨ o + 477 ≤ w9) : Met l yL_product wsL_product ry_L_product_2 (kpx E A [.ref o, .int (nI q), .int y, .int x, .ref w9] (fun H => gg E o H ∧ dz E (o + 1) z H ∧ la E w9 x9 H)) (qm (some (.int (nI 1))) (bl w9 1) (la E w9 x9)) 1 6 (bl w9 1) := by
  refine w_hd (cc := cL_product) (maxL := 6) (ret := (some .int)) (hh := [(0, 12, 15, 13), (0, 12, 19, 15)]) (by decide) rfl (Nat.le_of_ble_eq_true rfl) ?_
  intro p e s m below meth c ls S hr hlk htb hK hX hP hl
  have hx := S.1
  have hb := S.2.1
  have hts := S.2.2.2.2
  obtain ⟨hP0, hP1, hP2⟩ := hP
  have hl : lv_has ls 6 [(0, .ref o), (1, .int (nI q)), (2, .int y), (3, .int x), (4, .ref w9)] := hl
  have hS : va_S (bl w9 1) s.heap s.heap [] := va_S.rf
  refine lv_aload hx hb dL_product_0 (lv_at hl 4 rfl) ?_
  refine lv_iconst (v := nI 0) hx hb dL_product_2 (by decide) ?_
  refine lv_aload_n hx hb dL_product_3 rfl (lv_at hl 0 rfl) ?_
  refine lv_iload_n hx hb dL_product_4 rfl (lv_at hl 1 rfl) ?_
  refine lv_iload_n hx hb dL_product_5 rfl (lv_at hl 2 rfl) ?_
  refine lv_iload_n hx hb dL_product_6 rfl (lv_at hl 3 rfl) ?_
  refine w_V (As := [.int (nI q), .int y, .int x]) (rest := [.int (nI 0), .ref w9]) (hd9 := 15) (A2 := bl w9 1) (pre := []) (x := ⟨0, 12, 15, 13⟩) (suf := [⟨0, 12, 19, 15⟩]) S hK hX (x_X6_product_2 l hlS E A o z q y x hI hq6 h1) gL_product_X6_product rfl hd_X6_product ⟨rfl, rfl⟩ ⟨Nat.le_of_ble_eq_true rfl, Nat.le_of_ble_eq_true rfl⟩ (k_recv hK hP0 rfl) ⟨hP0, hP1⟩ rfl hl.1 rfl (Nat.le_of_ble_eq_true rfl) dL_product_7 ⟨Nat.le_of_ble_eq_true rfl, Nat.le_of_ble_eq_true rfl⟩ (by decide) (htb.trans rfl) (fun z hz => by cases hz) (by decide) (by decide) (List.mem_cons_of_mem _ (List.mem_append_left _ (List.mem_append_left _ (List.mem_append_left _ (List.mem_append_left _ (List.mem_append_left _ (List.mem_append_left _ (List.mem_append_left _ (List.mem_append_left _ (List.mem_append_left _ (List.mem_of_getElem? (i := 0) rfl))))))))))) rfl (fun q9 H locs zH fH hS => ?_)
  have hkG := gg_fr2 hP0 (fun q h9 _ => fH q h9)
  have hkO := la_fr2 hP2 (fun q h9 _ => fH q h9)
  have hkQ := dz_fr2 hP1 (fun q h9 _ => fH q h9)
  refine lv_astore (lv' := [(5, .ref q9), (0, .ref o), (1, .int (nI q)), (2, .int y), (3, .int x), (4, .ref w9)]) hx hb dL_product_15 hl (by decide) rfl (fun ls hl => ?_)
  refine lv_iconst (v := nI 1) hx hb dL_product_17 (by decide) ?_
  exact k_iretM hx hb hr hlk dL_product_18 hS hkO (rfl)
def ry_L_product_3 : Room := { frames := 8, cells := 1, slots := 6, locals := 129 }
set_option maxHeartbeats 4000000 in
set_option maxRecDepth 100000 in
theorem y_L_product_3 (l : Launch) (hlS : l.stackTraces = false) (E : ke_E) (A : Nat → Prop) (o : Nat) (z : Nat → Int32) (q : Nat) (y : Int32) (v : Nat) (w9 : Nat) (x9 : Int64) (hI : iv z) (hq6 : q < 6) (hv4 : v < 4) (h1 : ¬ (nI 1 ≤ y ∧ y ≤ nI 9999)) (hw9 : w9 + 1 ≤ o ∨ o + 477 ≤ w9) : Met l yL_product wsL_product ry_L_product_3 (kpx E A [.ref o, .int (nI q), .int y, .int (nI v), .ref w9] (fun H => gg E o H ∧ dz E (o + 1) z H ∧ la E w9 x9 H)) (qm (some (.int (nI 2))) (bl w9 1) (la E w9 x9)) 1 6 (bl w9 1) := by
  refine w_hd (cc := cL_product) (maxL := 6) (ret := (some .int)) (hh := [(0, 12, 15, 13), (0, 12, 19, 15)]) (by decide) rfl (Nat.le_of_ble_eq_true rfl) ?_
  intro p e s m below meth c ls S hr hlk htb hK hX hP hl
  have hx := S.1
  have hb := S.2.1
  have hts := S.2.2.2.2
  obtain ⟨hP0, hP1, hP2⟩ := hP
  have hl : lv_has ls 6 [(0, .ref o), (1, .int (nI q)), (2, .int y), (3, .int (nI v)), (4, .ref w9)] := hl
  have hS : va_S (bl w9 1) s.heap s.heap [] := va_S.rf
  refine lv_aload hx hb dL_product_0 (lv_at hl 4 rfl) ?_
  refine lv_iconst (v := nI 0) hx hb dL_product_2 (by decide) ?_
  refine lv_aload_n hx hb dL_product_3 rfl (lv_at hl 0 rfl) ?_
  refine lv_iload_n hx hb dL_product_4 rfl (lv_at hl 1 rfl) ?_
  refine lv_iload_n hx hb dL_product_5 rfl (lv_at hl 2 rfl) ?_
  refine lv_iload_n hx hb dL_product_6 rfl (lv_at hl 3 rfl) ?_
  refine w_V (As := [.int (nI q), .int y, .int (nI v)]) (rest := [.int (nI 0), .ref w9]) (hd9 := 19) (A2 := bl w9 1) (pre := [⟨0, 12, 15, 13⟩]) (x := ⟨0, 12, 19, 15⟩) (suf := []) S hK hX (x_X6_product_3 l hlS E A o z q y v hI hq6 hv4 h1) gL_product_X6_product rfl hd_X6_product ⟨rfl, rfl⟩ ⟨Nat.le_of_ble_eq_true rfl, Nat.le_of_ble_eq_true rfl⟩ (k_recv hK hP0 rfl) ⟨hP0, hP1⟩ rfl hl.1 rfl (Nat.le_of_ble_eq_true rfl) dL_product_7 ⟨Nat.le_of_ble_eq_true rfl, Nat.le_of_ble_eq_true rfl⟩ (by decide) (htb.trans rfl) (fun z hz => by
      rcases List.mem_cons.mp hz with h | hz
      · subst h; exact ⟨by decide, "java/lang/IndexOutOfBoundsException", List.mem_cons_of_mem _ (List.mem_append_left _ (List.mem_append_left _ (List.mem_append_left _ (List.mem_append_left _ (List.mem_append_left _ (List.mem_append_left _ (List.mem_append_left _ (List.mem_append_left _ (List.mem_append_left _ (List.mem_of_getElem? (i := 0) rfl)))))))))), by decide, by decide⟩
      cases hz) (by decide) (by decide) (List.mem_cons_of_mem _ (List.mem_append_left _ (List.mem_append_left _ (List.mem_append_left _ (List.mem_append_left _ (List.mem_append_left _ (List.mem_append_left _ (List.mem_append_left _ (List.mem_append_left _ (List.mem_append_left _ (List.mem_of_getElem? (i := 1) rfl))))))))))) rfl (fun q9 H locs zH fH hS => ?_)
  have hkG := gg_fr2 hP0 (fun q h9 _ => fH q h9)
  have hkO := la_fr2 hP2 (fun q h9 _ => fH q h9)
  have hkQ := dz_fr2 hP1 (fun q h9 _ => fH q h9)
  refine lv_astore (lv' := [(5, .ref q9), (0, .ref o), (1, .int (nI q)), (2, .int y), (3, .int (nI v)), (4, .ref w9)]) hx hb dL_product_19 hl (by decide) rfl (fun ls hl => ?_)
  refine lv_iconst (v := nI 2) hx hb dL_product_21 (by decide) ?_
  exact k_iretM hx hb hr hlk dL_product_22 hS hkO (rfl)
def rm_L_recall_0 : Room := { frames := 5, cells := 0, slots := 0, locals := 109 }
theorem hd_L_recall : k_hd1 yL_recall RL 4 := by decide +kernel
set_option maxHeartbeats 4000000 in
set_option maxRecDepth 100000 in
theorem c_L_recall_0 (l : Launch) (hlS : l.stackTraces = false) (E : ke_E) (A : Nat → Prop) (o : Nat) (z : Nat → Int32) (sn : Nat) (r : Nat → Int32) (bn : Nat) (f : Nat → Int32) (q : Nat) (w9 : Nat) (x9 : Int64) (hI : iv z) (hn6 : sn ≤ 6) (hq6 : q < 6) (hw9 : w9 + 1 ≤ o ∨ o + 477 ≤ w9) : Met l yL_recall wsL_recall rm_L_recall_0 (kpx E A [.ref o, .int (nI q), .int (nI 0), .ref w9] (fun H => gg E o H ∧ dz E (o + 1) z H ∧ tr E (o + 60) H ∧ hy E (o + 119) sn r H ∧ bo E (o + 475) bn (auE (au f bn)) (auS (au f bn)) f H ∧ la E w9 x9 H)) (qm (some (.int (nI 0))) (ow o w9) (fun H => gg E o H ∧ dz E (o + 1) (rcZ z q 0) H ∧ tr E (o + 60) H ∧ hy E (o + 119) (svN sn) (svR r z sn) H ∧ bo E (o + 475) bn (auE (au f bn)) (auS (au f bn)) f H ∧ la E w9 ((hlN (rcZ z q 0) (cn z)).toInt64) H)) 0 0 (ow o w9) := by
  refine w_hd (cc := cL_recall) (maxL := 5) (ret := (some .int)) (hh := [(0, 10, 13, 13)]) (by decide) rfl (Nat.le_of_ble_eq_true rfl) ?_
  intro p e s m below meth c ls S hr hlk htb hK hX hP hl
  have hx := S.1
  have hb := S.2.1
  have hts := S.2.2.2.2
  obtain ⟨hP0, hP1, hP2, hP3, hP4, hP5⟩ := hP
  have hl : lv_has ls 5 [(0, .ref o), (1, .int (nI q)), (2, .int (nI 0)), (3, .ref w9)] := hl
  have hS : va_S (ow o w9) s.heap s.heap [] := va_S.rf
  refine lv_aload_n hx hb dL_recall_0 rfl (lv_at hl 3 rfl) ?_
  refine lv_iconst (v := nI 0) hx hb dL_recall_1 (by decide) ?_
  refine lv_aload_n hx hb dL_recall_2 rfl (lv_at hl 0 rfl) ?_
  refine lv_iload_n hx hb dL_recall_3 rfl (lv_at hl 1 rfl) ?_
  refine lv_iload_n hx hb dL_recall_4 rfl (lv_at hl 2 rfl) ?_
  refine k_VM (As := [.int (nI q), .int (nI 0)]) (rest := [.int (nI 0), .ref w9]) S hK (c_X6_recall_0 l E o z sn r bn f q hI hn6 hq6) gL_recall_X6_recall rfl hd_X6_recall ⟨rfl, rfl⟩ ⟨Nat.le_of_ble_eq_true rfl, Nat.le_of_ble_eq_true rfl⟩ (k_recv hK hP0 rfl) ⟨hP0, hP1, hP2, hP3, hP4⟩ rfl hl.1 rfl (Nat.le_of_ble_eq_true rfl) dL_recall_5 ⟨Nat.le_of_ble_eq_true rfl, Nat.le_of_ble_eq_true rfl⟩ hS (fun q h => Or.inl h) (fun q h => Or.inl h) (fun H locs hQ zH fH hS => ?_)
  obtain ⟨hR0, hR1, hR2, hR3, hR4⟩ := hQ
  have hV1 := hR0
  have hV2 := hR1
  have hV3 := hR2
  have hV4 := hR3
  have hV5 := hR4
  have hk2 := la_fr2 hP5 (fun q hz hq => fH q hz (bl_ne hq (by omega)))
  refine lv_i2l hx hb dL_recall_8 rfl ?_
  refine la_ast hx hb hK hk2 hS (Or.inr ⟨by omega, by omega⟩) dL_recall_9 (fun H locs hP zH fH hS => ?_)
  have hV6 := hP
  have hk0 := bo_fr2 hV5 (fun q _ hq => fH q (bl_ne hq (by omega)))
  have hk1 := gg_fr2 hV1 (fun q _ hq => fH q (bl_ne hq (by omega)))
  have hk3 := dz_fr2 hV2 (fun q _ hq => fH q (bl_ne hq (by omega)))
  have hk4 := tr_fr2 hV3 (fun q _ hq => fH q (bl_ne hq (by omega)))
  have hk5 := hy_fr2 hV4 (fun q _ hq => fH q (bl_ne hq (by omega)))
  refine lv_goto (tgt := 17) hx hb dL_recall_10 (by decide) ?_
  refine lv_iconst (v := nI 0) hx hb dL_recall_17 (by decide) ?_
  exact k_iretM hx hb hr hlk dL_recall_18 hS ⟨hk1, hk3, hk4, hk5, hk0, hV6⟩ (rfl)
def rm_L_recall_1 : Room := { frames := 5, cells := 0, slots := 0, locals := 109 }
set_option maxHeartbeats 4000000 in
set_option maxRecDepth 100000 in
theorem c_L_recall_1 (l : Launch) (hlS : l.stackTraces = false) (E : ke_E) (A : Nat → Prop) (o : Nat) (z : Nat → Int32) (sn : Nat) (r : Nat → Int32) (bn : Nat) (f : Nat → Int32) (q : Nat) (w9 : Nat) (x9 : Int64) (hI : iv z) (hn6 : sn ≤ 6) (hq6 : q < 6) (hw9 : w9 + 1 ≤ o ∨ o + 477 ≤ w9) : Met l yL_recall wsL_recall rm_L_recall_1 (kpx E A [.ref o, .int (nI q), .int (nI 1), .ref w9] (fun H => gg E o H ∧ dz E (o + 1) z H ∧ tr E (o + 60) H ∧ hy E (o + 119) sn r H ∧ bo E (o + 475) bn (auE (au f bn)) (auS (au f bn)) f H ∧ la E w9 x9 H)) (qm (some (.int (nI 0))) (ow o w9) (fun H => gg E o H ∧ dz E (o + 1) (rcZ z q 1) H ∧ tr E (o + 60) H ∧ hy E (o + 119) (svN sn) (svR r z sn) H ∧ bo E (o + 475) bn (auE (au f bn)) (auS (au f bn)) f H ∧ la E w9 ((hlN (rcZ z q 1) (cn z)).toInt64) H)) 0 0 (ow o w9) := by
  refine w_hd (cc := cL_recall) (maxL := 5) (ret := (some .int)) (hh := [(0, 10, 13, 13)]) (by decide) rfl (Nat.le_of_ble_eq_true rfl) ?_
  intro p e s m below meth c ls S hr hlk htb hK hX hP hl
  have hx := S.1
  have hb := S.2.1
  have hts := S.2.2.2.2
  obtain ⟨hP0, hP1, hP2, hP3, hP4, hP5⟩ := hP
  have hl : lv_has ls 5 [(0, .ref o), (1, .int (nI q)), (2, .int (nI 1)), (3, .ref w9)] := hl
  have hS : va_S (ow o w9) s.heap s.heap [] := va_S.rf
  refine lv_aload_n hx hb dL_recall_0 rfl (lv_at hl 3 rfl) ?_
  refine lv_iconst (v := nI 0) hx hb dL_recall_1 (by decide) ?_
  refine lv_aload_n hx hb dL_recall_2 rfl (lv_at hl 0 rfl) ?_
  refine lv_iload_n hx hb dL_recall_3 rfl (lv_at hl 1 rfl) ?_
  refine lv_iload_n hx hb dL_recall_4 rfl (lv_at hl 2 rfl) ?_
  refine k_VM (As := [.int (nI q), .int (nI 1)]) (rest := [.int (nI 0), .ref w9]) S hK (c_X6_recall_1 l E o z sn r bn f q hI hn6 hq6) gL_recall_X6_recall rfl hd_X6_recall ⟨rfl, rfl⟩ ⟨Nat.le_of_ble_eq_true rfl, Nat.le_of_ble_eq_true rfl⟩ (k_recv hK hP0 rfl) ⟨hP0, hP1, hP2, hP3, hP4⟩ rfl hl.1 rfl (Nat.le_of_ble_eq_true rfl) dL_recall_5 ⟨Nat.le_of_ble_eq_true rfl, Nat.le_of_ble_eq_true rfl⟩ hS (fun q h => Or.inl h) (fun q h => Or.inl h) (fun H locs hQ zH fH hS => ?_)
  obtain ⟨hR0, hR1, hR2, hR3, hR4⟩ := hQ
  have hV1 := hR0
  have hV2 := hR1
  have hV3 := hR2
  have hV4 := hR3
  have hV5 := hR4
  have hk2 := la_fr2 hP5 (fun q hz hq => fH q hz (bl_ne hq (by omega)))
  refine lv_i2l hx hb dL_recall_8 rfl ?_
  refine la_ast hx hb hK hk2 hS (Or.inr ⟨by omega, by omega⟩) dL_recall_9 (fun H locs hP zH fH hS => ?_)
  have hV6 := hP
  have hk0 := bo_fr2 hV5 (fun q _ hq => fH q (bl_ne hq (by omega)))
  have hk1 := gg_fr2 hV1 (fun q _ hq => fH q (bl_ne hq (by omega)))
  have hk3 := dz_fr2 hV2 (fun q _ hq => fH q (bl_ne hq (by omega)))
  have hk4 := tr_fr2 hV3 (fun q _ hq => fH q (bl_ne hq (by omega)))
  have hk5 := hy_fr2 hV4 (fun q _ hq => fH q (bl_ne hq (by omega)))
  refine lv_goto (tgt := 17) hx hb dL_recall_10 (by decide) ?_
  refine lv_iconst (v := nI 0) hx hb dL_recall_17 (by decide) ?_
  exact k_iretM hx hb hr hlk dL_recall_18 hS ⟨hk1, hk3, hk4, hk5, hk0, hV6⟩ (rfl)
def ry_L_recall_1 : Room := { frames := 8, cells := 1, slots := 6, locals := 126 }
set_option maxHeartbeats 4000000 in
set_option maxRecDepth 100000 in
theorem y_L_recall_1 (l : Launch) (hlS : l.stackTraces = false) (E : ke_E) (A : Nat → Prop) (o : Nat) (z : Nat → Int32) (x : Int32) (y : Int32) (w9 : Nat) (x9 : Int64) (hI : iv z) (h1 : ¬ inR x 6) (hw9 : w9 + 1 ≤ o ∨ o + 477 ≤ w9) : Met l yL_recall wsL_recall ry_L_recall_1 (kpx E A [.ref o, .int x, .int y, .ref w9] (fun H => gg E o H ∧ dz E (o + 1) z H ∧ la E w9 x9 H)) (qm (some (.int (nI 1))) (bl w9 1) (la E w9 x9)) 1 6 (bl w9 1) := by
  refine w_hd (cc := cL_recall) (maxL := 5) (ret := (some .int)) (hh := [(0, 10, 13, 13)]) (by decide) rfl (Nat.le_of_ble_eq_true rfl) ?_
  intro p e s m below meth c ls S hr hlk htb hK hX hP hl
  have hx := S.1
  have hb := S.2.1
  have hts := S.2.2.2.2
  obtain ⟨hP0, hP1, hP2⟩ := hP
  have hl : lv_has ls 5 [(0, .ref o), (1, .int x), (2, .int y), (3, .ref w9)] := hl
  have hS : va_S (bl w9 1) s.heap s.heap [] := va_S.rf
  refine lv_aload_n hx hb dL_recall_0 rfl (lv_at hl 3 rfl) ?_
  refine lv_iconst (v := nI 0) hx hb dL_recall_1 (by decide) ?_
  refine lv_aload_n hx hb dL_recall_2 rfl (lv_at hl 0 rfl) ?_
  refine lv_iload_n hx hb dL_recall_3 rfl (lv_at hl 1 rfl) ?_
  refine lv_iload_n hx hb dL_recall_4 rfl (lv_at hl 2 rfl) ?_
  refine w_V (As := [.int x, .int y]) (rest := [.int (nI 0), .ref w9]) (hd9 := 13) (A2 := bl w9 1) (pre := []) (x := ⟨0, 10, 13, 13⟩) (suf := []) S hK hX (x_X6_recall_1 l hlS E A o z x y hI h1) gL_recall_X6_recall rfl hd_X6_recall ⟨rfl, rfl⟩ ⟨Nat.le_of_ble_eq_true rfl, Nat.le_of_ble_eq_true rfl⟩ (k_recv hK hP0 rfl) ⟨hP0, hP1⟩ rfl hl.1 rfl (Nat.le_of_ble_eq_true rfl) dL_recall_5 ⟨Nat.le_of_ble_eq_true rfl, Nat.le_of_ble_eq_true rfl⟩ (by decide) (htb.trans rfl) (fun z hz => by cases hz) (by decide) (by decide) (List.mem_cons_of_mem _ (List.mem_append_left _ (List.mem_append_left _ (List.mem_append_left _ (List.mem_append_left _ (List.mem_append_left _ (List.mem_append_left _ (List.mem_append_left _ (List.mem_append_left _ (List.mem_of_getElem? (i := 0) rfl)))))))))) rfl (fun q9 H locs zH fH hS => ?_)
  have hkG := gg_fr2 hP0 (fun q h9 _ => fH q h9)
  have hkO := la_fr2 hP2 (fun q h9 _ => fH q h9)
  have hkQ := dz_fr2 hP1 (fun q h9 _ => fH q h9)
  refine lv_astore (lv' := [(4, .ref q9), (0, .ref o), (1, .int x), (2, .int y), (3, .ref w9)]) hx hb dL_recall_13 hl (by decide) rfl (fun ls hl => ?_)
  refine lv_iconst (v := nI 1) hx hb dL_recall_15 (by decide) ?_
  exact k_iretM hx hb hr hlk dL_recall_16 hS hkO (rfl)
def rm_L_agree : Room := { frames := 5, cells := 0, slots := 0, locals := 111 }
theorem hd_L_agree : k_hd1 yL_agree RL 5 := by decide +kernel
set_option maxHeartbeats 4000000 in
set_option maxRecDepth 100000 in
theorem c_L_agree (l : Launch) (hlS : l.stackTraces = false) (E : ke_E) (A : Nat → Prop) (o : Nat) (z : Nat → Int32) (sn : Nat) (r : Nat → Int32) (bn : Nat) (f : Nat → Int32) (v : Nat) (k : Nat) (y : Int32) (w9 : Nat) (x9 : Int64) (hI : iv z) (hn6 : sn ≤ 6) (hv4 : v < 4) (hq4 : k < 4) (h1 : nI 0 ≤ y ∧ y ≤ nI 100) (hw9 : w9 + 1 ≤ o ∨ o + 477 ≤ w9) : Met l yL_agree wsL_agree rm_L_agree (kpx E A [.ref o, .int (nI v), .int (nI k), .int y, .ref w9] (fun H => gg E o H ∧ dz E (o + 1) z H ∧ tr E (o + 60) H ∧ hy E (o + 119) sn r H ∧ bo E (o + 475) bn (auE (au f bn)) (auS (au f bn)) f H ∧ la E w9 x9 H)) (qm (some (.int (nI 0))) (ow o w9) (fun H => gg E o H ∧ dz E (o + 1) (agZ z v k y) H ∧ tr E (o + 60) H ∧ hy E (o + 119) (svN sn) (svR r z sn) H ∧ bo E (o + 475) bn (auE (au f bn)) (auS (au f bn)) f H ∧ la E w9 ((z (8*v + k + 34)).toInt64) H)) 0 0 (ow o w9) := by
  refine w_hd (cc := cL_agree) (maxL := 6) (ret := (some .int)) (hh := [(0, 12, 15, 13), (0, 12, 19, 15)]) (by decide) rfl (Nat.le_of_ble_eq_true rfl) ?_
  intro p e s m below meth c ls S hr hlk htb hK hX hP hl
  have hx := S.1
  have hb := S.2.1
  have hts := S.2.2.2.2
  obtain ⟨hP0, hP1, hP2, hP3, hP4, hP5⟩ := hP
  have hl : lv_has ls 6 [(0, .ref o), (1, .int (nI v)), (2, .int (nI k)), (3, .int y), (4, .ref w9)] := hl
  have hS : va_S (ow o w9) s.heap s.heap [] := va_S.rf
  refine lv_aload hx hb dL_agree_0 (lv_at hl 4 rfl) ?_
  refine lv_iconst (v := nI 0) hx hb dL_agree_2 (by decide) ?_
  refine lv_aload_n hx hb dL_agree_3 rfl (lv_at hl 0 rfl) ?_
  refine lv_iload_n hx hb dL_agree_4 rfl (lv_at hl 1 rfl) ?_
  refine lv_iload_n hx hb dL_agree_5 rfl (lv_at hl 2 rfl) ?_
  refine lv_iload_n hx hb dL_agree_6 rfl (lv_at hl 3 rfl) ?_
  refine k_VM (As := [.int (nI v), .int (nI k), .int y]) (rest := [.int (nI 0), .ref w9]) S hK (c_X6_agree l E o z sn r bn f v k y hI hn6 hv4 hq4 h1) gL_agree_X6_agree rfl hd_X6_agree ⟨rfl, rfl⟩ ⟨Nat.le_of_ble_eq_true rfl, Nat.le_of_ble_eq_true rfl⟩ (k_recv hK hP0 rfl) ⟨hP0, hP1, hP2, hP3, hP4⟩ rfl hl.1 rfl (Nat.le_of_ble_eq_true rfl) dL_agree_7 ⟨Nat.le_of_ble_eq_true rfl, Nat.le_of_ble_eq_true rfl⟩ hS (fun q h => Or.inl h) (fun q h => Or.inl h) (fun H locs hQ zH fH hS => ?_)
  obtain ⟨hR0, hR1, hR2, hR3, hR4⟩ := hQ
  have hV1 := hR0
  have hV2 := hR1
  have hV3 := hR2
  have hV4 := hR3
  have hV5 := hR4
  have hk2 := la_fr2 hP5 (fun q hz hq => fH q hz (bl_ne hq (by omega)))
  refine lv_i2l hx hb dL_agree_10 rfl ?_
  refine la_ast hx hb hK hk2 hS (Or.inr ⟨by omega, by omega⟩) dL_agree_11 (fun H locs hP zH fH hS => ?_)
  have hV6 := hP
  have hk0 := bo_fr2 hV5 (fun q _ hq => fH q (bl_ne hq (by omega)))
  have hk1 := gg_fr2 hV1 (fun q _ hq => fH q (bl_ne hq (by omega)))
  have hk3 := dz_fr2 hV2 (fun q _ hq => fH q (bl_ne hq (by omega)))
  have hk4 := tr_fr2 hV3 (fun q _ hq => fH q (bl_ne hq (by omega)))
  have hk5 := hy_fr2 hV4 (fun q _ hq => fH q (bl_ne hq (by omega)))
  refine lv_goto (tgt := 23) hx hb dL_agree_12 (by decide) ?_
  refine lv_iconst (v := nI 0) hx hb dL_agree_23 (by decide) ?_
  exact k_iretM hx hb hr hlk dL_agree_24 hS ⟨hk1, hk3, hk4, hk5, hk0, hV6⟩ (rfl)
def ry_L_agree_1 : Room := { frames := 8, cells := 1, slots := 6, locals := 128 }
set_option maxHeartbeats 4000000 in
set_option maxRecDepth 100000 in
theorem y_L_agree_1 (l : Launch) (hlS : l.stackTraces = false) (E : ke_E) (A : Nat → Prop) (o : Nat) (z : Nat → Int32) (x : Int32) (y : Int32) (w : Int32) (w9 : Nat) (x9 : Int64) (hI : iv z) (h1 : ¬ inR x 4) (hw9 : w9 + 1 ≤ o ∨ o + 477 ≤ w9) : Met l yL_agree wsL_agree ry_L_agree_1 (kpx E A [.ref o, .int x, .int y, .int w, .ref w9] (fun H => gg E o H ∧ dz E (o + 1) z H ∧ la E w9 x9 H)) (qm (some (.int (nI 1))) (bl w9 1) (la E w9 x9)) 1 6 (bl w9 1) := by
  refine w_hd (cc := cL_agree) (maxL := 6) (ret := (some .int)) (hh := [(0, 12, 15, 13), (0, 12, 19, 15)]) (by decide) rfl (Nat.le_of_ble_eq_true rfl) ?_
  intro p e s m below meth c ls S hr hlk htb hK hX hP hl
  have hx := S.1
  have hb := S.2.1
  have hts := S.2.2.2.2
  obtain ⟨hP0, hP1, hP2⟩ := hP
  have hl : lv_has ls 6 [(0, .ref o), (1, .int x), (2, .int y), (3, .int w), (4, .ref w9)] := hl
  have hS : va_S (bl w9 1) s.heap s.heap [] := va_S.rf
  refine lv_aload hx hb dL_agree_0 (lv_at hl 4 rfl) ?_
  refine lv_iconst (v := nI 0) hx hb dL_agree_2 (by decide) ?_
  refine lv_aload_n hx hb dL_agree_3 rfl (lv_at hl 0 rfl) ?_
  refine lv_iload_n hx hb dL_agree_4 rfl (lv_at hl 1 rfl) ?_
  refine lv_iload_n hx hb dL_agree_5 rfl (lv_at hl 2 rfl) ?_
  refine lv_iload_n hx hb dL_agree_6 rfl (lv_at hl 3 rfl) ?_
  refine w_V (As := [.int x, .int y, .int w]) (rest := [.int (nI 0), .ref w9]) (hd9 := 15) (A2 := bl w9 1) (pre := []) (x := ⟨0, 12, 15, 13⟩) (suf := [⟨0, 12, 19, 15⟩]) S hK hX (x_X6_agree_1 l hlS E A o z x y w hI h1) gL_agree_X6_agree rfl hd_X6_agree ⟨rfl, rfl⟩ ⟨Nat.le_of_ble_eq_true rfl, Nat.le_of_ble_eq_true rfl⟩ (k_recv hK hP0 rfl) ⟨hP0, hP1⟩ rfl hl.1 rfl (Nat.le_of_ble_eq_true rfl) dL_agree_7 ⟨Nat.le_of_ble_eq_true rfl, Nat.le_of_ble_eq_true rfl⟩ (by decide) (htb.trans rfl) (fun z hz => by cases hz) (by decide) (by decide) (List.mem_cons_of_mem _ (List.mem_append_left _ (List.mem_append_left _ (List.mem_append_left _ (List.mem_append_left _ (List.mem_append_left _ (List.mem_append_left _ (List.mem_append_left _ (List.mem_append_left _ (List.mem_append_left _ (List.mem_of_getElem? (i := 0) rfl))))))))))) rfl (fun q9 H locs zH fH hS => ?_)
  have hkG := gg_fr2 hP0 (fun q h9 _ => fH q h9)
  have hkO := la_fr2 hP2 (fun q h9 _ => fH q h9)
  have hkQ := dz_fr2 hP1 (fun q h9 _ => fH q h9)
  refine lv_astore (lv' := [(5, .ref q9), (0, .ref o), (1, .int x), (2, .int y), (3, .int w), (4, .ref w9)]) hx hb dL_agree_15 hl (by decide) rfl (fun ls hl => ?_)
  refine lv_iconst (v := nI 1) hx hb dL_agree_17 (by decide) ?_
  exact k_iretM hx hb hr hlk dL_agree_18 hS hkO (rfl)
def ry_L_agree_2 : Room := { frames := 7, cells := 1, slots := 6, locals := 107 }
set_option maxHeartbeats 4000000 in
set_option maxRecDepth 100000 in
theorem y_L_agree_2 (l : Launch) (hlS : l.stackTraces = false) (E : ke_E) (A : Nat → Prop) (o : Nat) (z : Nat → Int32) (v : Nat) (x : Int32) (y : Int32) (w9 : Nat) (x9 : Int64) (hI : iv z) (hv4 : v < 4) (h1 : ¬ inR x 4) (hw9 : w9 + 1 ≤ o ∨ o + 477 ≤ w9) : Met l yL_agree wsL_agree ry_L_agree_2 (kpx E A [.ref o, .int (nI v), .int x, .int y, .ref w9] (fun H => gg E o H ∧ dz E (o + 1) z H ∧ la E w9 x9 H)) (qm (some (.int (nI 1))) (bl w9 1) (la E w9 x9)) 1 6 (bl w9 1) := by
  refine w_hd (cc := cL_agree) (maxL := 6) (ret := (some .int)) (hh := [(0, 12, 15, 13), (0, 12, 19, 15)]) (by decide) rfl (Nat.le_of_ble_eq_true rfl) ?_
  intro p e s m below meth c ls S hr hlk htb hK hX hP hl
  have hx := S.1
  have hb := S.2.1
  have hts := S.2.2.2.2
  obtain ⟨hP0, hP1, hP2⟩ := hP
  have hl : lv_has ls 6 [(0, .ref o), (1, .int (nI v)), (2, .int x), (3, .int y), (4, .ref w9)] := hl
  have hS : va_S (bl w9 1) s.heap s.heap [] := va_S.rf
  refine lv_aload hx hb dL_agree_0 (lv_at hl 4 rfl) ?_
  refine lv_iconst (v := nI 0) hx hb dL_agree_2 (by decide) ?_
  refine lv_aload_n hx hb dL_agree_3 rfl (lv_at hl 0 rfl) ?_
  refine lv_iload_n hx hb dL_agree_4 rfl (lv_at hl 1 rfl) ?_
  refine lv_iload_n hx hb dL_agree_5 rfl (lv_at hl 2 rfl) ?_
  refine lv_iload_n hx hb dL_agree_6 rfl (lv_at hl 3 rfl) ?_
  refine w_V (As := [.int (nI v), .int x, .int y]) (rest := [.int (nI 0), .ref w9]) (hd9 := 15) (A2 := bl w9 1) (pre := []) (x := ⟨0, 12, 15, 13⟩) (suf := [⟨0, 12, 19, 15⟩]) S hK hX (x_X6_agree_2 l hlS E A o z v x y hI hv4 h1) gL_agree_X6_agree rfl hd_X6_agree ⟨rfl, rfl⟩ ⟨Nat.le_of_ble_eq_true rfl, Nat.le_of_ble_eq_true rfl⟩ (k_recv hK hP0 rfl) ⟨hP0, hP1⟩ rfl hl.1 rfl (Nat.le_of_ble_eq_true rfl) dL_agree_7 ⟨Nat.le_of_ble_eq_true rfl, Nat.le_of_ble_eq_true rfl⟩ (by decide) (htb.trans rfl) (fun z hz => by cases hz) (by decide) (by decide) (List.mem_cons_of_mem _ (List.mem_append_left _ (List.mem_append_left _ (List.mem_append_left _ (List.mem_append_left _ (List.mem_append_left _ (List.mem_append_left _ (List.mem_append_left _ (List.mem_append_left _ (List.mem_append_left _ (List.mem_of_getElem? (i := 0) rfl))))))))))) rfl (fun q9 H locs zH fH hS => ?_)
  have hkG := gg_fr2 hP0 (fun q h9 _ => fH q h9)
  have hkO := la_fr2 hP2 (fun q h9 _ => fH q h9)
  have hkQ := dz_fr2 hP1 (fun q h9 _ => fH q h9)
  refine lv_astore (lv' := [(5, .ref q9), (0, .ref o), (1, .int (nI v)), (2, .int x), (3, .int y), (4, .ref w9)]) hx hb dL_agree_15 hl (by decide) rfl (fun ls hl => ?_)
  refine lv_iconst (v := nI 1) hx hb dL_agree_17 (by decide) ?_
  exact k_iretM hx hb hr hlk dL_agree_18 hS hkO (rfl)
def ry_L_agree_3 : Room := { frames := 8, cells := 1, slots := 6, locals := 129 }
set_option maxHeartbeats 4000000 in
set_option maxRecDepth 100000 in
theorem y_L_agree_3 (l : Launch) (hlS : l.stackTraces = false) (E : ke_E) (A : Nat → Prop) (o : Nat) (z : Nat → Int32) (v : Nat) (k : Nat) (y : Int32) (w9 : Nat) (x9 : Int64) (hI : iv z) (hv4 : v < 4) (hk4 : k < 4) (h1 : ¬ (nI 0 ≤ y ∧ y ≤ nI 100)) (hw9 : w9 + 1 ≤ o ∨ o + 477 ≤ w9) : Met l yL_agree wsL_agree ry_L_agree_3 (kpx E A [.ref o, .int (nI v), .int (nI k), .int y, .ref w9] (fun H => gg E o H ∧ dz E (o + 1) z H ∧ la E w9 x9 H)) (qm (some (.int (nI 2))) (bl w9 1) (la E w9 x9)) 1 6 (bl w9 1) := by
  refine w_hd (cc := cL_agree) (maxL := 6) (ret := (some .int)) (hh := [(0, 12, 15, 13), (0, 12, 19, 15)]) (by decide) rfl (Nat.le_of_ble_eq_true rfl) ?_
  intro p e s m below meth c ls S hr hlk htb hK hX hP hl
  have hx := S.1
  have hb := S.2.1
  have hts := S.2.2.2.2
  obtain ⟨hP0, hP1, hP2⟩ := hP
  have hl : lv_has ls 6 [(0, .ref o), (1, .int (nI v)), (2, .int (nI k)), (3, .int y), (4, .ref w9)] := hl
  have hS : va_S (bl w9 1) s.heap s.heap [] := va_S.rf
  refine lv_aload hx hb dL_agree_0 (lv_at hl 4 rfl) ?_
  refine lv_iconst (v := nI 0) hx hb dL_agree_2 (by decide) ?_
  refine lv_aload_n hx hb dL_agree_3 rfl (lv_at hl 0 rfl) ?_
  refine lv_iload_n hx hb dL_agree_4 rfl (lv_at hl 1 rfl) ?_
  refine lv_iload_n hx hb dL_agree_5 rfl (lv_at hl 2 rfl) ?_
  refine lv_iload_n hx hb dL_agree_6 rfl (lv_at hl 3 rfl) ?_
  refine w_V (As := [.int (nI v), .int (nI k), .int y]) (rest := [.int (nI 0), .ref w9]) (hd9 := 19) (A2 := bl w9 1) (pre := [⟨0, 12, 15, 13⟩]) (x := ⟨0, 12, 19, 15⟩) (suf := []) S hK hX (x_X6_agree_3 l hlS E A o z v k y hI hv4 hk4 h1) gL_agree_X6_agree rfl hd_X6_agree ⟨rfl, rfl⟩ ⟨Nat.le_of_ble_eq_true rfl, Nat.le_of_ble_eq_true rfl⟩ (k_recv hK hP0 rfl) ⟨hP0, hP1⟩ rfl hl.1 rfl (Nat.le_of_ble_eq_true rfl) dL_agree_7 ⟨Nat.le_of_ble_eq_true rfl, Nat.le_of_ble_eq_true rfl⟩ (by decide) (htb.trans rfl) (fun z hz => by
      rcases List.mem_cons.mp hz with h | hz
      · subst h; exact ⟨by decide, "java/lang/IndexOutOfBoundsException", List.mem_cons_of_mem _ (List.mem_append_left _ (List.mem_append_left _ (List.mem_append_left _ (List.mem_append_left _ (List.mem_append_left _ (List.mem_append_left _ (List.mem_append_left _ (List.mem_append_left _ (List.mem_append_left _ (List.mem_of_getElem? (i := 0) rfl)))))))))), by decide, by decide⟩
      cases hz) (by decide) (by decide) (List.mem_cons_of_mem _ (List.mem_append_left _ (List.mem_append_left _ (List.mem_append_left _ (List.mem_append_left _ (List.mem_append_left _ (List.mem_append_left _ (List.mem_append_left _ (List.mem_append_left _ (List.mem_append_left _ (List.mem_of_getElem? (i := 1) rfl))))))))))) rfl (fun q9 H locs zH fH hS => ?_)
  have hkG := gg_fr2 hP0 (fun q h9 _ => fH q h9)
  have hkO := la_fr2 hP2 (fun q h9 _ => fH q h9)
  have hkQ := dz_fr2 hP1 (fun q h9 _ => fH q h9)
  refine lv_astore (lv' := [(5, .ref q9), (0, .ref o), (1, .int (nI v)), (2, .int (nI k)), (3, .int y), (4, .ref w9)]) hx hb dL_agree_19 hl (by decide) rfl (fun ls hl => ?_)
  refine lv_iconst (v := nI 2) hx hb dL_agree_21 (by decide) ?_
  exact k_iretM hx hb hr hlk dL_agree_22 hS hkO (rfl)
def rm_L_limit : Room := { frames := 5, cells := 0, slots := 0, locals := 110 }
theorem hd_L_limit : k_hd1 yL_limit RL 4 := by decide +kernel
set_option maxHeartbeats 4000000 in
set_option maxRecDepth 100000 in
theorem c_L_limit (l : Launch) (hlS : l.stackTraces = false) (E : ke_E) (A : Nat → Prop) (o : Nat) (z : Nat → Int32) (sn : Nat) (r : Nat → Int32) (bn : Nat) (f : Nat → Int32) (v : Nat) (y : Int32) (w9 : Nat) (x9 : Int64) (hI : iv z) (hn6 : sn ≤ 6) (hv4 : v < 4) (h1 : nI 0 ≤ y ∧ y ≤ nI 99999) (hw9 : w9 + 1 ≤ o ∨ o + 477 ≤ w9) : Met l yL_limit wsL_limit rm_L_limit (kpx E A [.ref o, .int (nI v), .int y, .ref w9] (fun H => gg E o H ∧ dz E (o + 1) z H ∧ tr E (o + 60) H ∧ hy E (o + 119) sn r H ∧ bo E (o + 475) bn (auE (au f bn)) (auS (au f bn)) f H ∧ la E w9 x9 H)) (qm (some (.int (nI 0))) (ow o w9) (fun H => gg E o H ∧ dz E (o + 1) (liZ z v y) H ∧ tr E (o + 60) H ∧ hy E (o + 119) (svN sn) (svR r z sn) H ∧ bo E (o + 475) bn (auE (au f bn)) (auS (au f bn)) f H ∧ la E w9 ((z (8*v + 30)).toInt64) H)) 0 0 (ow o w9) := by
  refine w_hd (cc := cL_limit) (maxL := 5) (ret := (some .int)) (hh := [(0, 10, 13, 13), (0, 10, 17, 15)]) (by decide) rfl (Nat.le_of_ble_eq_true rfl) ?_
  intro p e s m below meth c ls S hr hlk htb hK hX hP hl
  have hx := S.1
  have hb := S.2.1
  have hts := S.2.2.2.2
  obtain ⟨hP0, hP1, hP2, hP3, hP4, hP5⟩ := hP
  have hl : lv_has ls 5 [(0, .ref o), (1, .int (nI v)), (2, .int y), (3, .ref w9)] := hl
  have hS : va_S (ow o w9) s.heap s.heap [] := va_S.rf
  refine lv_aload_n hx hb dL_limit_0 rfl (lv_at hl 3 rfl) ?_
  refine lv_iconst (v := nI 0) hx hb dL_limit_1 (by decide) ?_
  refine lv_aload_n hx hb dL_limit_2 rfl (lv_at hl 0 rfl) ?_
  refine lv_iload_n hx hb dL_limit_3 rfl (lv_at hl 1 rfl) ?_
  refine lv_iload_n hx hb dL_limit_4 rfl (lv_at hl 2 rfl) ?_
  refine k_VM (As := [.int (nI v), .int y]) (rest := [.int (nI 0), .ref w9]) S hK (c_X6_limit l E o z sn r bn f v y hI hn6 hv4 h1) gL_limit_X6_limit rfl hd_X6_limit ⟨rfl, rfl⟩ ⟨Nat.le_of_ble_eq_true rfl, Nat.le_of_ble_eq_true rfl⟩ (k_recv hK hP0 rfl) ⟨hP0, hP1, hP2, hP3, hP4⟩ rfl hl.1 rfl (Nat.le_of_ble_eq_true rfl) dL_limit_5 ⟨Nat.le_of_ble_eq_true rfl, Nat.le_of_ble_eq_true rfl⟩ hS (fun q h => Or.inl h) (fun q h => Or.inl h) (fun H locs hQ zH fH hS => ?_)
  obtain ⟨hR0, hR1, hR2, hR3, hR4⟩ := hQ
  have hV1 := hR0
  have hV2 := hR1
  have hV3 := hR2
  have hV4 := hR3
  have hV5 := hR4
  have hk2 := la_fr2 hP5 (fun q hz hq => fH q hz (bl_ne hq (by omega)))
  refine lv_i2l hx hb dL_limit_8 rfl ?_
  refine la_ast hx hb hK hk2 hS (Or.inr ⟨by omega, by omega⟩) dL_limit_9 (fun H locs hP zH fH hS => ?_)
  have hV6 := hP
  have hk0 := bo_fr2 hV5 (fun q _ hq => fH q (bl_ne hq (by omega)))
  have hk1 := gg_fr2 hV1 (fun q _ hq => fH q (bl_ne hq (by omega)))
  have hk3 := dz_fr2 hV2 (fun q _ hq => fH q (bl_ne hq (by omega)))
  have hk4 := tr_fr2 hV3 (fun q _ hq => fH q (bl_ne hq (by omega)))
  have hk5 := hy_fr2 hV4 (fun q _ hq => fH q (bl_ne hq (by omega)))
  refine lv_goto (tgt := 21) hx hb dL_limit_10 (by decide) ?_
  refine lv_iconst (v := nI 0) hx hb dL_limit_21 (by decide) ?_
  exact k_iretM hx hb hr hlk dL_limit_22 hS ⟨hk1, hk3, hk4, hk5, hk0, hV6⟩ (rfl)
def ry_L_limit_1 : Room := { frames := 8, cells := 1, slots := 6, locals := 127 }
set_option maxHeartbeats 4000000 in
set_option maxRecDepth 100000 in
theorem y_L_limit_1 (l : Launch) (hlS : l.stackTraces = false) (E : ke_E) (A : Nat → Prop) (o : Nat) (z : Nat → Int32) (x : Int32) (y : Int32) (w9 : Nat) (x9 : Int64) (hI : iv z) (h1 : ¬ inR x 4) (hw9 : w9 + 1 ≤ o ∨ o + 477 ≤ w9) : Met l yL_limit wsL_limit ry_L_limit_1 (kpx E A [.ref o, .int x, .int y, .ref w9] (fun H => gg E o H ∧ dz E (o + 1) z H ∧ la E w9 x9 H)) (qm (some (.int (nI 1))) (bl w9 1) (la E w9 x9)) 1 6 (bl w9 1) := by
  refine w_hd (cc := cL_limit) (maxL := 5) (ret := (some .int)) (hh := [(0, 10, 13, 13), (0, 10, 17, 15)]) (by decide) rfl (Nat.le_of_ble_eq_true rfl) ?_
  intro p e s m below meth c ls S hr hlk htb hK hX hP hl
  have hx := S.1
  have hb := S.2.1
  have hts := S.2.2.2.2
  obtain ⟨hP0, hP1, hP2⟩ := hP
  have hl : lv_has ls 5 [(0, .ref o), (1, .int x), (2, .int y), (3, .ref w9)] := hl
  have hS : va_S (bl w9 1) s.heap s.heap [] := va_S.rf
  refine lv_aload_n hx hb dL_limit_0 rfl (lv_at hl 3 rfl) ?_
  refine lv_iconst (v := nI 0) hx hb dL_limit_1 (by decide) ?_
  refine lv_aload_n hx hb dL_limit_2 rfl (lv_at hl 0 rfl) ?_
  refine lv_iload_n hx hb dL_limit_3 rfl (lv_at hl 1 rfl) ?_
  refine lv_iload_n hx hb dL_limit_4 rfl (lv_at hl 2 rfl) ?_
  refine w_V (As := [.int x, .int y]) (rest := [.int (nI 0), .ref w9]) (hd9 := 13) (A2 := bl w9 1) (pre := []) (x := ⟨0, 10, 13, 13⟩) (suf := [⟨0, 10, 17, 15⟩]) S hK hX (x_X6_limit_1 l hlS E A o z x y hI h1) gL_limit_X6_limit rfl hd_X6_limit ⟨rfl, rfl⟩ ⟨Nat.le_of_ble_eq_true rfl, Nat.le_of_ble_eq_true rfl⟩ (k_recv hK hP0 rfl) ⟨hP0, hP1⟩ rfl hl.1 rfl (Nat.le_of_ble_eq_true rfl) dL_limit_5 ⟨Nat.le_of_ble_eq_true rfl, Nat.le_of_ble_eq_true rfl⟩ (by decide) (htb.trans rfl) (fun z hz => by cases hz) (by decide) (by decide) (List.mem_cons_of_mem _ (List.mem_append_left _ (List.mem_append_left _ (List.mem_append_left _ (List.mem_append_left _ (List.mem_append_left _ (List.mem_append_left _ (List.mem_append_left _ (List.mem_append_left _ (List.mem_append_left _ (List.mem_of_getElem? (i := 0) rfl))))))))))) rfl (fun q9 H locs zH fH hS => ?_)
  have hkG := gg_fr2 hP0 (fun q h9 _ => fH q h9)
  have hkO := la_fr2 hP2 (fun q h9 _ => fH q h9)
  have hkQ := dz_fr2 hP1 (fun q h9 _ => fH q h9)
  refine lv_astore (lv' := [(4, .ref q9), (0, .ref o), (1, .int x), (2, .int y), (3, .ref w9)]) hx hb dL_limit_13 hl (by decide) rfl (fun ls hl => ?_)
  refine lv_iconst (v := nI 1) hx hb dL_limit_15 (by decide) ?_
  exact k_iretM hx hb hr hlk dL_limit_16 hS hkO (rfl)
def ry_L_limit_2 : Room := { frames := 8, cells := 1, slots := 6, locals := 128 }
set_option maxHeartbeats 4000000 in
set_option maxRecDepth 100000 in
theorem y_L_limit_2 (l : Launch) (hlS : l.stackTraces = false) (E : ke_E) (A : Nat → Prop) (o : Nat) (z : Nat → Int32) (v : Nat) (y : Int32) (w9 : Nat) (x9 : Int64) (hI : iv z) (hv4 : v < 4) (h1 : ¬ (nI 0 ≤ y ∧ y ≤ nI 99999)) (hw9 : w9 + 1 ≤ o ∨ o + 477 ≤ w9) : Met l yL_limit wsL_limit ry_L_limit_2 (kpx E A [.ref o, .int (nI v), .int y, .ref w9] (fun H => gg E o H ∧ dz E (o + 1) z H ∧ la E w9 x9 H)) (qm (some (.int (nI 2))) (bl w9 1) (la E w9 x9)) 1 6 (bl w9 1) := by
  refine w_hd (cc := cL_limit) (maxL := 5) (ret := (some .int)) (hh := [(0, 10, 13, 13), (0, 10, 17, 15)]) (by decide) rfl (Nat.le_of_ble_eq_true rfl) ?_
  intro p e s m below meth c ls S hr hlk htb hK hX hP hl
  have hx := S.1
  have hb := S.2.1
  have hts := S.2.2.2.2
  obtain ⟨hP0, hP1, hP2⟩ := hP
  have hl : lv_has ls 5 [(0, .ref o), (1, .int (nI v)), (2, .int y), (3, .ref w9)] := hl
  have hS : va_S (bl w9 1) s.heap s.heap [] := va_S.rf
  refine lv_aload_n hx hb dL_limit_0 rfl (lv_at hl 3 rfl) ?_
  refine lv_iconst (v := nI 0) hx hb dL_limit_1 (by decide) ?_
  refine lv_aload_n hx hb dL_limit_2 rfl (lv_at hl 0 rfl) ?_
  refine lv_iload_n hx hb dL_limit_3 rfl (lv_at hl 1 rfl) ?_
  refine lv_iload_n hx hb dL_limit_4 rfl (lv_at hl 2 rfl) ?_
  refine w_V (As := [.int (nI v), .int y]) (rest := [.int (nI 0), .ref w9]) (hd9 := 17) (A2 := bl w9 1) (pre := [⟨0, 10, 13, 13⟩]) (x := ⟨0, 10, 17, 15⟩) (suf := []) S hK hX (x_X6_limit_2 l hlS E A o z v y hI hv4 h1) gL_limit_X6_limit rfl hd_X6_limit ⟨rfl, rfl⟩ ⟨Nat.le_of_ble_eq_true rfl, Nat.le_of_ble_eq_true rfl⟩ (k_recv hK hP0 rfl) ⟨hP0, hP1⟩ rfl hl.1 rfl (Nat.le_of_ble_eq_true rfl) dL_limit_5 ⟨Nat.le_of_ble_eq_true rfl, Nat.le_of_ble_eq_true rfl⟩ (by decide) (htb.trans rfl) (fun z hz => by
      rcases List.mem_cons.mp hz with h | hz
      · subst h; exact ⟨by decide, "java/lang/IndexOutOfBoundsException", List.mem_cons_of_mem _ (List.mem_append_left _ (List.mem_append_left _ (List.mem_append_left _ (List.mem_append_left _ (List.mem_append_left _ (List.mem_append_left _ (List.mem_append_left _ (List.mem_append_left _ (List.mem_append_left _ (List.mem_of_getElem? (i := 0) rfl)))))))))), by decide, by decide⟩
      cases hz) (by decide) (by decide) (List.mem_cons_of_mem _ (List.mem_append_left _ (List.mem_append_left _ (List.mem_append_left _ (List.mem_append_left _ (List.mem_append_left _ (List.mem_append_left _ (List.mem_append_left _ (List.mem_append_left _ (List.mem_append_left _ (List.mem_of_getElem? (i := 1) rfl))))))))))) rfl (fun q9 H locs zH fH hS => ?_)
  have hkG := gg_fr2 hP0 (fun q h9 _ => fH q h9)
  have hkO := la_fr2 hP2 (fun q h9 _ => fH q h9)
  have hkQ := dz_fr2 hP1 (fun q h9 _ => fH q h9)
  refine lv_astore (lv' := [(4, .ref q9), (0, .ref o), (1, .int (nI v)), (2, .int y), (3, .ref w9)]) hx hb dL_limit_17 hl (by decide) rfl (fun ls hl => ?_)
  refine lv_iconst (v := nI 2) hx hb dL_limit_19 (by decide) ?_
  exact k_iretM hx hb hr hlk dL_limit_20 hS hkO (rfl)
def rm_L_set : Room := { frames := 5, cells := 0, slots := 0, locals := 109 }
theorem hd_L_set : k_hd1 yL_set RL 4 := by decide +kernel
set_option maxHeartbeats 4000000 in
set_option maxRecDepth 100000 in
theorem c_L_set (l : Launch) (hlS : l.stackTraces = false) (E : ke_E) (A : Nat → Prop) (o : Nat) (z : Nat → Int32) (sn : Nat) (r : Nat → Int32) (bn : Nat) (f : Nat → Int32) (k : Nat) (y : Int32) (w9 : Nat) (x9 : Int64) (hI : iv z) (hn6 : sn ≤ 6) (hk : k < 5) (h1 : ms k y) (hw9 : w9 + 1 ≤ o ∨ o + 477 ≤ w9) : Met l yL_set wsL_set rm_L_set (kpx E A [.ref o, .int (nI k), .int y, .ref w9] (fun H => gg E o H ∧ dz E (o + 1) z H ∧ tr E (o + 60) H ∧ hy E (o + 119) sn r H ∧ bo E (o + 475) bn (auE (au f bn)) (auS (au f bn)) f H ∧ la E w9 x9 H)) (qm (some (.int (nI 0))) (ow o w9) (fun H => gg E o H ∧ dz E (o + 1) (seZ z k y) H ∧ tr E (o + 60) H ∧ hy E (o + 119) (svN sn) (svR r z sn) H ∧ bo E (o + 475) bn (auE (au f bn)) (auS (au f bn)) f H ∧ la E w9 ((z (k + 7)).toInt64) H)) 0 0 (ow o w9) := by
  refine w_hd (cc := cL_set) (maxL := 5) (ret := (some .int)) (hh := [(0, 10, 13, 13), (0, 10, 17, 15)]) (by decide) rfl (Nat.le_of_ble_eq_true rfl) ?_
  intro p e s m below meth c ls S hr hlk htb hK hX hP hl
  have hx := S.1
  have hb := S.2.1
  have hts := S.2.2.2.2
  obtain ⟨hP0, hP1, hP2, hP3, hP4, hP5⟩ := hP
  have hl : lv_has ls 5 [(0, .ref o), (1, .int (nI k)), (2, .int y), (3, .ref w9)] := hl
  have hS : va_S (ow o w9) s.heap s.heap [] := va_S.rf
  refine lv_aload_n hx hb dL_set_0 rfl (lv_at hl 3 rfl) ?_
  refine lv_iconst (v := nI 0) hx hb dL_set_1 (by decide) ?_
  refine lv_aload_n hx hb dL_set_2 rfl (lv_at hl 0 rfl) ?_
  refine lv_iload_n hx hb dL_set_3 rfl (lv_at hl 1 rfl) ?_
  refine lv_iload_n hx hb dL_set_4 rfl (lv_at hl 2 rfl) ?_
  refine k_VM (As := [.int (nI k), .int y]) (rest := [.int (nI 0), .ref w9]) S hK (c_X6_set l E o z sn r bn f k y hI hn6 hk h1) gL_set_X6_set rfl hd_X6_set ⟨rfl, rfl⟩ ⟨Nat.le_of_ble_eq_true rfl, Nat.le_of_ble_eq_true rfl⟩ (k_recv hK hP0 rfl) ⟨hP0, hP1, hP2, hP3, hP4⟩ rfl hl.1 rfl (Nat.le_of_ble_eq_true rfl) dL_set_5 ⟨Nat.le_of_ble_eq_true rfl, Nat.le_of_ble_eq_true rfl⟩ hS (fun q h => Or.inl h) (fun q h => Or.inl h) (fun H locs hQ zH fH hS => ?_)
  obtain ⟨hR0, hR1, hR2, hR3, hR4⟩ := hQ
  have hV1 := hR0
  have hV2 := hR1
  have hV3 := hR2
  have hV4 := hR3
  have hV5 := hR4
  have hk2 := la_fr2 hP5 (fun q hz hq => fH q hz (bl_ne hq (by omega)))
  refine lv_i2l hx hb dL_set_8 rfl ?_
  refine la_ast hx hb hK hk2 hS (Or.inr ⟨by omega, by omega⟩) dL_set_9 (fun H locs hP zH fH hS => ?_)
  have hV6 := hP
  have hk0 := bo_fr2 hV5 (fun q _ hq => fH q (bl_ne hq (by omega)))
  have hk1 := gg_fr2 hV1 (fun q _ hq => fH q (bl_ne hq (by omega)))
  have hk3 := dz_fr2 hV2 (fun q _ hq => fH q (bl_ne hq (by omega)))
  have hk4 := tr_fr2 hV3 (fun q _ hq => fH q (bl_ne hq (by omega)))
  have hk5 := hy_fr2 hV4 (fun q _ hq => fH q (bl_ne hq (by omega)))
  refine lv_goto (tgt := 21) hx hb dL_set_10 (by decide) ?_
  refine lv_iconst (v := nI 0) hx hb dL_set_21 (by decide) ?_
  exact k_iretM hx hb hr hlk dL_set_22 hS ⟨hk1, hk3, hk4, hk5, hk0, hV6⟩ (rfl)
def ry_L_set_1 : Room := { frames := 7, cells := 1, slots := 6, locals := 105 }
set_option maxHeartbeats 4000000 in
set_option maxRecDepth 100000 in
theorem y_L_set_1 (l : Launch) (hlS : l.stackTraces = false) (E : ke_E) (A : Nat → Prop) (o : Nat) (z : Nat → Int32) (x : Int32) (y : Int32) (w9 : Nat) (x9 : Int64) (hI : iv z) (h1 : ¬ inR x 5) (hw9 : w9 + 1 ≤ o ∨ o + 477 ≤ w9) : Met l yL_set wsL_set ry_L_set_1 (kpx E A [.ref o, .int x, .int y, .ref w9] (fun H => gg E o H ∧ dz E (o + 1) z H ∧ la E w9 x9 H)) (qm (some (.int (nI 1))) (bl w9 1) (la E w9 x9)) 1 6 (bl w9 1) := by
  refine w_hd (cc := cL_set) (maxL := 5) (ret := (some .int)) (hh := [(0, 10, 13, 13), (0, 10, 17, 15)]) (by decide) rfl (Nat.le_of_ble_eq_true rfl) ?_
  intro p e s m below meth c ls S hr hlk htb hK hX hP hl
  have hx := S.1
  have hb := S.2.1
  have hts := S.2.2.2.2
  obtain ⟨hP0, hP1, hP2⟩ := hP
  have hl : lv_has ls 5 [(0, .ref o), (1, .int x), (2, .int y), (3, .ref w9)] := hl
  have hS : va_S (bl w9 1) s.heap s.heap [] := va_S.rf
  refine lv_aload_n hx hb dL_set_0 rfl (lv_at hl 3 rfl) ?_
  refine lv_iconst (v := nI 0) hx hb dL_set_1 (by decide) ?_
  refine lv_aload_n hx hb dL_set_2 rfl (lv_at hl 0 rfl) ?_
  refine lv_iload_n hx hb dL_set_3 rfl (lv_at hl 1 rfl) ?_
  refine lv_iload_n hx hb dL_set_4 rfl (lv_at hl 2 rfl) ?_
  refine w_V (As := [.int x, .int y]) (rest := [.int (nI 0), .ref w9]) (hd9 := 13) (A2 := bl w9 1) (pre := []) (x := ⟨0, 10, 13, 13⟩) (suf := [⟨0, 10, 17, 15⟩]) S hK hX (x_X6_set_1 l hlS E A o z x y hI h1) gL_set_X6_set rfl hd_X6_set ⟨rfl, rfl⟩ ⟨Nat.le_of_ble_eq_true rfl, Nat.le_of_ble_eq_true rfl⟩ (k_recv hK hP0 rfl) ⟨hP0, hP1⟩ rfl hl.1 rfl (Nat.le_of_ble_eq_true rfl) dL_set_5 ⟨Nat.le_of_ble_eq_true rfl, Nat.le_of_ble_eq_true rfl⟩ (by decide) (htb.trans rfl) (fun z hz => by cases hz) (by decide) (by decide) (List.mem_cons_of_mem _ (List.mem_append_left _ (List.mem_append_left _ (List.mem_append_left _ (List.mem_append_left _ (List.mem_append_left _ (List.mem_append_left _ (List.mem_append_left _ (List.mem_append_left _ (List.mem_append_left _ (List.mem_of_getElem? (i := 0) rfl))))))))))) rfl (fun q9 H locs zH fH hS => ?_)
  have hkG := gg_fr2 hP0 (fun q h9 _ => fH q h9)
  have hkO := la_fr2 hP2 (fun q h9 _ => fH q h9)
  have hkQ := dz_fr2 hP1 (fun q h9 _ => fH q h9)
  refine lv_astore (lv' := [(4, .ref q9), (0, .ref o), (1, .int x), (2, .int y), (3, .ref w9)]) hx hb dL_set_13 hl (by decide) rfl (fun ls hl => ?_)
  refine lv_iconst (v := nI 1) hx hb dL_set_15 (by decide) ?_
  exact k_iretM hx hb hr hlk dL_set_16 hS hkO (rfl)
def ry_L_set_2 : Room := { frames := 8, cells := 1, slots := 6, locals := 127 }
set_option maxHeartbeats 4000000 in
set_option maxRecDepth 100000 in
theorem y_L_set_2 (l : Launch) (hlS : l.stackTraces = false) (E : ke_E) (A : Nat → Prop) (o : Nat) (z : Nat → Int32) (k : Nat) (y : Int32) (w9 : Nat) (x9 : Int64) (hI : iv z) (hk : k < 5) (h1 : ¬ ms k y) (hw9 : w9 + 1 ≤ o ∨ o + 477 ≤ w9) : Met l yL_set wsL_set ry_L_set_2 (kpx E A [.ref o, .int (nI k), .int y, .ref w9] (fun H => gg E o H ∧ dz E (o + 1) z H ∧ la E w9 x9 H)) (qm (some (.int (nI 2))) (bl w9 1) (la E w9 x9)) 1 6 (bl w9 1) := by
  refine w_hd (cc := cL_set) (maxL := 5) (ret := (some .int)) (hh := [(0, 10, 13, 13), (0, 10, 17, 15)]) (by decide) rfl (Nat.le_of_ble_eq_true rfl) ?_
  intro p e s m below meth c ls S hr hlk htb hK hX hP hl
  have hx := S.1
  have hb := S.2.1
  have hts := S.2.2.2.2
  obtain ⟨hP0, hP1, hP2⟩ := hP
  have hl : lv_has ls 5 [(0, .ref o), (1, .int (nI k)), (2, .int y), (3, .ref w9)] := hl
  have hS : va_S (bl w9 1) s.heap s.heap [] := va_S.rf
  refine lv_aload_n hx hb dL_set_0 rfl (lv_at hl 3 rfl) ?_
  refine lv_iconst (v := nI 0) hx hb dL_set_1 (by decide) ?_
  refine lv_aload_n hx hb dL_set_2 rfl (lv_at hl 0 rfl) ?_
  refine lv_iload_n hx hb dL_set_3 rfl (lv_at hl 1 rfl) ?_
  refine lv_iload_n hx hb dL_set_4 rfl (lv_at hl 2 rfl) ?_
  refine w_V (As := [.int (nI k), .int y]) (rest := [.int (nI 0), .ref w9]) (hd9 := 17) (A2 := bl w9 1) (pre := [⟨0, 10, 13, 13⟩]) (x := ⟨0, 10, 17, 15⟩) (suf := []) S hK hX (x_X6_set_2 l hlS E A o z k y hI hk h1) gL_set_X6_set rfl hd_X6_set ⟨rfl, rfl⟩ ⟨Nat.le_of_ble_eq_true rfl, Nat.le_of_ble_eq_true rfl⟩ (k_recv hK hP0 rfl) ⟨hP0, hP1⟩ rfl hl.1 rfl (Nat.le_of_ble_eq_true rfl) dL_set_5 ⟨Nat.le_of_ble_eq_true rfl, Nat.le_of_ble_eq_true rfl⟩ (by decide) (htb.trans rfl) (fun z hz => by
      rcases List.mem_cons.mp hz with h | hz
      · subst h; exact ⟨by decide, "java/lang/IndexOutOfBoundsException", List.mem_cons_of_mem _ (List.mem_append_left _ (List.mem_append_left _ (List.mem_append_left _ (List.mem_append_left _ (List.mem_append_left _ (List.mem_append_left _ (List.mem_append_left _ (List.mem_append_left _ (List.mem_append_left _ (List.mem_of_getElem? (i := 0) rfl)))))))))), by decide, by decide⟩
      cases hz) (by decide) (by decide) (List.mem_cons_of_mem _ (List.mem_append_left _ (List.mem_append_left _ (List.mem_append_left _ (List.mem_append_left _ (List.mem_append_left _ (List.mem_append_left _ (List.mem_append_left _ (List.mem_append_left _ (List.mem_append_left _ (List.mem_of_getElem? (i := 1) rfl))))))))))) rfl (fun q9 H locs zH fH hS => ?_)
  have hkG := gg_fr2 hP0 (fun q h9 _ => fH q h9)
  have hkO := la_fr2 hP2 (fun q h9 _ => fH q h9)
  have hkQ := dz_fr2 hP1 (fun q h9 _ => fH q h9)
  refine lv_astore (lv' := [(4, .ref q9), (0, .ref o), (1, .int (nI k)), (2, .int y), (3, .ref w9)]) hx hb dL_set_17 hl (by decide) rfl (fun ls hl => ?_)
  refine lv_iconst (v := nI 2) hx hb dL_set_19 (by decide) ?_
  exact k_iretM hx hb hr hlk dL_set_20 hS hkO (rfl)
def rm_L_receive : Room := { frames := 5, cells := 0, slots := 0, locals := 108 }
theorem hd_L_receive : k_hd1 yL_receive RL 4 := by decide +kernel
set_option maxHeartbeats 4000000 in
set_option maxRecDepth 100000 in
theorem c_L_receive (l : Launch) (hlS : l.stackTraces = false) (E : ke_E) (A : Nat → Prop) (o : Nat) (z : Nat → Int32) (sn : Nat) (r : Nat → Int32) (bn : Nat) (f : Nat → Int32) (q : Nat) (k : Nat) (w9 : Nat) (x9 : Int64) (hI : iv z) (hn6 : sn ≤ 6) (hq6 : q < 6) (hq4 : k < 4) (h1 : ¬ cn z = 20) (hw9 : w9 + 1 ≤ o ∨ o + 477 ≤ w9) : Met l yL_receive wsL_receive rm_L_receive (kpx E A [.ref o, .int (nI q), .int (nI k), .ref w9] (fun H => gg E o H ∧ dz E (o + 1) z H ∧ tr E (o + 60) H ∧ hy E (o + 119) sn r H ∧ bo E (o + 475) bn (auE (au f bn)) (auS (au f bn)) f H ∧ la E w9 x9 H)) (qm (some (.int (nI 0))) (ow o w9) (fun H => gg E o H ∧ dz E (o + 1) (rcv z q k) H ∧ tr E (o + 60) H ∧ hy E (o + 119) (svN sn) (svR r z sn) H ∧ bo E (o + 475) bn (auE (au f bn)) (auS (au f bn)) f H ∧ la E w9 ((nI (cn z)).toInt64) H)) 0 0 (ow o w9) := by
  refine w_hd (cc := cL_receive) (maxL := 5) (ret := (some .int)) (hh := [(0, 10, 13, 13), (0, 10, 17, 34)]) (by decide) rfl (Nat.le_of_ble_eq_true rfl) ?_
  intro p e s m below meth c ls S hr hlk htb hK hX hP hl
  have hx := S.1
  have hb := S.2.1
  have hts := S.2.2.2.2
  obtain ⟨hP0, hP1, hP2, hP3, hP4, hP5⟩ := hP
  have hl : lv_has ls 5 [(0, .ref o), (1, .int (nI q)), (2, .int (nI k)), (3, .ref w9)] := hl
  have hS : va_S (ow o w9) s.heap s.heap [] := va_S.rf
  refine lv_aload_n hx hb dL_receive_0 rfl (lv_at hl 3 rfl) ?_
  refine lv_iconst (v := nI 0) hx hb dL_receive_1 (by decide) ?_
  refine lv_aload_n hx hb dL_receive_2 rfl (lv_at hl 0 rfl) ?_
  refine lv_iload_n hx hb dL_receive_3 rfl (lv_at hl 1 rfl) ?_
  refine lv_iload_n hx hb dL_receive_4 rfl (lv_at hl 2 rfl) ?_
  refine k_VM (As := [.int (nI q), .int (nI k)]) (rest := [.int (nI 0), .ref w9]) S hK (c_X6_receive l E o z sn r bn f q k hI hn6 hq6 hq4 h1) gL_receive_X6_receive rfl hd_X6_receive ⟨rfl, rfl⟩ ⟨Nat.le_of_ble_eq_true rfl, Nat.le_of_ble_eq_true rfl⟩ (k_recv hK hP0 rfl) ⟨hP0, hP1, hP2, hP3, hP4⟩ rfl hl.1 rfl (Nat.le_of_ble_eq_true rfl) dL_receive_5 ⟨Nat.le_of_ble_eq_true rfl, Nat.le_of_ble_eq_true rfl⟩ hS (fun q h => Or.inl h) (fun q h => Or.inl h) (fun H locs hQ zH fH hS => ?_)
  obtain ⟨hR0, hR1, hR2, hR3, hR4⟩ := hQ
  have hV1 := hR0
  have hV2 := hR1
  have hV3 := hR2
  have hV4 := hR3
  have hV5 := hR4
  have hk2 := la_fr2 hP5 (fun q hz hq => fH q hz (bl_ne hq (by omega)))
  refine lv_i2l hx hb dL_receive_8 rfl ?_
  refine la_ast hx hb hK hk2 hS (Or.inr ⟨by omega, by omega⟩) dL_receive_9 (fun H locs hP zH fH hS => ?_)
  have hV6 := hP
  have hk0 := bo_fr2 hV5 (fun q _ hq => fH q (bl_ne hq (by omega)))
  have hk1 := gg_fr2 hV1 (fun q _ hq => fH q (bl_ne hq (by omega)))
  have hk3 := dz_fr2 hV2 (fun q _ hq => fH q (bl_ne hq (by omega)))
  have hk4 := tr_fr2 hV3 (fun q _ hq => fH q (bl_ne hq (by omega)))
  have hk5 := hy_fr2 hV4 (fun q _ hq => fH q (bl_ne hq (by omega)))
  refine lv_goto (tgt := 21) hx hb dL_receive_10 (by decide) ?_
  refine lv_iconst (v := nI 0) hx hb dL_receive_21 (by decide) ?_
  exact k_iretM hx hb hr hlk dL_receive_22 hS ⟨hk1, hk3, hk4, hk5, hk0, hV6⟩ (rfl)
def ry_L_receive_1 : Room := { frames := 8, cells := 1, slots := 6, locals := 125 }
set_option maxHeartbeats 4000000 in
set_option maxRecDepth 100000 in
theorem y_L_receive_1 (l : Launch) (hlS : l.stackTraces = false) (E : ke_E) (A : Nat → Prop) (o : Nat) (z : Nat → Int32) (x : Int32) (y : Int32) (w9 : Nat) (x9 : Int64) (hI : iv z) (h1 : ¬ inR x 6) (hw9 : w9 + 1 ≤ o ∨ o + 477 ≤ w9) : Met l yL_receive wsL_receive ry_L_receive_1 (kpx E A [.ref o, .int x, .int y, .ref w9] (fun H => gg E o H ∧ dz E (o + 1) z H ∧ la E w9 x9 H)) (qm (some (.int (nI 1))) (bl w9 1) (la E w9 x9)) 1 6 (bl w9 1) := by
  refine w_hd (cc := cL_receive) (maxL := 5) (ret := (some .int)) (hh := [(0, 10, 13, 13), (0, 10, 17, 34)]) (by decide) rfl (Nat.le_of_ble_eq_true rfl) ?_
  intro p e s m below meth c ls S hr hlk htb hK hX hP hl
  have hx := S.1
  have hb := S.2.1
  have hts := S.2.2.2.2
  obtain ⟨hP0, hP1, hP2⟩ := hP
  have hl : lv_has ls 5 [(0, .ref o), (1, .int x), (2, .int y), (3, .ref w9)] := hl
  have hS : va_S (bl w9 1) s.heap s.heap [] := va_S.rf
  refine lv_aload_n hx hb dL_receive_0 rfl (lv_at hl 3 rfl) ?_
  refine lv_iconst (v := nI 0) hx hb dL_receive_1 (by decide) ?_
  refine lv_aload_n hx hb dL_receive_2 rfl (lv_at hl 0 rfl) ?_
  refine lv_iload_n hx hb dL_receive_3 rfl (lv_at hl 1 rfl) ?_
  refine lv_iload_n hx hb dL_receive_4 rfl (lv_at hl 2 rfl) ?_
  refine w_V (As := [.int x, .int y]) (rest := [.int (nI 0), .ref w9]) (hd9 := 13) (A2 := bl w9 1) (pre := []) (x := ⟨0, 10, 13, 13⟩) (suf := [⟨0, 10, 17, 34⟩]) S hK hX (x_X6_receive_1 l hlS E A o z x y hI h1) gL_receive_X6_receive rfl hd_X6_receive ⟨rfl, rfl⟩ ⟨Nat.le_of_ble_eq_true rfl, Nat.le_of_ble_eq_true rfl⟩ (k_recv hK hP0 rfl) ⟨hP0, hP1⟩ rfl hl.1 rfl (Nat.le_of_ble_eq_true rfl) dL_receive_5 ⟨Nat.le_of_ble_eq_true rfl, Nat.le_of_ble_eq_true rfl⟩ (by decide) (htb.trans rfl) (fun z hz => by cases hz) (by decide) (by decide) (List.mem_cons_of_mem _ (List.mem_append_left _ (List.mem_append_left _ (List.mem_append_left _ (List.mem_append_left _ (List.mem_append_left _ (List.mem_append_left _ (List.mem_append_left _ (List.mem_append_left _ (List.mem_append_left _ (List.mem_of_getElem? (i := 0) rfl))))))))))) rfl (fun q9 H locs zH fH hS => ?_)
  have hkG := gg_fr2 hP0 (fun q h9 _ => fH q h9)
  have hkO := la_fr2 hP2 (fun q h9 _ => fH q h9)
  have hkQ := dz_fr2 hP1 (fun q h9 _ => fH q h9)
  refine lv_astore (lv' := [(4, .ref q9), (0, .ref o), (1, .int x), (2, .int y), (3, .ref w9)]) hx hb dL_receive_13 hl (by decide) rfl (fun ls hl => ?_)
  refine lv_iconst (v := nI 1) hx hb dL_receive_15 (by decide) ?_
  exact k_iretM hx hb hr hlk dL_receive_16 hS hkO (rfl)
def ry_L_receive_2 : Room := { frames := 7, cells := 1, slots := 6, locals := 104 }
set_option maxHeartbeats 4000000 in
set_option maxRecDepth 100000 in
theorem y_L_receive_2 (l : Launch) (hlS : l.stackTraces = false) (E : ke_E) (A : Nat → Prop) (o : Nat) (z : Nat → Int32) (q : Nat) (x : Int32) (w9 : Nat) (x9 : Int64) (hI : iv z) (hq6 : q < 6) (h1 : ¬ inR x 4) (hw9 : w9 + 1 ≤ o ∨ o + 477 ≤ w9) : Met l yL_receive wsL_receive ry_L_receive_2 (kpx E A [.ref o, .int (nI q), .int x, .ref w9] (fun H => gg E o H ∧ dz E (o + 1) z H ∧ la E w9 x9 H)) (qm (some (.int (nI 1))) (bl w9 1) (la E w9 x9)) 1 6 (bl w9 1) := by
  refine w_hd (cc := cL_receive) (maxL := 5) (ret := (some .int)) (hh := [(0, 10, 13, 13), (0, 10, 17, 34)]) (by decide) rfl (Nat.le_of_ble_eq_true rfl) ?_
  intro p e s m below meth c ls S hr hlk htb hK hX hP hl
  have hx := S.1
  have hb := S.2.1
  have hts := S.2.2.2.2
  obtain ⟨hP0, hP1, hP2⟩ := hP
  have hl : lv_has ls 5 [(0, .ref o), (1, .int (nI q)), (2, .int x), (3, .ref w9)] := hl
  have hS : va_S (bl w9 1) s.heap s.heap [] := va_S.rf
  refine lv_aload_n hx hb dL_receive_0 rfl (lv_at hl 3 rfl) ?_
  refine lv_iconst (v := nI 0) hx hb dL_receive_1 (by decide) ?_
  refine lv_aload_n hx hb dL_receive_2 rfl (lv_at hl 0 rfl) ?_
  refine lv_iload_n hx hb dL_receive_3 rfl (lv_at hl 1 rfl) ?_
  refine lv_iload_n hx hb dL_receive_4 rfl (lv_at hl 2 rfl) ?_
  refine w_V (As := [.int (nI q), .int x]) (rest := [.int (nI 0), .ref w9]) (hd9 := 13) (A2 := bl w9 1) (pre := []) (x := ⟨0, 10, 13, 13⟩) (suf := [⟨0, 10, 17, 34⟩]) S hK hX (x_X6_receive_2 l hlS E A o z q x hI hq6 h1) gL_receive_X6_receive rfl hd_X6_receive ⟨rfl, rfl⟩ ⟨Nat.le_of_ble_eq_true rfl, Nat.le_of_ble_eq_true rfl⟩ (k_recv hK hP0 rfl) ⟨hP0, hP1⟩ rfl hl.1 rfl (Nat.le_of_ble_eq_true rfl) dL_receive_5 ⟨Nat.le_of_ble_eq_true rfl, Nat.le_of_ble_eq_true rfl⟩ (by decide) (htb.trans rfl) (fun z hz => by cases hz) (by decide) (by decide) (List.mem_cons_of_mem _ (List.mem_append_left _ (List.mem_append_left _ (List.mem_append_left _ (List.mem_append_left _ (List.mem_append_left _ (List.mem_append_left _ (List.mem_append_left _ (List.mem_append_left _ (List.mem_append_left _ (List.mem_of_getElem? (i := 0) rfl))))))))))) rfl (fun q9 H locs zH fH hS => ?_)
  have hkG := gg_fr2 hP0 (fun q h9 _ => fH q h9)
  have hkO := la_fr2 hP2 (fun q h9 _ => fH q h9)
  have hkQ := dz_fr2 hP1 (fun q h9 _ => fH q h9)
  refine lv_astore (lv' := [(4, .ref q9), (0, .ref o), (1, .int (nI q)), (2, .int x), (3, .ref w9)]) hx hb dL_receive_13 hl (by decide) rfl (fun ls hl => ?_)
  refine lv_iconst (v := nI 1) hx hb dL_receive_15 (by decide) ?_
  exact k_iretM hx hb hr hlk dL_receive_16 hS hkO (rfl)
def ry_L_receive_3 : Room := { frames := 7, cells := 1, slots := 6, locals := 104 }
set_option maxHeartbeats 4000000 in
set_option maxRecDepth 100000 in
theorem y_L_receive_3 (l : Launch) (hlS : l.stackTraces = false) (E : ke_E) (A : Nat → Prop) (o : Nat) (z : Nat → Int32) (q : Nat) (k : Nat) (w9 : Nat) (x9 : Int64) (hI : iv z) (hq6 : q < 6) (hk4 : k < 4) (h1 : cn z = 20) (hw9 : w9 + 1 ≤ o ∨ o + 477 ≤ w9) : Met l yL_receive wsL_receive ry_L_receive_3 (kpx E A [.ref o, .int (nI q), .int (nI k), .ref w9] (fun H => gg E o H ∧ dz E (o + 1) z H ∧ la E w9 x9 H)) (qm (some (.int (nI 2))) (bl w9 1) (la E w9 x9)) 1 6 (bl w9 1) := by
  refine w_hd (cc := cL_receive) (maxL := 5) (ret := (some .int)) (hh := [(0, 10, 13, 13), (0, 10, 17, 34)]) (by decide) rfl (Nat.le_of_ble_eq_true rfl) ?_
  intro p e s m below meth c ls S hr hlk htb hK hX hP hl
  have hx := S.1
  have hb := S.2.1
  have hts := S.2.2.2.2
  obtain ⟨hP0, hP1, hP2⟩ := hP
  have hl : lv_has ls 5 [(0, .ref o), (1, .int (nI q)), (2, .int (nI k)), (3, .ref w9)] := hl
  have hS : va_S (bl w9 1) s.heap s.heap [] := va_S.rf
  refine lv_aload_n hx hb dL_receive_0 rfl (lv_at hl 3 rfl) ?_
  refine lv_iconst (v := nI 0) hx hb dL_receive_1 (by decide) ?_
  refine lv_aload_n hx hb dL_receive_2 rfl (lv_at hl 0 rfl) ?_
  refine lv_iload_n hx hb dL_receive_3 rfl (lv_at hl 1 rfl) ?_
  refine lv_iload_n hx hb dL_receive_4 rfl (lv_at hl 2 rfl) ?_
  refine w_V (As := [.int (nI q), .int (nI k)]) (rest := [.int (nI 0), .ref w9]) (hd9 := 17) (A2 := bl w9 1) (pre := [⟨0, 10, 13, 13⟩]) (x := ⟨0, 10, 17, 34⟩) (suf := []) S hK hX (x_X6_receive_3 l hlS E A o z q k hI hq6 hk4 h1) gL_receive_X6_receive rfl hd_X6_receive ⟨rfl, rfl⟩ ⟨Nat.le_of_ble_eq_true rfl, Nat.le_of_ble_eq_true rfl⟩ (k_recv hK hP0 rfl) ⟨hP0, hP1⟩ rfl hl.1 rfl (Nat.le_of_ble_eq_true rfl) dL_receive_5 ⟨Nat.le_of_ble_eq_true rfl, Nat.le_of_ble_eq_true rfl⟩ (by decide) (htb.trans rfl) (fun z hz => by
      rcases List.mem_cons.mp hz with h | hz
      · subst h; exact ⟨by decide, "java/lang/IndexOutOfBoundsException", List.mem_cons_of_mem _ (List.mem_append_left _ (List.mem_append_left _ (List.mem_append_left _ (List.mem_append_left _ (List.mem_append_left _ (List.mem_append_left _ (List.mem_append_left _ (List.mem_append_left _ (List.mem_append_left _ (List.mem_of_getElem? (i := 0) rfl)))))))))), by decide, by decide⟩
      cases hz) (by decide) (by decide) (List.mem_cons_of_mem _ (List.mem_append_left _ (List.mem_append_left _ (List.mem_append_left _ (List.mem_append_left _ (List.mem_append_left _ (List.mem_append_left _ (List.mem_append_left _ (List.mem_append_left _ (List.mem_append_left _ (List.mem_of_getElem? (i := 1) rfl))))))))))) rfl (fun q9 H locs zH fH hS => ?_)
  have hkG := gg_fr2 hP0 (fun q h9 _ => fH q h9)
  have hkO := la_fr2 hP2 (fun q h9 _ => fH q h9)
  have hkQ := dz_fr2 hP1 (fun q h9 _ => fH q h9)
  refine lv_astore (lv' := [(4, .ref q9), (0, .ref o), (1, .int (nI q)), (2, .int (nI k)), (3, .ref w9)]) hx hb dL_receive_17 hl (by decide) rfl (fun ls hl => ?_)
  refine lv_iconst (v := nI 2) hx hb dL_receive_19 (by decide) ?_
  exact k_iretM hx hb hr hlk dL_receive_20 hS hkO (rfl)
def rm_L_test : Room := { frames := 5, cells := 0, slots := 0, locals := 110 }
theorem hd_L_test : k_hd1 yL_test RL 5 := by decide +kernel
set_option maxHeartbeats 4000000 in
set_option maxRecDepth 100000 in
theorem c_L_test (l : Launch) (hlS : l.stackTraces = false) (E : ke_E) (A : Nat → Prop) (o : Nat) (z : Nat → Int32) (sn : Nat) (r : Nat → Int32) (bn : Nat) (f : Nat → Int32) (u : Nat) (t : Nat) (y : Int32) (w9 : Nat) (x9 : Int64) (hI : iv z) (hn6 : sn ≤ 6) (hu : u < cn z) (ht4 : t < 4) (h1 : nI 0 ≤ y ∧ y ≤ nI 9) (h2 : z (13*u + 68) = 0) (hw9 : w9 + 1 ≤ o ∨ o + 477 ≤ w9) : Met l yL_test wsL_test rm_L_test (kpx E A [.ref o, .int (nI u), .int (nI t), .int y, .ref w9] (fun H => gg E o H ∧ dz E (o + 1) z H ∧ tr E (o + 60) H ∧ hy E (o + 119) sn r H ∧ bo E (o + 475) bn (auE (au f bn)) (auS (au f bn)) f H ∧ la E w9 x9 H)) (qm (some (.int (nI 0))) (ow o w9) (fun H => gg E o H ∧ dz E (o + 1) (teZ z u t y) H ∧ tr E (o + 60) H ∧ hy E (o + 119) (svN sn) (svR r z sn) H ∧ bo E (o + 475) bn (auE (au f bn)) (auS (au f bn)) f H ∧ la E w9 ((grT (teZ z u t y) u).toInt64) H)) 0 0 (ow o w9) := by
  refine w_hd (cc := cL_test) (maxL := 6) (ret := (some .int)) (hh := [(0, 12, 15, 13), (0, 12, 19, 15), (0, 12, 23, 34)]) (by decide) rfl (Nat.le_of_ble_eq_true rfl) ?_
  intro p e s m below meth c ls S hr hlk htb hK hX hP hl
  have hx := S.1
  have hb := S.2.1
  have hts := S.2.2.2.2
  obtain ⟨hP0, hP1, hP2, hP3, hP4, hP5⟩ := hP
  have hl : lv_has ls 6 [(0, .ref o), (1, .int (nI u)), (2, .int (nI t)), (3, .int y), (4, .ref w9)] := hl
  have hS : va_S (ow o w9) s.heap s.heap [] := va_S.rf
  refine lv_aload hx hb dL_test_0 (lv_at hl 4 rfl) ?_
  refine lv_iconst (v := nI 0) hx hb dL_test_2 (by decide) ?_
  refine lv_aload_n hx hb dL_test_3 rfl (lv_at hl 0 rfl) ?_
  refine lv_iload_n hx hb dL_test_4 rfl (lv_at hl 1 rfl) ?_
  refine lv_iload_n hx hb dL_test_5 rfl (lv_at hl 2 rfl) ?_
  refine lv_iload_n hx hb dL_test_6 rfl (lv_at hl 3 rfl) ?_
  refine k_VM (As := [.int (nI u), .int (nI t), .int y]) (rest := [.int (nI 0), .ref w9]) S hK (c_X6_test l E o z sn r bn f u t y hI hn6 hu ht4 h1 h2) gL_test_X6_test rfl hd_X6_test ⟨rfl, rfl⟩ ⟨Nat.le_of_ble_eq_true rfl, Nat.le_of_ble_eq_true rfl⟩ (k_recv hK hP0 rfl) ⟨hP0, hP1, hP2, hP3, hP4⟩ rfl hl.1 rfl (Nat.le_of_ble_eq_true rfl) dL_test_7 ⟨Nat.le_of_ble_eq_true rfl, Nat.le_of_ble_eq_true rfl⟩ hS (fun q h => Or.inl h) (fun q h => Or.inl h) (fun H locs hQ zH fH hS => ?_)
  obtain ⟨hR0, hR1, hR2, hR3, hR4⟩ := hQ
  have hV1 := hR0
  have hV2 := hR1
  have hV3 := hR2
  have hV4 := hR3
  have hV5 := hR4
  have hk2 := la_fr2 hP5 (fun q hz hq => fH q hz (bl_ne hq (by omega)))
  refine lv_i2l hx hb dL_test_10 rfl ?_
  refine la_ast hx hb hK hk2 hS (Or.inr ⟨by omega, by omega⟩) dL_test_11 (fun H locs hP zH fH hS => ?_)
  have hV6 := hP
  have hk0 := bo_fr2 hV5 (fun q _ hq => fH q (bl_ne hq (by omega)))
  have hk1 := gg_fr2 hV1 (fun q _ hq => fH q (bl_ne hq (by omega)))
  have hk3 := dz_fr2 hV2 (fun q _ hq => fH q (bl_ne hq (by omega)))
  have hk4 := tr_fr2 hV3 (fun q _ hq => fH q (bl_ne hq (by omega)))
  have hk5 := hy_fr2 hV4 (fun q _ hq => fH q (bl_ne hq (by omega)))
  refine lv_goto (tgt := 27) hx hb dL_test_12 (by decide) ?_
  refine lv_iconst (v := nI 0) hx hb dL_test_27 (by decide) ?_
  exact k_iretM hx hb hr hlk dL_test_28 hS ⟨hk1, hk3, hk4, hk5, hk0, hV6⟩ (rfl)
def ry_L_test_1 : Room := { frames := 8, cells := 1, slots := 6, locals := 127 }
set_option maxHeartbeats 4000000 in
set_option maxRecDepth 100000 in
theorem y_L_test_1 (l : Launch) (hlS : l.stackTraces = false) (E : ke_E) (A : Nat → Prop) (o : Nat) (z : Nat → Int32) (x : Int32) (y : Int32) (w : Int32) (w9 : Nat) (x9 : Int64) (hI : iv z) (h1 : ¬ inR x (cn z)) (hw9 : w9 + 1 ≤ o ∨ o + 477 ≤ w9) : Met l yL_test wsL_test ry_L_test_1 (kpx E A [.ref o, .int x, .int y, .int w, .ref w9] (fun H => gg E o H ∧ dz E (o + 1) z H ∧ la E w9 x9 H)) (qm (some (.int (nI 1))) (bl w9 1) (la E w9 x9)) 1 6 (bl w9 1) := by
  refine w_hd (cc := cL_test) (maxL := 6) (ret := (some .int)) (hh := [(0, 12, 15, 13), (0, 12, 19, 15), (0, 12, 23, 34)]) (by decide) rfl (Nat.le_of_ble_eq_true rfl) ?_
  intro p e s m below meth c ls S hr hlk htb hK hX hP hl
  have hx := S.1
  have hb := S.2.1
  have hts := S.2.2.2.2
  obtain ⟨hP0, hP1, hP2⟩ := hP
  have hl : lv_has ls 6 [(0, .ref o), (1, .int x), (2, .int y), (3, .int w), (4, .ref w9)] := hl
  have hS : va_S (bl w9 1) s.heap s.heap [] := va_S.rf
  refine lv_aload hx hb dL_test_0 (lv_at hl 4 rfl) ?_
  refine lv_iconst (v := nI 0) hx hb dL_test_2 (by decide) ?_
  refine lv_aload_n hx hb dL_test_3 rfl (lv_at hl 0 rfl) ?_
  refine lv_iload_n hx hb dL_test_4 rfl (lv_at hl 1 rfl) ?_
  refine lv_iload_n hx hb dL_test_5 rfl (lv_at hl 2 rfl) ?_
  refine lv_iload_n hx hb dL_test_6 rfl (lv_at hl 3 rfl) ?_
  refine w_V (As := [.int x, .int y, .int w]) (rest := [.int (nI 0), .ref w9]) (hd9 := 15) (A2 := bl w9 1) (pre := []) (x := ⟨0, 12, 15, 13⟩) (suf := [⟨0, 12, 19, 15⟩, ⟨0, 12, 23, 34⟩]) S hK hX (x_X6_test_1 l hlS E A o z x y w hI h1) gL_test_X6_test rfl hd_X6_test ⟨rfl, rfl⟩ ⟨Nat.le_of_ble_eq_true rfl, Nat.le_of_ble_eq_true rfl⟩ (k_recv hK hP0 rfl) ⟨hP0, hP1⟩ rfl hl.1 rfl (Nat.le_of_ble_eq_true rfl) dL_test_7 ⟨Nat.le_of_ble_eq_true rfl, Nat.le_of_ble_eq_true rfl⟩ (by decide) (htb.trans rfl) (fun z hz => by cases hz) (by decide) (by decide) (List.mem_cons_of_mem _ (List.mem_append_left _ (List.mem_append_left _ (List.mem_append_left _ (List.mem_append_left _ (List.mem_append_left _ (List.mem_append_left _ (List.mem_append_left _ (List.mem_append_left _ (List.mem_append_left _ (List.mem_append_left _ (List.mem_of_getElem? (i := 0) rfl)))))))))))) rfl (fun q9 H locs zH fH hS => ?_)
  have hkG := gg_fr2 hP0 (fun q h9 _ => fH q h9)
  have hkO := la_fr2 hP2 (fun q h9 _ => fH q h9)
  have hkQ := dz_fr2 hP1 (fun q h9 _ => fH q h9)
  refine lv_astore (lv' := [(5, .ref q9), (0, .ref o), (1, .int x), (2, .int y), (3, .int w), (4, .ref w9)]) hx hb dL_test_15 hl (by decide) rfl (fun ls hl => ?_)
  refine lv_iconst (v := nI 1) hx hb dL_test_17 (by decide) ?_
  exact k_iretM hx hb hr hlk dL_test_18 hS hkO (rfl)
def ry_L_test_2 : Room := { frames := 7, cells := 1, slots := 6, locals := 106 }
set_option maxHeartbeats 4000000 in
set_option maxRecDepth 100000 in
theorem y_L_test_2 (l : Launch) (hlS : l.stackTraces = false) (E : ke_E) (A : Nat → Prop) (o : Nat) (z : Nat → Int32) (u : Nat) (x : Int32) (y : Int32) (w9 : Nat) (x9 : Int64) (hI : iv z) (hu : u < cn z) (h1 : ¬ inR x 4) (hw9 : w9 + 1 ≤ o ∨ o + 477 ≤ w9) : Met l yL_test wsL_test ry_L_test_2 (kpx E A [.ref o, .int (nI u), .int x, .int y, .ref w9] (fun H => gg E o H ∧ dz E (o + 1) z H ∧ la E w9 x9 H)) (qm (some (.int (nI 1))) (bl w9 1) (la E w9 x9)) 1 6 (bl w9 1) := by
  refine w_hd (cc := cL_test) (maxL := 6) (ret := (some .int)) (hh := [(0, 12, 15, 13), (0, 12, 19, 15), (0, 12, 23, 34)]) (by decide) rfl (Nat.le_of_ble_eq_true rfl) ?_
  intro p e s m below meth c ls S hr hlk htb hK hX hP hl
  have hx := S.1
  have hb := S.2.1
  have hts := S.2.2.2.2
  obtain ⟨hP0, hP1, hP2⟩ := hP
  have hl : lv_has ls 6 [(0, .ref o), (1, .int (nI u)), (2, .int x), (3, .int y), (4, .ref w9)] := hl
  have hS : va_S (bl w9 1) s.heap s.heap [] := va_S.rf
  refine lv_aload hx hb dL_test_0 (lv_at hl 4 rfl) ?_
  refine lv_iconst (v := nI 0) hx hb dL_test_2 (by decide) ?_
  refine lv_aload_n hx hb dL_test_3 rfl (lv_at hl 0 rfl) ?_
  refine lv_iload_n hx hb dL_test_4 rfl (lv_at hl 1 rfl) ?_
  refine lv_iload_n hx hb dL_test_5 rfl (lv_at hl 2 rfl) ?_
  refine lv_iload_n hx hb dL_test_6 rfl (lv_at hl 3 rfl) ?_
  refine w_V (As := [.int (nI u), .int x, .int y]) (rest := [.int (nI 0), .ref w9]) (hd9 := 15) (A2 := bl w9 1) (pre := []) (x := ⟨0, 12, 15, 13⟩) (suf := [⟨0, 12, 19, 15⟩, ⟨0, 12, 23, 34⟩]) S hK hX (x_X6_test_2 l hlS E A o z u x y hI hu h1) gL_test_X6_test rfl hd_X6_test ⟨rfl, rfl⟩ ⟨Nat.le_of_ble_eq_true rfl, Nat.le_of_ble_eq_true rfl⟩ (k_recv hK hP0 rfl) ⟨hP0, hP1⟩ rfl hl.1 rfl (Nat.le_of_ble_eq_true rfl) dL_test_7 ⟨Nat.le_of_ble_eq_true rfl, Nat.le_of_ble_eq_true rfl⟩ (by decide) (htb.trans rfl) (fun z hz => by cases hz) (by decide) (by decide) (List.mem_cons_of_mem _ (List.mem_append_left _ (List.mem_append_left _ (List.mem_append_left _ (List.mem_append_left _ (List.mem_append_left _ (List.mem_append_left _ (List.mem_append_left _ (List.mem_append_left _ (List.mem_append_left _ (List.mem_append_left _ (List.mem_of_getElem? (i := 0) rfl)))))))))))) rfl (fun q9 H locs zH fH hS => ?_)
  have hkG := gg_fr2 hP0 (fun q h9 _ => fH q h9)
  have hkO := la_fr2 hP2 (fun q h9 _ => fH q h9)
  have hkQ := dz_fr2 hP1 (fun q h9 _ => fH q h9)
  refine lv_astore (lv' := [(5, .ref q9), (0, .ref o), (1, .int (nI u)), (2, .int x), (3, .int y), (4, .ref w9)]) hx hb dL_test_15 hl (by decide) rfl (fun ls hl => ?_)
  refine lv_iconst (v := nI 1) hx hb dL_test_17 (by decide) ?_
  exact k_iretM hx hb hr hlk dL_test_18 hS hkO (rfl)
def ry_L_test_3 : Room := { frames := 8, cells := 1, slots := 6, locals := 128 }
set_option maxHeartbeats 4000000 in
set_option maxRecDepth 100000 in
theorem y_L_test_3 (l : Launch) (hlS : l.stackTraces = false) (E : ke_E) (A : Nat → Prop) (o : Nat) (z : Nat → Int32) (u : Nat) (t : Nat) (y : Int32) (w9 : Nat) (x9 : Int64) (hI : iv z) (hu : u < cn z) (ht4 : t < 4) (h1 : ¬ (nI 0 ≤ y ∧ y ≤ nI 9)) (hw9 : w9 + 1 ≤ o ∨ o + 477 ≤ w9) : Met l yL_test wsL_test ry_L_test_3 (kpx E A [.ref o, .int (nI u), .int (nI t), .int y, .ref w9] (fun H => gg E o H ∧ dz E (o + 1) z H ∧ la E w9 x9 H)) (qm (some (.int (nI 2))) (bl w9 1) (la E w9 x9)) 1 6 (bl w9 1) := by
  refine w_hd (cc := cL_test) (maxL := 6) (ret := (some .int)) (hh := [(0, 12, 15, 13), (0, 12, 19, 15), (0, 12, 23, 34)]) (by decide) rfl (Nat.le_of_ble_eq_true rfl) ?_
  intro p e s m below meth c ls S hr hlk htb hK hX hP hl
  have hx := S.1
  have hb := S.2.1
  have hts := S.2.2.2.2
  obtain ⟨hP0, hP1, hP2⟩ := hP
  have hl : lv_has ls 6 [(0, .ref o), (1, .int (nI u)), (2, .int (nI t)), (3, .int y), (4, .ref w9)] := hl
  have hS : va_S (bl w9 1) s.heap s.heap [] := va_S.rf
  refine lv_aload hx hb dL_test_0 (lv_at hl 4 rfl) ?_
  refine lv_iconst (v := nI 0) hx hb dL_test_2 (by decide) ?_
  refine lv_aload_n hx hb dL_test_3 rfl (lv_at hl 0 rfl) ?_
  refine lv_iload_n hx hb dL_test_4 rfl (lv_at hl 1 rfl) ?_
  refine lv_iload_n hx hb dL_test_5 rfl (lv_at hl 2 rfl) ?_
  refine lv_iload_n hx hb dL_test_6 rfl (lv_at hl 3 rfl) ?_
  refine w_V (As := [.int (nI u), .int (nI t), .int y]) (rest := [.int (nI 0), .ref w9]) (hd9 := 19) (A2 := bl w9 1) (pre := [⟨0, 12, 15, 13⟩]) (x := ⟨0, 12, 19, 15⟩) (suf := [⟨0, 12, 23, 34⟩]) S hK hX (x_X6_test_3 l hlS E A o z u t y hI hu ht4 h1) gL_test_X6_test rfl hd_X6_test ⟨rfl, rfl⟩ ⟨Nat.le_of_ble_eq_true rfl, Nat.le_of_ble_eq_true rfl⟩ (k_recv hK hP0 rfl) ⟨hP0, hP1⟩ rfl hl.1 rfl (Nat.le_of_ble_eq_true rfl) dL_test_7 ⟨Nat.le_of_ble_eq_true rfl, Nat.le_of_ble_eq_true rfl⟩ (by decide) (htb.trans rfl) (fun z hz => by
      rcases List.mem_cons.mp hz with h | hz
      · subst h; exact ⟨by decide, "java/lang/IndexOutOfBoundsException", List.mem_cons_of_mem _ (List.mem_append_left _ (List.mem_append_left _ (List.mem_append_left _ (List.mem_append_left _ (List.mem_append_left _ (List.mem_append_left _ (List.mem_append_left _ (List.mem_append_left _ (List.mem_append_left _ (List.mem_append_left _ (List.mem_of_getElem? (i := 0) rfl))))))))))), by decide, by decide⟩
      cases hz) (by decide) (by decide) (List.mem_cons_of_mem _ (List.mem_append_left _ (List.mem_append_left _ (List.mem_append_left _ (List.mem_append_left _ (List.mem_append_left _ (List.mem_append_left _ (List.mem_append_left _ (List.mem_append_left _ (List.mem_append_left _ (List.mem_append_left _ (List.mem_of_getElem? (i := 1) rfl)))))))))))) rfl (fun q9 H locs zH fH hS => ?_)
  have hkG := gg_fr2 hP0 (fun q h9 _ => fH q h9)
  have hkO := la_fr2 hP2 (fun q h9 _ => fH q h9)
  have hkQ := dz_fr2 hP1 (fun q h9 _ => fH q h9)
  refine lv_astore (lv' := [(5, .ref q9), (0, .ref o), (1, .int (nI u)), (2, .int (nI t)), (3, .int y), (4, .ref w9)]) hx hb dL_test_19 hl (by decide) rfl (fun ls hl => ?_)
  refine lv_iconst (v := nI 2) hx hb dL_test_21 (by decide) ?_
  exact k_iretM hx hb hr hlk dL_test_22 hS hkO (rfl)
def ry_L_test_4 : Room := { frames := 7, cells := 1, slots := 6, locals := 106 }
set_option maxHeartbeats 4000000 in
set_option maxRecDepth 100000 in
theorem y_L_test_4 (l : Launch) (hlS : l.stackTraces = false) (E : ke_E) (A : Nat → Prop) (o : Nat) (z : Nat → Int32) (u : Nat) (t : Nat) (y : Int32) (w9 : Nat) (x9 : Int64) (hI : iv z) (hu : u < cn z) (ht4 : t < 4) (h1 : nI 0 ≤ y ∧ y ≤ nI 9) (h2 : ¬ z (13*u + 68) = 0) (hw9 : w9 + 1 ≤ o ∨ o + 477 ≤ w9) : Met l yL_test wsL_test ry_L_test_4 (kpx E A [.ref o, .int (nI u), .int (nI t), .int y, .ref w9] (fun H => gg E o H ∧ dz E (o + 1) z H ∧ la E w9 x9 H)) (qm (some (.int (nI 3))) (bl w9 1) (la E w9 x9)) 1 6 (bl w9 1) := by
  refine w_hd (cc := cL_test) (maxL := 6) (ret := (some .int)) (hh := [(0, 12, 15, 13), (0, 12, 19, 15), (0, 12, 23, 34)]) (by decide) rfl (Nat.le_of_ble_eq_true rfl) ?_
  intro p e s m below meth c ls S hr hlk htb hK hX hP hl
  have hx := S.1
  have hb := S.2.1
  have hts := S.2.2.2.2
  obtain ⟨hP0, hP1, hP2⟩ := hP
  have hl : lv_has ls 6 [(0, .ref o), (1, .int (nI u)), (2, .int (nI t)), (3, .int y), (4, .ref w9)] := hl
  have hS : va_S (bl w9 1) s.heap s.heap [] := va_S.rf
  refine lv_aload hx hb dL_test_0 (lv_at hl 4 rfl) ?_
  refine lv_iconst (v := nI 0) hx hb dL_test_2 (by decide) ?_
  refine lv_aload_n hx hb dL_test_3 rfl (lv_at hl 0 rfl) ?_
  refine lv_iload_n hx hb dL_test_4 rfl (lv_at hl 1 rfl) ?_
  refine lv_iload_n hx hb dL_test_5 rfl (lv_at hl 2 rfl) ?_
  refine lv_iload_n hx hb dL_test_6 rfl (lv_at hl 3 rfl) ?_
  refine w_V (As := [.int (nI u), .int (nI t), .int y]) (rest := [.int (nI 0), .ref w9]) (hd9 := 23) (A2 := bl w9 1) (pre := [⟨0, 12, 15, 13⟩, ⟨0, 12, 19, 15⟩]) (x := ⟨0, 12, 23, 34⟩) (suf := []) S hK hX (x_X6_test_4 l hlS E A o z u t y hI hu ht4 h1 h2) gL_test_X6_test rfl hd_X6_test ⟨rfl, rfl⟩ ⟨Nat.le_of_ble_eq_true rfl, Nat.le_of_ble_eq_true rfl⟩ (k_recv hK hP0 rfl) ⟨hP0, hP1⟩ rfl hl.1 rfl (Nat.le_of_ble_eq_true rfl) dL_test_7 ⟨Nat.le_of_ble_eq_true rfl, Nat.le_of_ble_eq_true rfl⟩ (by decide) (htb.trans rfl) (fun z hz => by
      rcases List.mem_cons.mp hz with h | hz
      · subst h; exact ⟨by decide, "java/lang/IndexOutOfBoundsException", List.mem_cons_of_mem _ (List.mem_append_left _ (List.mem_append_left _ (List.mem_append_left _ (List.mem_append_left _ (List.mem_append_left _ (List.mem_append_left _ (List.mem_append_left _ (List.mem_append_left _ (List.mem_append_left _ (List.mem_append_left _ (List.mem_of_getElem? (i := 0) rfl))))))))))), by decide, by decide⟩
      rcases List.mem_cons.mp hz with h | hz
      · subst h; exact ⟨by decide, "java/lang/IllegalArgumentException", List.mem_cons_of_mem _ (List.mem_append_left _ (List.mem_append_left _ (List.mem_append_left _ (List.mem_append_left _ (List.mem_append_left _ (List.mem_append_left _ (List.mem_append_left _ (List.mem_append_left _ (List.mem_append_left _ (List.mem_append_left _ (List.mem_of_getElem? (i := 1) rfl))))))))))), by decide, by decide⟩
      cases hz) (by decide) (by decide) (List.mem_cons_of_mem _ (List.mem_append_left _ (List.mem_append_left _ (List.mem_append_left _ (List.mem_append_left _ (List.mem_append_left _ (List.mem_append_left _ (List.mem_append_left _ (List.mem_append_left _ (List.mem_append_left _ (List.mem_append_left _ (List.mem_of_getElem? (i := 2) rfl)))))))))))) rfl (fun q9 H locs zH fH hS => ?_)
  have hkG := gg_fr2 hP0 (fun q h9 _ => fH q h9)
  have hkO := la_fr2 hP2 (fun q h9 _ => fH q h9)
  have hkQ := dz_fr2 hP1 (fun q h9 _ => fH q h9)
  refine lv_astore (lv' := [(5, .ref q9), (0, .ref o), (1, .int (nI u)), (2, .int (nI t)), (3, .int y), (4, .ref w9)]) hx hb dL_test_23 hl (by decide) rfl (fun ls hl => ?_)
  refine lv_iconst (v := nI 3) hx hb dL_test_25 (by decide) ?_
  exact k_iretM hx hb hr hlk dL_test_26 hS hkO (rfl)
def rm_L_send_1 : Room := { frames := 5, cells := 0, slots := 0, locals := 109 }
theorem hd_L_send : k_hd1 yL_send RL 4 := by decide +kernel
set_option maxHeartbeats 4000000 in
set_option maxRecDepth 100000 in
theorem c_L_send_1 (l : Launch) (hlS : l.stackTraces = false) (E : ke_E) (A : Nat → Prop) (o : Nat) (z : Nat → Int32) (sn : Nat) (r : Nat → Int32) (bn : Nat) (f : Nat → Int32) (u : Nat) (w9 : Nat) (x9 : Int64) (hI : iv z) (hn6 : sn ≤ 6) (hu : u < cn z) (h1 : wy1 z u = 0) (hw9 : w9 + 1 ≤ o ∨ o + 477 ≤ w9) : Met l yL_send wsL_send rm_L_send_1 (kpx E A [.ref o, .int (nI u), .int (nI 1), .ref w9] (fun H => gg E o H ∧ dz E (o + 1) z H ∧ tr E (o + 60) H ∧ hy E (o + 119) sn r H ∧ bo E (o + 475) bn (auE (au f bn)) (auS (au f bn)) f H ∧ la E w9 x9 H)) (qm (some (.int (nI 0))) (ow o w9) (fun H => gg E o H ∧ dz E (o + 1) (sdZ z u 1) H ∧ tr E (o + 60) H ∧ hy E (o + 119) (svN sn) (svR r z sn) H ∧ bo E (o + 475) bn (auE (au f bn)) (auS (au f bn)) f H ∧ la E w9 ((brg z u 1).toInt64) H)) 0 0 (ow o w9) := by
  refine w_hd (cc := cL_send) (maxL := 5) (ret := (some .int)) (hh := [(0, 10, 13, 13), (0, 10, 17, 15), (0, 10, 21, 34)]) (by decide) rfl (Nat.le_of_ble_eq_true rfl) ?_
  intro p e s m below meth c ls S hr hlk htb hK hX hP hl
  have hx := S.1
  have hb := S.2.1
  have hts := S.2.2.2.2
  obtain ⟨hP0, hP1, hP2, hP3, hP4, hP5⟩ := hP
  have hl : lv_has ls 5 [(0, .ref o), (1, .int (nI u)), (2, .int (nI 1)), (3, .ref w9)] := hl
  have hS : va_S (ow o w9) s.heap s.heap [] := va_S.rf
  refine lv_aload_n hx hb dL_send_0 rfl (lv_at hl 3 rfl) ?_
  refine lv_iconst (v := nI 0) hx hb dL_send_1 (by decide) ?_
  refine lv_aload_n hx hb dL_send_2 rfl (lv_at hl 0 rfl) ?_
  refine lv_iload_n hx hb dL_send_3 rfl (lv_at hl 1 rfl) ?_
  refine lv_iload_n hx hb dL_send_4 rfl (lv_at hl 2 rfl) ?_
  refine k_VM (As := [.int (nI u), .int (nI 1)]) (rest := [.int (nI 0), .ref w9]) S hK (c_X6_send_1 l E o z sn r bn f u hI hn6 hu h1) gL_send_X6_send rfl hd_X6_send ⟨rfl, rfl⟩ ⟨Nat.le_of_ble_eq_true rfl, Nat.le_of_ble_eq_true rfl⟩ (k_recv hK hP0 rfl) ⟨hP0, hP1, hP2, hP3, hP4⟩ rfl hl.1 rfl (Nat.le_of_ble_eq_true rfl) dL_send_5 ⟨Nat.le_of_ble_eq_true rfl, Nat.le_of_ble_eq_true rfl⟩ hS (fun q h => Or.inl h) (fun q h => Or.inl h) (fun H locs hQ zH fH hS => ?_)
  obtain ⟨hR0, hR1, hR2, hR3, hR4⟩ := hQ
  have hV1 := hR0
  have hV2 := hR1
  have hV3 := hR2
  have hV4 := hR3
  have hV5 := hR4
  have hk2 := la_fr2 hP5 (fun q hz hq => fH q hz (bl_ne hq (by omega)))
  refine lv_i2l hx hb dL_send_8 rfl ?_
  refine la_ast hx hb hK hk2 hS (Or.inr ⟨by omega, by omega⟩) dL_send_9 (fun H locs hP zH fH hS => ?_)
  have hV6 := hP
  have hk0 := bo_fr2 hV5 (fun q _ hq => fH q (bl_ne hq (by omega)))
  have hk1 := gg_fr2 hV1 (fun q _ hq => fH q (bl_ne hq (by omega)))
  have hk3 := dz_fr2 hV2 (fun q _ hq => fH q (bl_ne hq (by omega)))
  have hk4 := tr_fr2 hV3 (fun q _ hq => fH q (bl_ne hq (by omega)))
  have hk5 := hy_fr2 hV4 (fun q _ hq => fH q (bl_ne hq (by omega)))
  refine lv_goto (tgt := 25) hx hb dL_send_10 (by decide) ?_
  refine lv_iconst (v := nI 0) hx hb dL_send_25 (by decide) ?_
  exact k_iretM hx hb hr hlk dL_send_26 hS ⟨hk1, hk3, hk4, hk5, hk0, hV6⟩ (rfl)
def rm_L_send_2 : Room := { frames := 6, cells := 0, slots := 0, locals := 133 }
set_option maxHeartbeats 4000000 in
set_option maxRecDepth 100000 in
theorem c_L_send_2 (l : Launch) (hlS : l.stackTraces = false) (E : ke_E) (A : Nat → Prop) (o : Nat) (z : Nat → Int32) (sn : Nat) (r : Nat → Int32) (bn : Nat) (f : Nat → Int32) (u : Nat) (w9 : Nat) (x9 : Int64) (hI : iv z) (hn6 : sn ≤ 6) (hu : u < cn z) (h1 : wy2 z u = 0) (hw9 : w9 + 1 ≤ o ∨ o + 477 ≤ w9) : Met l yL_send wsL_send rm_L_send_2 (kpx E A [.ref o, .int (nI u), .int (nI 2), .ref w9] (fun H => gg E o H ∧ dz E (o + 1) z H ∧ tr E (o + 60) H ∧ hy E (o + 119) sn r H ∧ bo E (o + 475) bn (auE (au f bn)) (auS (au f bn)) f H ∧ la E w9 x9 H)) (qm (some (.int (nI 0))) (ow o w9) (fun H => gg E o H ∧ dz E (o + 1) (sdZ z u 2) H ∧ tr E (o + 60) H ∧ hy E (o + 119) (svN sn) (svR r z sn) H ∧ bo E (o + 475) bn (auE (au f bn)) (auS (au f bn)) f H ∧ la E w9 ((brg z u 2).toInt64) H)) 0 0 (ow o w9) := by
  refine w_hd (cc := cL_send) (maxL := 5) (ret := (some .int)) (hh := [(0, 10, 13, 13), (0, 10, 17, 15), (0, 10, 21, 34)]) (by decide) rfl (Nat.le_of_ble_eq_true rfl) ?_
  intro p e s m below meth c ls S hr hlk htb hK hX hP hl
  have hx := S.1
  have hb := S.2.1
  have hts := S.2.2.2.2
  obtain ⟨hP0, hP1, hP2, hP3, hP4, hP5⟩ := hP
  have hl : lv_has ls 5 [(0, .ref o), (1, .int (nI u)), (2, .int (nI 2)), (3, .ref w9)] := hl
  have hS : va_S (ow o w9) s.heap s.heap [] := va_S.rf
  refine lv_aload_n hx hb dL_send_0 rfl (lv_at hl 3 rfl) ?_
  refine lv_iconst (v := nI 0) hx hb dL_send_1 (by decide) ?_
  refine lv_aload_n hx hb dL_send_2 rfl (lv_at hl 0 rfl) ?_
  refine lv_iload_n hx hb dL_send_3 rfl (lv_at hl 1 rfl) ?_
  refine lv_iload_n hx hb dL_send_4 rfl (lv_at hl 2 rfl) ?_
  refine k_VM (As := [.int (nI u), .int (nI 2)]) (rest := [.int (nI 0), .ref w9]) S hK (c_X6_send_2 l E o z sn r bn f u hI hn6 hu h1) gL_send_X6_send rfl hd_X6_send ⟨rfl, rfl⟩ ⟨Nat.le_of_ble_eq_true rfl, Nat.le_of_ble_eq_true rfl⟩ (k_recv hK hP0 rfl) ⟨hP0, hP1, hP2, hP3, hP4⟩ rfl hl.1 rfl (Nat.le_of_ble_eq_true rfl) dL_send_5 ⟨Nat.le_of_ble_eq_true rfl, Nat.le_of_ble_eq_true rfl⟩ hS (fun q h => Or.inl h) (fun q h => Or.inl h) (fun H locs hQ zH fH hS => ?_)
  obtain ⟨hR0, hR1, hR2, hR3, hR4⟩ := hQ
  have hV1 := hR0
  have hV2 := hR1
  have hV3 := hR2
  have hV4 := hR3
  have hV5 := hR4
  have hk2 := la_fr2 hP5 (fun q hz hq => fH q hz (bl_ne hq (by omega)))
  refine lv_i2l hx hb dL_send_8 rfl ?_
  refine la_ast hx hb hK hk2 hS (Or.inr ⟨by omega, by omega⟩) dL_send_9 (fun H locs hP zH fH hS => ?_)
  have hV6 := hP
  have hk0 := bo_fr2 hV5 (fun q _ hq => fH q (bl_ne hq (by omega)))
  have hk1 := gg_fr2 hV1 (fun q _ hq => fH q (bl_ne hq (by omega)))
  have hk3 := dz_fr2 hV2 (fun q _ hq => fH q (bl_ne hq (by omega)))
  have hk4 := tr_fr2 hV3 (fun q _ hq => fH q (bl_ne hq (by omega)))
  have hk5 := hy_fr2 hV4 (fun q _ hq => fH q (bl_ne hq (by omega)))
  refine lv_goto (tgt := 25) hx hb dL_send_10 (by decide) ?_
  refine lv_iconst (v := nI 0) hx hb dL_send_25 (by decide) ?_
  exact k_iretM hx hb hr hlk dL_send_26 hS ⟨hk1, hk3, hk4, hk5, hk0, hV6⟩ (rfl)
def rm_L_send_3 : Room := { frames := 5, cells := 0, slots := 0, locals := 109 }
set_option maxHeartbeats 4000000 in
set_option maxRecDepth 100000 in
theorem c_L_send_3 (l : Launch) (hlS : l.stackTraces = false) (E : ke_E) (A : Nat → Prop) (o : Nat) (z : Nat → Int32) (sn : Nat) (r : Nat → Int32) (bn : Nat) (f : Nat → Int32) (u : Nat) (w9 : Nat) (x9 : Int64) (hI : iv z) (hn6 : sn ≤ 6) (hu : u < cn z) (h1 : wy3 z u = 0) (hw9 : w9 + 1 ≤ o ∨ o + 477 ≤ w9) : Met l yL_send wsL_send rm_L_send_3 (kpx E A [.ref o, .int (nI u), .int (nI 3), .ref w9] (fun H => gg E o H ∧ dz E (o + 1) z H ∧ tr E (o + 60) H ∧ hy E (o + 119) sn r H ∧ bo E (o + 475) bn (auE (au f bn)) (auS (au f bn)) f H ∧ la E w9 x9 H)) (qm (some (.int (nI 0))) (ow o w9) (fun H => gg E o H ∧ dz E (o + 1) (sdZ z u 3) H ∧ tr E (o + 60) H ∧ hy E (o + 119) (svN sn) (svR r z sn) H ∧ bo E (o + 475) bn (auE (au f bn)) (auS (au f bn)) f H ∧ la E w9 ((brg z u 3).toInt64) H)) 0 0 (ow o w9) := by
  refine w_hd (cc := cL_send) (maxL := 5) (ret := (some .int)) (hh := [(0, 10, 13, 13), (0, 10, 17, 15), (0, 10, 21, 34)]) (by decide) rfl (Nat.le_of_ble_eq_true rfl) ?_
  intro p e s m below meth c ls S hr hlk htb hK hX hP hl
  have hx := S.1
  have hb := S.2.1
  have hts := S.2.2.2.2
  obtain ⟨hP0, hP1, hP2, hP3, hP4, hP5⟩ := hP
  have hl : lv_has ls 5 [(0, .ref o), (1, .int (nI u)), (2, .int (nI 3)), (3, .ref w9)] := hl
  have hS : va_S (ow o w9) s.heap s.heap [] := va_S.rf
  refine lv_aload_n hx hb dL_send_0 rfl (lv_at hl 3 rfl) ?_
  refine lv_iconst (v := nI 0) hx hb dL_send_1 (by decide) ?_
  refine lv_aload_n hx hb dL_send_2 rfl (lv_at hl 0 rfl) ?_
  refine lv_iload_n hx hb dL_send_3 rfl (lv_at hl 1 rfl) ?_
  refine lv_iload_n hx hb dL_send_4 rfl (lv_at hl 2 rfl) ?_
  refine k_VM (As := [.int (nI u), .int (nI 3)]) (rest := [.int (nI 0), .ref w9]) S hK (c_X6_send_3 l E o z sn r bn f u hI hn6 hu h1) gL_send_X6_send rfl hd_X6_send ⟨rfl, rfl⟩ ⟨Nat.le_of_ble_eq_true rfl, Nat.le_of_ble_eq_true rfl⟩ (k_recv hK hP0 rfl) ⟨hP0, hP1, hP2, hP3, hP4⟩ rfl hl.1 rfl (Nat.le_of_ble_eq_true rfl) dL_send_5 ⟨Nat.le_of_ble_eq_true rfl, Nat.le_of_ble_eq_true rfl⟩ hS (fun q h => Or.inl h) (fun q h => Or.inl h) (fun H locs hQ zH fH hS => ?_)
  obtain ⟨hR0, hR1, hR2, hR3, hR4⟩ := hQ
  have hV1 := hR0
  have hV2 := hR1
  have hV3 := hR2
  have hV4 := hR3
  have hV5 := hR4
  have hk2 := la_fr2 hP5 (fun q hz hq => fH q hz (bl_ne hq (by omega)))
  refine lv_i2l hx hb dL_send_8 rfl ?_
  refine la_ast hx hb hK hk2 hS (Or.inr ⟨by omega, by omega⟩) dL_send_9 (fun H locs hP zH fH hS => ?_)
  have hV6 := hP
  have hk0 := bo_fr2 hV5 (fun q _ hq => fH q (bl_ne hq (by omega)))
  have hk1 := gg_fr2 hV1 (fun q _ hq => fH q (bl_ne hq (by omega)))
  have hk3 := dz_fr2 hV2 (fun q _ hq => fH q (bl_ne hq (by omega)))
  have hk4 := tr_fr2 hV3 (fun q _ hq => fH q (bl_ne hq (by omega)))
  have hk5 := hy_fr2 hV4 (fun q _ hq => fH q (bl_ne hq (by omega)))
  refine lv_goto (tgt := 25) hx hb dL_send_10 (by decide) ?_
  refine lv_iconst (v := nI 0) hx hb dL_send_25 (by decide) ?_
  exact k_iretM hx hb hr hlk dL_send_26 hS ⟨hk1, hk3, hk4, hk5, hk0, hV6⟩ (rfl)
def rm_L_send_4 : Room := { frames := 5, cells := 0, slots := 0, locals := 110 }
set_option maxHeartbeats 4000000 in
set_option maxRecDepth 100000 in
theorem c_L_send_4 (l : Launch) (hlS : l.stackTraces = false) (E : ke_E) (A : Nat → Prop) (o : Nat) (z : Nat → Int32) (sn : Nat) (r : Nat → Int32) (bn : Nat) (f : Nat → Int32) (u : Nat) (w9 : Nat) (x9 : Int64) (hI : iv z) (hn6 : sn ≤ 6) (hu : u < cn z) (h1 : wy4 z u = 0) (hw9 : w9 + 1 ≤ o ∨ o + 477 ≤ w9) : Met l yL_send wsL_send rm_L_send_4 (kpx E A [.ref o, .int (nI u), .int (nI 4), .ref w9] (fun H => gg E o H ∧ dz E (o + 1) z H ∧ tr E (o + 60) H ∧ hy E (o + 119) sn r H ∧ bo E (o + 475) bn (auE (au f bn)) (auS (au f bn)) f H ∧ la E w9 x9 H)) (qm (some (.int (nI 0))) (ow o w9) (fun H => gg E o H ∧ dz E (o + 1) (sdZ z u 4) H ∧ tr E (o + 60) H ∧ hy E (o + 119) (svN sn) (svR r z sn) H ∧ bo E (o + 475) bn (auE (au f bn)) (auS (au f bn)) f H ∧ la E w9 ((brg z u 4).toInt64) H)) 0 0 (ow o w9) := by
  refine w_hd (cc := cL_send) (maxL := 5) (ret := (some .int)) (hh := [(0, 10, 13, 13), (0, 10, 17, 15), (0, 10, 21, 34)]) (by decide) rfl (Nat.le_of_ble_eq_true rfl) ?_
  intro p e s m below meth c ls S hr hlk htb hK hX hP hl
  have hx := S.1
  have hb := S.2.1
  have hts := S.2.2.2.2
  obtain ⟨hP0, hP1, hP2, hP3, hP4, hP5⟩ := hP
  have hl : lv_has ls 5 [(0, .ref o), (1, .int (nI u)), (2, .int (nI 4)), (3, .ref w9)] := hl
  have hS : va_S (ow o w9) s.heap s.heap [] := va_S.rf
  refine lv_aload_n hx hb dL_send_0 rfl (lv_at hl 3 rfl) ?_
  refine lv_iconst (v := nI 0) hx hb dL_send_1 (by decide) ?_
  refine lv_aload_n hx hb dL_send_2 rfl (lv_at hl 0 rfl) ?_
  refine lv_iload_n hx hb dL_send_3 rfl (lv_at hl 1 rfl) ?_
  refine lv_iload_n hx hb dL_send_4 rfl (lv_at hl 2 rfl) ?_
  refine k_VM (As := [.int (nI u), .int (nI 4)]) (rest := [.int (nI 0), .ref w9]) S hK (c_X6_send_4 l E o z sn r bn f u hI hn6 hu h1) gL_send_X6_send rfl hd_X6_send ⟨rfl, rfl⟩ ⟨Nat.le_of_ble_eq_true rfl, Nat.le_of_ble_eq_true rfl⟩ (k_recv hK hP0 rfl) ⟨hP0, hP1, hP2, hP3, hP4⟩ rfl hl.1 rfl (Nat.le_of_ble_eq_true rfl) dL_send_5 ⟨Nat.le_of_ble_eq_true rfl, Nat.le_of_ble_eq_true rfl⟩ hS (fun q h => Or.inl h) (fun q h => Or.inl h) (fun H locs hQ zH fH hS => ?_)
  obtain ⟨hR0, hR1, hR2, hR3, hR4⟩ := hQ
  have hV1 := hR0
  have hV2 := hR1
  have hV3 := hR2
  have hV4 := hR3
  have hV5 := hR4
  have hk2 := la_fr2 hP5 (fun q hz hq => fH q hz (bl_ne hq (by omega)))
  refine lv_i2l hx hb dL_send_8 rfl ?_
  refine la_ast hx hb hK hk2 hS (Or.inr ⟨by omega, by omega⟩) dL_send_9 (fun H locs hP zH fH hS => ?_)
  have hV6 := hP
  have hk0 := bo_fr2 hV5 (fun q _ hq => fH q (bl_ne hq (by omega)))
  have hk1 := gg_fr2 hV1 (fun q _ hq => fH q (bl_ne hq (by omega)))
  have hk3 := dz_fr2 hV2 (fun q _ hq => fH q (bl_ne hq (by omega)))
  have hk4 := tr_fr2 hV3 (fun q _ hq => fH q (bl_ne hq (by omega)))
  have hk5 := hy_fr2 hV4 (fun q _ hq => fH q (bl_ne hq (by omega)))
  refine lv_goto (tgt := 25) hx hb dL_send_10 (by decide) ?_
  refine lv_iconst (v := nI 0) hx hb dL_send_25 (by decide) ?_
  exact k_iretM hx hb hr hlk dL_send_26 hS ⟨hk1, hk3, hk4, hk5, hk0, hV6⟩ (rfl)
def ry_L_send_1 : Room := { frames := 8, cells := 1, slots := 6, locals := 126 }
set_option maxHeartbeats 4000000 in
set_option maxRecDepth 100000 in
theorem y_L_send_1 (l : Launch) (hlS : l.stackTraces = false) (E : ke_E) (A : Nat → Prop) (o : Nat) (z : Nat → Int32) (x : Int32) (y : Int32) (w9 : Nat) (x9 : Int64) (hI : iv z) (h1 : ¬ inR x (cn z)) (hw9 : w9 + 1 ≤ o ∨ o + 477 ≤ w9) : Met l yL_send wsL_send ry_L_send_1 (kpx E A [.ref o, .int x, .int y, .ref w9] (fun H => gg E o H ∧ dz E (o + 1) z H ∧ la E w9 x9 H)) (qm (some (.int (nI 1))) (bl w9 1) (la E w9 x9)) 1 6 (bl w9 1) := by
  refine w_hd (cc := cL_send) (maxL := 5) (ret := (some .int)) (hh := [(0, 10, 13, 13), (0, 10, 17, 15), (0, 10, 21, 34)]) (by decide) rfl (Nat.le_of_ble_eq_true rfl) ?_
  intro p e s m below meth c ls S hr hlk htb hK hX hP hl
  have hx := S.1
  have hb := S.2.1
  have hts := S.2.2.2.2
  obtain ⟨hP0, hP1, hP2⟩ := hP
  have hl : lv_has ls 5 [(0, .ref o), (1, .int x), (2, .int y), (3, .ref w9)] := hl
  have hS : va_S (bl w9 1) s.heap s.heap [] := va_S.rf
  refine lv_aload_n hx hb dL_send_0 rfl (lv_at hl 3 rfl) ?_
  refine lv_iconst (v := nI 0) hx hb dL_send_1 (by decide) ?_
  refine lv_aload_n hx hb dL_send_2 rfl (lv_at hl 0 rfl) ?_
  refine lv_iload_n hx hb dL_send_3 rfl (lv_at hl 1 rfl) ?_
  refine lv_iload_n hx hb dL_send_4 rfl (lv_at hl 2 rfl) ?_
  refine w_V (As := [.int x, .int y]) (rest := [.int (nI 0), .ref w9]) (hd9 := 13) (A2 := bl w9 1) (pre := []) (x := ⟨0, 10, 13, 13⟩) (suf := [⟨0, 10, 17, 15⟩, ⟨0, 10, 21, 34⟩]) S hK hX (x_X6_send_1 l hlS E A o z x y hI h1) gL_send_X6_send rfl hd_X6_send ⟨rfl, rfl⟩ ⟨Nat.le_of_ble_eq_true rfl, Nat.le_of_ble_eq_true rfl⟩ (k_recv hK hP0 rfl) ⟨hP0, hP1⟩ rfl hl.1 rfl (Nat.le_of_ble_eq_true rfl) dL_send_5 ⟨Nat.le_of_ble_eq_true rfl, Nat.le_of_ble_eq_true rfl⟩ (by decide) (htb.trans rfl) (fun z hz => by cases hz) (by decide) (by decide) (List.mem_cons_of_mem _ (List.mem_append_left _ (List.mem_append_left _ (List.mem_append_left _ (List.mem_append_left _ (List.mem_append_left _ (List.mem_append_left _ (List.mem_append_left _ (List.mem_append_left _ (List.mem_append_left _ (List.mem_append_left _ (List.mem_of_getElem? (i := 0) rfl)))))))))))) rfl (fun q9 H locs zH fH hS => ?_)
  have hkG := gg_fr2 hP0 (fun q h9 _ => fH q h9)
  have hkO := la_fr2 hP2 (fun q h9 _ => fH q h9)
  have hkQ := dz_fr2 hP1 (fun q h9 _ => fH q h9)
  refine lv_astore (lv' := [(4, .ref q9), (0, .ref o), (1, .int x), (2, .int y), (3, .ref w9)]) hx hb dL_send_13 hl (by decide) rfl (fun ls hl => ?_)
  refine lv_iconst (v := nI 1) hx hb dL_send_15 (by decide) ?_
  exact k_iretM hx hb hr hlk dL_send_16 hS hkO (rfl)
def ry_L_send_2 : Room := { frames := 8, cells := 1, slots := 6, locals := 127 }
set_option maxHeartbeats 4000000 in
set_option maxRecDepth 100000 in
theorem y_L_send_2 (l : Launch) (hlS : l.stackTraces = false) (E : ke_E) (A : Nat → Prop) (o : Nat) (z : Nat → Int32) (u : Nat) (y : Int32) (w9 : Nat) (x9 : Int64) (hI : iv z) (hu : u < cn z) (h1 : ¬ (nI 1 ≤ y ∧ y ≤ nI 4)) (hw9 : w9 + 1 ≤ o ∨ o + 477 ≤ w9) : Met l yL_send wsL_send ry_L_send_2 (kpx E A [.ref o, .int (nI u), .int y, .ref w9] (fun H => gg E o H ∧ dz E (o + 1) z H ∧ la E w9 x9 H)) (qm (some (.int (nI 2))) (bl w9 1) (la E w9 x9)) 1 6 (bl w9 1) := by
  refine w_hd (cc := cL_send) (maxL := 5) (ret := (some .int)) (hh := [(0, 10, 13, 13), (0, 10, 17, 15), (0, 10, 21, 34)]) (by decide) rfl (Nat.le_of_ble_eq_true rfl) ?_
  intro p e s m below meth c ls S hr hlk htb hK hX hP hl
  have hx := S.1
  have hb := S.2.1
  have hts := S.2.2.2.2
  obtain ⟨hP0, hP1, hP2⟩ := hP
  have hl : lv_has ls 5 [(0, .ref o), (1, .int (nI u)), (2, .int y), (3, .ref w9)] := hl
  have hS : va_S (bl w9 1) s.heap s.heap [] := va_S.rf
  refine lv_aload_n hx hb dL_send_0 rfl (lv_at hl 3 rfl) ?_
  refine lv_iconst (v := nI 0) hx hb dL_send_1 (by decide) ?_
  refine lv_aload_n hx hb dL_send_2 rfl (lv_at hl 0 rfl) ?_
  refine lv_iload_n hx hb dL_send_3 rfl (lv_at hl 1 rfl) ?_
  refine lv_iload_n hx hb dL_send_4 rfl (lv_at hl 2 rfl) ?_
  refine w_V (As := [.int (nI u), .int y]) (rest := [.int (nI 0), .ref w9]) (hd9 := 17) (A2 := bl w9 1) (pre := [⟨0, 10, 13, 13⟩]) (x := ⟨0, 10, 17, 15⟩) (suf := [⟨0, 10, 21, 34⟩]) S hK hX (x_X6_send_2 l hlS E A o z u y hI hu h1) gL_send_X6_send rfl hd_X6_send ⟨rfl, rfl⟩ ⟨Nat.le_of_ble_eq_true rfl, Nat.le_of_ble_eq_true rfl⟩ (k_recv hK hP0 rfl) ⟨hP0, hP1⟩ rfl hl.1 rfl (Nat.le_of_ble_eq_true rfl) dL_send_5 ⟨Nat.le_of_ble_eq_true rfl, Nat.le_of_ble_eq_true rfl⟩ (by decide) (htb.trans rfl) (fun z hz => by
      rcases List.mem_cons.mp hz with h | hz
      · subst h; exact ⟨by decide, "java/lang/IndexOutOfBoundsException", List.mem_cons_of_mem _ (List.mem_append_left _ (List.mem_append_left _ (List.mem_append_left _ (List.mem_append_left _ (List.mem_append_left _ (List.mem_append_left _ (List.mem_append_left _ (List.mem_append_left _ (List.mem_append_left _ (List.mem_append_left _ (List.mem_of_getElem? (i := 0) rfl))))))))))), by decide, by decide⟩
      cases hz) (by decide) (by decide) (List.mem_cons_of_mem _ (List.mem_append_left _ (List.mem_append_left _ (List.mem_append_left _ (List.mem_append_left _ (List.mem_append_left _ (List.mem_append_left _ (List.mem_append_left _ (List.mem_append_left _ (List.mem_append_left _ (List.mem_append_left _ (List.mem_of_getElem? (i := 1) rfl)))))))))))) rfl (fun q9 H locs zH fH hS => ?_)
  have hkG := gg_fr2 hP0 (fun q h9 _ => fH q h9)
  have hkO := la_fr2 hP2 (fun q h9 _ => fH q h9)
  have hkQ := dz_fr2 hP1 (fun q h9 _ => fH q h9)
  refine lv_astore (lv' := [(4, .ref q9), (0, .ref o), (1, .int (nI u)), (2, .int y), (3, .ref w9)]) hx hb dL_send_17 hl (by decide) rfl (fun ls hl => ?_)
  refine lv_iconst (v := nI 2) hx hb dL_send_19 (by decide) ?_
  exact k_iretM hx hb hr hlk dL_send_20 hS hkO (rfl)
def ry_L_send_3_1 : Room := { frames := 7, cells := 1, slots := 6, locals := 109 }
set_option maxHeartbeats 4000000 in
set_option maxRecDepth 100000 in
theorem y_L_send_3_1 (l : Launch) (hlS : l.stackTraces = false) (E : ke_E) (A : Nat → Prop) (o : Nat) (z : Nat → Int32) (u : Nat) (w9 : Nat) (x9 : Int64) (hI : iv z) (hu : u < cn z) (h1 : ¬ wy1 z u = 0) (hw9 : w9 + 1 ≤ o ∨ o + 477 ≤ w9) : Met l yL_send wsL_send ry_L_send_3_1 (kpx E A [.ref o, .int (nI u), .int (nI 1), .ref w9] (fun H => gg E o H ∧ dz E (o + 1) z H ∧ la E w9 x9 H)) (qm (some (.int (nI 3))) (bl w9 1) (la E w9 x9)) 1 6 (bl w9 1) := by
  refine w_hd (cc := cL_send) (maxL := 5) (ret := (some .int)) (hh := [(0, 10, 13, 13), (0, 10, 17, 15), (0, 10, 21, 34)]) (by decide) rfl (Nat.le_of_ble_eq_true rfl) ?_
  intro p e s m below meth c ls S hr hlk htb hK hX hP hl
  have hx := S.1
  have hb := S.2.1
  have hts := S.2.2.2.2
  obtain ⟨hP0, hP1, hP2⟩ := hP
  have hl : lv_has ls 5 [(0, .ref o), (1, .int (nI u)), (2, .int (nI 1)), (3, .ref w9)] := hl
  have hS : va_S (bl w9 1) s.heap s.heap [] := va_S.rf
  refine lv_aload_n hx hb dL_send_0 rfl (lv_at hl 3 rfl) ?_
  refine lv_iconst (v := nI 0) hx hb dL_send_1 (by decide) ?_
  refine lv_aload_n hx hb dL_send_2 rfl (lv_at hl 0 rfl) ?_
  refine lv_iload_n hx hb dL_send_3 rfl (lv_at hl 1 rfl) ?_
  refine lv_iload_n hx hb dL_send_4 rfl (lv_at hl 2 rfl) ?_
  refine w_V (As := [.int (nI u), .int (nI 1)]) (rest := [.int (nI 0), .ref w9]) (hd9 := 21) (A2 := bl w9 1) (pre := [⟨0, 10, 13, 13⟩, ⟨0, 10, 17, 15⟩]) (x := ⟨0, 10, 21, 34⟩) (suf := []) S hK hX (x_X6_send_3_1 l hlS E A o z u hI hu h1) gL_send_X6_send rfl hd_X6_send ⟨rfl, rfl⟩ ⟨Nat.le_of_ble_eq_true rfl, Nat.le_of_ble_eq_true rfl⟩ (k_recv hK hP0 rfl) ⟨hP0, hP1⟩ rfl hl.1 rfl (Nat.le_of_ble_eq_true rfl) dL_send_5 ⟨Nat.le_of_ble_eq_true rfl, Nat.le_of_ble_eq_true rfl⟩ (by decide) (htb.trans rfl) (fun z hz => by
      rcases List.mem_cons.mp hz with h | hz
      · subst h; exact ⟨by decide, "java/lang/IndexOutOfBoundsException", List.mem_cons_of_mem _ (List.mem_append_left _ (List.mem_append_left _ (List.mem_append_left _ (List.mem_append_left _ (List.mem_append_left _ (List.mem_append_left _ (List.mem_append_left _ (List.mem_append_left _ (List.mem_append_left _ (List.mem_append_left _ (List.mem_of_getElem? (i := 0) rfl))))))))))), by decide, by decide⟩
      rcases List.mem_cons.mp hz with h | hz
      · subst h; exact ⟨by decide, "java/lang/IllegalArgumentException", List.mem_cons_of_mem _ (List.mem_append_left _ (List.mem_append_left _ (List.mem_append_left _ (List.mem_append_left _ (List.mem_append_left _ (List.mem_append_left _ (List.mem_append_left _ (List.mem_append_left _ (List.mem_append_left _ (List.mem_append_left _ (List.mem_of_getElem? (i := 1) rfl))))))))))), by decide, by decide⟩
      cases hz) (by decide) (by decide) (List.mem_cons_of_mem _ (List.mem_append_left _ (List.mem_append_left _ (List.mem_append_left _ (List.mem_append_left _ (List.mem_append_left _ (List.mem_append_left _ (List.mem_append_left _ (List.mem_append_left _ (List.mem_append_left _ (List.mem_append_left _ (List.mem_of_getElem? (i := 2) rfl)))))))))))) rfl (fun q9 H locs zH fH hS => ?_)
  have hkG := gg_fr2 hP0 (fun q h9 _ => fH q h9)
  have hkO := la_fr2 hP2 (fun q h9 _ => fH q h9)
  have hkQ := dz_fr2 hP1 (fun q h9 _ => fH q h9)
  refine lv_astore (lv' := [(4, .ref q9), (0, .ref o), (1, .int (nI u)), (2, .int (nI 1)), (3, .ref w9)]) hx hb dL_send_21 hl (by decide) rfl (fun ls hl => ?_)
  refine lv_iconst (v := nI 3) hx hb dL_send_23 (by decide) ?_
  exact k_iretM hx hb hr hlk dL_send_24 hS hkO (rfl)
def ry_L_send_3_2 : Room := { frames := 7, cells := 1, slots := 6, locals := 109 }
set_option maxHeartbeats 4000000 in
set_option maxRecDepth 100000 in
theorem y_L_send_3_2 (l : Launch) (hlS : l.stackTraces = false) (E : ke_E) (A : Nat → Prop) (o : Nat) (z : Nat → Int32) (u : Nat) (w9 : Nat) (x9 : Int64) (hI : iv z) (hu : u < cn z) (h1 : ¬ wy2 z u = 0) (hw9 : w9 + 1 ≤ o ∨ o + 477 ≤ w9) : Met l yL_send wsL_send ry_L_send_3_2 (kpx E A [.ref o, .int (nI u), .int (nI 2), .ref w9] (fun H => gg E o H ∧ dz E (o + 1) z H ∧ la E w9 x9 H)) (qm (some (.int (nI 3))) (bl w9 1) (la E w9 x9)) 1 6 (bl w9 1) := by
  refine w_hd (cc := cL_send) (maxL := 5) (ret := (some .int)) (hh := [(0, 10, 13, 13), (0, 10, 17, 15), (0, 10, 21, 34)]) (by decide) rfl (Nat.le_of_ble_eq_true rfl) ?_
  intro p e s m below meth c ls S hr hlk htb hK hX hP hl
  have hx := S.1
  have hb := S.2.1
  have hts := S.2.2.2.2
  obtain ⟨hP0, hP1, hP2⟩ := hP
  have hl : lv_has ls 5 [(0, .ref o), (1, .int (nI u)), (2, .int (nI 2)), (3, .ref w9)] := hl
  have hS : va_S (bl w9 1) s.heap s.heap [] := va_S.rf
  refine lv_aload_n hx hb dL_send_0 rfl (lv_at hl 3 rfl) ?_
  refine lv_iconst (v := nI 0) hx hb dL_send_1 (by decide) ?_
  refine lv_aload_n hx hb dL_send_2 rfl (lv_at hl 0 rfl) ?_
  refine lv_iload_n hx hb dL_send_3 rfl (lv_at hl 1 rfl) ?_
  refine lv_iload_n hx hb dL_send_4 rfl (lv_at hl 2 rfl) ?_
  refine w_V (As := [.int (nI u), .int (nI 2)]) (rest := [.int (nI 0), .ref w9]) (hd9 := 21) (A2 := bl w9 1) (pre := [⟨0, 10, 13, 13⟩, ⟨0, 10, 17, 15⟩]) (x := ⟨0, 10, 21, 34⟩) (suf := []) S hK hX (x_X6_send_3_2 l hlS E A o z u hI hu h1) gL_send_X6_send rfl hd_X6_send ⟨rfl, rfl⟩ ⟨Nat.le_of_ble_eq_true rfl, Nat.le_of_ble_eq_true rfl⟩ (k_recv hK hP0 rfl) ⟨hP0, hP1⟩ rfl hl.1 rfl (Nat.le_of_ble_eq_true rfl) dL_send_5 ⟨Nat.le_of_ble_eq_true rfl, Nat.le_of_ble_eq_true rfl⟩ (by decide) (htb.trans rfl) (fun z hz => by
      rcases List.mem_cons.mp hz with h | hz
      · subst h; exact ⟨by decide, "java/lang/IndexOutOfBoundsException", List.mem_cons_of_mem _ (List.mem_append_left _ (List.mem_append_left _ (List.mem_append_left _ (List.mem_append_left _ (List.mem_append_left _ (List.mem_append_left _ (List.mem_append_left _ (List.mem_append_left _ (List.mem_append_left _ (List.mem_append_left _ (List.mem_of_getElem? (i := 0) rfl))))))))))), by decide, by decide⟩
      rcases List.mem_cons.mp hz with h | hz
      · subst h; exact ⟨by decide, "java/lang/IllegalArgumentException", List.mem_cons_of_mem _ (List.mem_append_left _ (List.mem_append_left _ (List.mem_append_left _ (List.mem_append_left _ (List.mem_append_left _ (List.mem_append_left _ (List.mem_append_left _ (List.mem_append_left _ (List.mem_append_left _ (List.mem_append_left _ (List.mem_of_getElem? (i := 1) rfl))))))))))), by decide, by decide⟩
      cases hz) (by decide) (by decide) (List.mem_cons_of_mem _ (List.mem_append_left _ (List.mem_append_left _ (List.mem_append_left _ (List.mem_append_left _ (List.mem_append_left _ (List.mem_append_left _ (List.mem_append_left _ (List.mem_append_left _ (List.mem_append_left _ (List.mem_append_left _ (List.mem_of_getElem? (i := 2) rfl)))))))))))) rfl (fun q9 H locs zH fH hS => ?_)
  have hkG := gg_fr2 hP0 (fun q h9 _ => fH q h9)
  have hkO := la_fr2 hP2 (fun q h9 _ => fH q h9)
  have hkQ := dz_fr2 hP1 (fun q h9 _ => fH q h9)
  refine lv_astore (lv' := [(4, .ref q9), (0, .ref o), (1, .int (nI u)), (2, .int (nI 2)), (3, .ref w9)]) hx hb dL_send_21 hl (by decide) rfl (fun ls hl => ?_)
  refine lv_iconst (v := nI 3) hx hb dL_send_23 (by decide) ?_
  exact k_iretM hx hb hr hlk dL_send_24 hS hkO (rfl)
def ry_L_send_3_3 : Room := { frames := 7, cells := 1, slots := 6, locals := 109 }
set_option maxHeartbeats 4000000 in
set_option maxRecDepth 100000 in
theorem y_L_send_3_3 (l : Launch) (hlS : l.stackTraces = false) (E : ke_E) (A : Nat → Prop) (o : Nat) (z : Nat → Int32) (u : Nat) (w9 : Nat) (x9 : Int64) (hI : iv z) (hu : u < cn z) (h1 : ¬ wy3 z u = 0) (hw9 : w9 + 1 ≤ o ∨ o + 477 ≤ w9) : Met l yL_send wsL_send ry_L_send_3_3 (kpx E A [.ref o, .int (nI u), .int (nI 3), .ref w9] (fun H => gg E o H ∧ dz E (o + 1) z H ∧ la E w9 x9 H)) (qm (some (.int (nI 3))) (bl w9 1) (la E w9 x9)) 1 6 (bl w9 1) := by
  refine w_hd (cc := cL_send) (maxL := 5) (ret := (some .int)) (hh := [(0, 10, 13, 13), (0, 10, 17, 15), (0, 10, 21, 34)]) (by decide) rfl (Nat.le_of_ble_eq_true rfl) ?_
  intro p e s m below meth c ls S hr hlk htb hK hX hP hl
  have hx := S.1
  have hb := S.2.1
  have hts := S.2.2.2.2
  obtain ⟨hP0, hP1, hP2⟩ := hP
  have hl : lv_has ls 5 [(0, .ref o), (1, .int (nI u)), (2, .int (nI 3)), (3, .ref w9)] := hl
  have hS : va_S (bl w9 1) s.heap s.heap [] := va_S.rf
  refine lv_aload_n hx hb dL_send_0 rfl (lv_at hl 3 rfl) ?_
  refine lv_iconst (v := nI 0) hx hb dL_send_1 (by decide) ?_
  refine lv_aload_n hx hb dL_send_2 rfl (lv_at hl 0 rfl) ?_
  refine lv_iload_n hx hb dL_send_3 rfl (lv_at hl 1 rfl) ?_
  refine lv_iload_n hx hb dL_send_4 rfl (lv_at hl 2 rfl) ?_
  refine w_V (As := [.int (nI u), .int (nI 3)]) (rest := [.int (nI 0), .ref w9]) (hd9 := 21) (A2 := bl w9 1) (pre := [⟨0, 10, 13, 13⟩, ⟨0, 10, 17, 15⟩]) (x := ⟨0, 10, 21, 34⟩) (suf := []) S hK hX (x_X6_send_3_3 l hlS E A o z u hI hu h1) gL_send_X6_send rfl hd_X6_send ⟨rfl, rfl⟩ ⟨Nat.le_of_ble_eq_true rfl, Nat.le_of_ble_eq_true rfl⟩ (k_recv hK hP0 rfl) ⟨hP0, hP1⟩ rfl hl.1 rfl (Nat.le_of_ble_eq_true rfl) dL_send_5 ⟨Nat.le_of_ble_eq_true rfl, Nat.le_of_ble_eq_true rfl⟩ (by decide) (htb.trans rfl) (fun z hz => by
      rcases List.mem_cons.mp hz with h | hz
      · subst h; exact ⟨by decide, "java/lang/IndexOutOfBoundsException", List.mem_cons_of_mem _ (List.mem_append_left _ (List.mem_append_left _ (List.mem_append_left _ (List.mem_append_left _ (List.mem_append_left _ (List.mem_append_left _ (List.mem_append_left _ (List.mem_append_left _ (List.mem_append_left _ (List.mem_append_left _ (List.mem_of_getElem? (i := 0) rfl))))))))))), by decide, by decide⟩
      rcases List.mem_cons.mp hz with h | hz
      · subst h; exact ⟨by decide, "java/lang/IllegalArgumentException", List.mem_cons_of_mem _ (List.mem_append_left _ (List.mem_append_left _ (List.mem_append_left _ (List.mem_append_left _ (List.mem_append_left _ (List.mem_append_left _ (List.mem_append_left _ (List.mem_append_left _ (List.mem_append_left _ (List.mem_append_left _ (List.mem_of_getElem? (i := 1) rfl))))))))))), by decide, by decide⟩
      cases hz) (by decide) (by decide) (List.mem_cons_of_mem _ (List.mem_append_left _ (List.mem_append_left _ (List.mem_append_left _ (List.mem_append_left _ (List.mem_append_left _ (List.mem_append_left _ (List.mem_append_left _ (List.mem_append_left _ (List.mem_append_left _ (List.mem_append_left _ (List.mem_of_getElem? (i := 2) rfl)))))))))))) rfl (fun q9 H locs zH fH hS => ?_)
  have hkG := gg_fr2 hP0 (fun q h9 _ => fH q h9)
  have hkO := la_fr2 hP2 (fun q h9 _ => fH q h9)
  have hkQ := dz_fr2 hP1 (fun q h9 _ => fH q h9)
  refine lv_astore (lv' := [(4, .ref q9), (0, .ref o), (1, .int (nI u)), (2, .int (nI 3)), (3, .ref w9)]) hx hb dL_send_21 hl (by decide) rfl (fun ls hl => ?_)
  refine lv_iconst (v := nI 3) hx hb dL_send_23 (by decide) ?_
  exact k_iretM hx hb hr hlk dL_send_24 hS hkO (rfl)
def ry_L_send_3_4 : Room := { frames := 7, cells := 1, slots := 6, locals := 109 }
set_option maxHeartbeats 4000000 in
set_option maxRecDepth 100000 in
theorem y_L_send_3_4 (l : Launch) (hlS : l.stackTraces = false) (E : ke_E) (A : Nat → Prop) (o : Nat) (z : Nat → Int32) (u : Nat) (w9 : Nat) (x9 : Int64) (hI : iv z) (hu : u < cn z) (h1 : ¬ wy4 z u = 0) (hw9 : w9 + 1 ≤ o ∨ o + 477 ≤ w9) : Met l yL_send wsL_send ry_L_send_3_4 (kpx E A [.ref o, .int (nI u), .int (nI 4), .ref w9] (fun H => gg E o H ∧ dz E (o + 1) z H ∧ la E w9 x9 H)) (qm (some (.int (nI 3))) (bl w9 1) (la E w9 x9)) 1 6 (bl w9 1) := by
  refine w_hd (cc := cL_send) (maxL := 5) (ret := (some .int)) (hh := [(0, 10, 13, 13), (0, 10, 17, 15), (0, 10, 21, 34)]) (by decide) rfl (Nat.le_of_ble_eq_true rfl) ?_
  intro p e s m below meth c ls S hr hlk htb hK hX hP hl
  have hx := S.1
  have hb := S.2.1
  have hts := S.2.2.2.2
  obtain ⟨hP0, hP1, hP2⟩ := hP
  have hl : lv_has ls 5 [(0, .ref o), (1, .int (nI u)), (2, .int (nI 4)), (3, .ref w9)] := hl
  have hS : va_S (bl w9 1) s.heap s.heap [] := va_S.rf
  refine lv_aload_n hx hb dL_send_0 rfl (lv_at hl 3 rfl) ?_
  refine lv_iconst (v := nI 0) hx hb dL_send_1 (by decide) ?_
  refine lv_aload_n hx hb dL_send_2 rfl (lv_at hl 0 rfl) ?_
  refine lv_iload_n hx hb dL_send_3 rfl (lv_at hl 1 rfl) ?_
  refine lv_iload_n hx hb dL_send_4 rfl (lv_at hl 2 rfl) ?_
  refine w_V (As := [.int (nI u), .int (nI 4)]) (rest := [.int (nI 0), .ref w9]) (hd9 := 21) (A2 := bl w9 1) (pre := [⟨0, 10, 13, 13⟩, ⟨0, 10, 17, 15⟩]) (x := ⟨0, 10, 21, 34⟩) (suf := []) S hK hX (x_X6_send_3_4 l hlS E A o z u hI hu h1) gL_send_X6_send rfl hd_X6_send ⟨rfl, rfl⟩ ⟨Nat.le_of_ble_eq_true rfl, Nat.le_of_ble_eq_true rfl⟩ (k_recv hK hP0 rfl) ⟨hP0, hP1⟩ rfl hl.1 rfl (Nat.le_of_ble_eq_true rfl) dL_send_5 ⟨Nat.le_of_ble_eq_true rfl, Nat.le_of_ble_eq_true rfl⟩ (by decide) (htb.trans rfl) (fun z hz => by
      rcases List.mem_cons.mp hz with h | hz
      · subst h; exact ⟨by decide, "java/lang/IndexOutOfBoundsException", List.mem_cons_of_mem _ (List.mem_append_left _ (List.mem_append_left _ (List.mem_append_left _ (List.mem_append_left _ (List.mem_append_left _ (List.mem_append_left _ (List.mem_append_left _ (List.mem_append_left _ (List.mem_append_left _ (List.mem_append_left _ (List.mem_of_getElem? (i := 0) rfl))))))))))), by decide, by decide⟩
      rcases List.mem_cons.mp hz with h | hz
      · subst h; exact ⟨by decide, "java/lang/IllegalArgumentException", List.mem_cons_of_mem _ (List.mem_append_left _ (List.mem_append_left _ (List.mem_append_left _ (List.mem_append_left _ (List.mem_append_left _ (List.mem_append_left _ (List.mem_append_left _ (List.mem_append_left _ (List.mem_append_left _ (List.mem_append_left _ (List.mem_of_getElem? (i := 1) rfl))))))))))), by decide, by decide⟩
      cases hz) (by decide) (by decide) (List.mem_cons_of_mem _ (List.mem_append_left _ (List.mem_append_left _ (List.mem_append_left _ (List.mem_append_left _ (List.mem_append_left _ (List.mem_append_left _ (List.mem_append_left _ (List.mem_append_left _ (List.mem_append_left _ (List.mem_append_left _ (List.mem_of_getElem? (i := 2) rfl)))))))))))) rfl (fun q9 H locs zH fH hS => ?_)
  have hkG := gg_fr2 hP0 (fun q h9 _ => fH q h9)
  have hkO := la_fr2 hP2 (fun q h9 _ => fH q h9)
  have hkQ := dz_fr2 hP1 (fun q h9 _ => fH q h9)
  refine lv_astore (lv' := [(4, .ref q9), (0, .ref o), (1, .int (nI u)), (2, .int (nI 4)), (3, .ref w9)]) hx hb dL_send_21 hl (by decide) rfl (fun ls hl => ?_)
  refine lv_iconst (v := nI 3) hx hb dL_send_23 (by decide) ?_
  exact k_iretM hx hb hr hlk dL_send_24 hS hkO (rfl)
def rm_L_pass : Room := { frames := 7, cells := 0, slots := 0, locals := 158 }
theorem hd_L_pass : k_hd1 yL_pass RL 3 := by decide +kernel
set_option maxHeartbeats 4000000 in
set_option maxRecDepth 100000 in
theorem c_L_pass (l : Launch) (hlS : l.stackTraces = false) (E : ke_E) (A : Nat → Prop) (o : Nat) (z : Nat → Int32) (sn : Nat) (r : Nat → Int32) (bn : Nat) (f : Nat → Int32) (n : Nat) (w9 : Nat) (x9 : Int64) (hI : iv z) (hn6 : sn ≤ 6) (hn1 : 1 ≤ n) (hn30 : n ≤ 30) (h1 : z 1 + nI n ≤ nI 2000) (hw9 : w9 + 1 ≤ o ∨ o + 477 ≤ w9) : Met l yL_pass wsL_pass rm_L_pass (kpx E A [.ref o, .int (nI n), .ref w9] (fun H => gg E o H ∧ dz E (o + 1) z H ∧ tr E (o + 60) H ∧ hy E (o + 119) sn r H ∧ bo E (o + 475) bn (auE (au f bn)) (auS (au f bn)) f H ∧ la E w9 x9 H)) (qm (some (.int (nI 0))) (ow o w9) (fun H => gg E o H ∧ dz E (o + 1) (psI z n).1 H ∧ tr E (o + 60) H ∧ hy E (o + 119) (svN sn) (svR r z sn) H ∧ bo E (o + 475) bn (auE (au f bn)) (auS (au f bn)) f H ∧ la E w9 ((psI z n).2.toInt64) H)) 0 0 (ow o w9) := by
  refine w_hd (cc := cL_pass) (maxL := 4) (ret := (some .int)) (hh := [(0, 9, 12, 15), (0, 9, 15, 34)]) (by decide) rfl (Nat.le_of_ble_eq_true rfl) ?_
  intro p e s m below meth c ls S hr hlk htb hK hX hP hl
  have hx := S.1
  have hb := S.2.1
  have hts := S.2.2.2.2
  obtain ⟨hP0, hP1, hP2, hP3, hP4, hP5⟩ := hP
  have hl : lv_has ls 4 [(0, .ref o), (1, .int (nI n)), (2, .ref w9)] := hl
  have hS : va_S (ow o w9) s.heap s.heap [] := va_S.rf
  refine lv_aload_n hx hb dL_pass_0 rfl (lv_at hl 2 rfl) ?_
  refine lv_iconst (v := nI 0) hx hb dL_pass_1 (by decide) ?_
  refine lv_aload_n hx hb dL_pass_2 rfl (lv_at hl 0 rfl) ?_
  refine lv_iload_n hx hb dL_pass_3 rfl (lv_at hl 1 rfl) ?_
  refine k_VM (As := [.int (nI n)]) (rest := [.int (nI 0), .ref w9]) S hK (c_X6_pass l E o z sn r bn f n hI hn6 hn1 hn30 h1) gL_pass_X6_pass rfl hd_X6_pass ⟨rfl, rfl⟩ ⟨Nat.le_of_ble_eq_true rfl, Nat.le_of_ble_eq_true rfl⟩ (k_recv hK hP0 rfl) ⟨hP0, hP1, hP2, hP3, hP4⟩ rfl hl.1 rfl (Nat.le_of_ble_eq_true rfl) dL_pass_4 ⟨Nat.le_of_ble_eq_true rfl, Nat.le_of_ble_eq_true rfl⟩ hS (fun q h => Or.inl h) (fun q h => Or.inl h) (fun H locs hQ zH fH hS => ?_)
  obtain ⟨hR0, hR1, hR2, hR3, hR4⟩ := hQ
  have hV1 := hR0
  have hV2 := hR1
  have hV3 := hR2
  have hV4 := hR3
  have hV5 := hR4
  have hk2 := la_fr2 hP5 (fun q hz hq => fH q hz (bl_ne hq (by omega)))
  refine lv_i2l hx hb dL_pass_7 rfl ?_
  refine la_ast hx hb hK hk2 hS (Or.inr ⟨by omega, by omega⟩) dL_pass_8 (fun H locs hP zH fH hS => ?_)
  have hV6 := hP
  have hk0 := bo_fr2 hV5 (fun q _ hq => fH q (bl_ne hq (by omega)))
  have hk1 := gg_fr2 hV1 (fun q _ hq => fH q (bl_ne hq (by omega)))
  have hk3 := dz_fr2 hV2 (fun q _ hq => fH q (bl_ne hq (by omega)))
  have hk4 := tr_fr2 hV3 (fun q _ hq => fH q (bl_ne hq (by omega)))
  have hk5 := hy_fr2 hV4 (fun q _ hq => fH q (bl_ne hq (by omega)))
  refine lv_goto (tgt := 18) hx hb dL_pass_9 (by decide) ?_
  refine lv_iconst (v := nI 0) hx hb dL_pass_18 (by decide) ?_
  exact k_iretM hx hb hr hlk dL_pass_19 hS ⟨hk1, hk3, hk4, hk5, hk0, hV6⟩ (rfl)
def ry_L_pass_1 : Room := { frames := 8, cells := 1, slots := 6, locals := 127 }
set_option maxHeartbeats 4000000 in
set_option maxRecDepth 100000 in
theorem y_L_pass_1 (l : Launch) (hlS : l.stackTraces = false) (E : ke_E) (A : Nat → Prop) (o : Nat) (z : Nat → Int32) (y : Int32) (w9 : Nat) (x9 : Int64) (hI : iv z) (h1 : ¬ (nI 1 ≤ y ∧ y ≤ nI 30)) (hw9 : w9 + 1 ≤ o ∨ o + 477 ≤ w9) : Met l yL_pass wsL_pass ry_L_pass_1 (kpx E A [.ref o, .int y, .ref w9] (fun H => gg E o H ∧ dz E (o + 1) z H ∧ la E w9 x9 H)) (qm (some (.int (nI 1))) (bl w9 1) (la E w9 x9)) 1 6 (bl w9 1) := by
  refine w_hd (cc := cL_pass) (maxL := 4) (ret := (some .int)) (hh := [(0, 9, 12, 15), (0, 9, 15, 34)]) (by decide) rfl (Nat.le_of_ble_eq_true rfl) ?_
  intro p e s m below meth c ls S hr hlk htb hK hX hP hl
  have hx := S.1
  have hb := S.2.1
  have hts := S.2.2.2.2
  obtain ⟨hP0, hP1, hP2⟩ := hP
  have hl : lv_has ls 4 [(0, .ref o), (1, .int y), (2, .ref w9)] := hl
  have hS : va_S (bl w9 1) s.heap s.heap [] := va_S.rf
  refine lv_aload_n hx hb dL_pass_0 rfl (lv_at hl 2 rfl) ?_
  refine lv_iconst (v := nI 0) hx hb dL_pass_1 (by decide) ?_
  refine lv_aload_n hx hb dL_pass_2 rfl (lv_at hl 0 rfl) ?_
  refine lv_iload_n hx hb dL_pass_3 rfl (lv_at hl 1 rfl) ?_
  refine w_V (As := [.int y]) (rest := [.int (nI 0), .ref w9]) (hd9 := 12) (A2 := bl w9 1) (pre := []) (x := ⟨0, 9, 12, 15⟩) (suf := [⟨0, 9, 15, 34⟩]) S hK hX (x_X6_pass_1 l hlS E A o z y hI h1) gL_pass_X6_pass rfl hd_X6_pass ⟨rfl, rfl⟩ ⟨Nat.le_of_ble_eq_true rfl, Nat.le_of_ble_eq_true rfl⟩ (k_recv hK hP0 rfl) ⟨hP0, hP1⟩ rfl hl.1 rfl (Nat.le_of_ble_eq_true rfl) dL_pass_4 ⟨Nat.le_of_ble_eq_true rfl, Nat.le_of_ble_eq_true rfl⟩ (by decide) (htb.trans rfl) (fun z hz => by cases hz) (by decide) (by decide) (List.mem_cons_of_mem _ (List.mem_append_left _ (List.mem_append_left _ (List.mem_append_left _ (List.mem_append_left _ (List.mem_append_left _ (List.mem_append_left _ (List.mem_append_left _ (List.mem_append_left _ (List.mem_append_left _ (List.mem_of_getElem? (i := 0) rfl))))))))))) rfl (fun q9 H locs zH fH hS => ?_)
  have hkG := gg_fr2 hP0 (fun q h9 _ => fH q h9)
  have hkO := la_fr2 hP2 (fun q h9 _ => fH q h9)
  have hkQ := dz_fr2 hP1 (fun q h9 _ => fH q h9)
  refine lv_astore_n (lv' := [(3, .ref q9), (0, .ref o), (1, .int y), (2, .ref w9)]) hx hb dL_pass_12 rfl hl (by decide) rfl (fun ls hl => ?_)
  refine lv_iconst (v := nI 1) hx hb dL_pass_13 (by decide) ?_
  exact k_iretM hx hb hr hlk dL_pass_14 hS hkO (rfl)
def ry_L_pass_2 : Room := { frames := 7, cells := 1, slots := 6, locals := 105 }
set_option maxHeartbeats 4000000 in
set_option maxRecDepth 100000 in
theorem y_L_pass_2 (l : Launch) (hlS : l.stackTraces = false) (E : ke_E) (A : Nat → Prop) (o : Nat) (z : Nat → Int32) (n : Nat) (w9 : Nat) (x9 : Int64) (hI : iv z) (hn1 : 1 ≤ n) (hn30 : n ≤ 30) (h1 : ¬ z 1 + nI n ≤ nI 2000) (hw9 : w9 + 1 ≤ o ∨ o + 477 ≤ w9) : Met l yL_pass wsL_pass ry_L_pass_2 (kpx E A [.ref o, .int (nI n), .ref w9] (fun H => gg E o H ∧ dz E (o + 1) z H ∧ la E w9 x9 H)) (qm (some (.int (nI 2))) (bl w9 1) (la E w9 x9)) 1 6 (bl w9 1) := by
  refine w_hd (cc := cL_pass) (maxL := 4) (ret := (some .int)) (hh := [(0, 9, 12, 15), (0, 9, 15, 34)]) (by decide) rfl (Nat.le_of_ble_eq_true rfl) ?_
  intro p e s m below meth c ls S hr hlk htb hK hX hP hl
  have hx := S.1
  have hb := S.2.1
  have hts := S.2.2.2.2
  obtain ⟨hP0, hP1, hP2⟩ := hP
  have hl : lv_has ls 4 [(0, .ref o), (1, .int (nI n)), (2, .ref w9)] := hl
  have hS : va_S (bl w9 1) s.heap s.heap [] := va_S.rf
  refine lv_aload_n hx hb dL_pass_0 rfl (lv_at hl 2 rfl) ?_
  refine lv_iconst (v := nI 0) hx hb dL_pass_1 (by decide) ?_
  refine lv_aload_n hx hb dL_pass_2 rfl (lv_at hl 0 rfl) ?_
  refine lv_iload_n hx hb dL_pass_3 rfl (lv_at hl 1 rfl) ?_
  refine w_V (As := [.int (nI n)]) (rest := [.int (nI 0), .ref w9]) (hd9 := 15) (A2 := bl w9 1) (pre := [⟨0, 9, 12, 15⟩]) (x := ⟨0, 9, 15, 34⟩) (suf := []) S hK hX (x_X6_pass_2 l hlS E A o z n hI hn1 hn30 h1) gL_pass_X6_pass rfl hd_X6_pass ⟨rfl, rfl⟩ ⟨Nat.le_of_ble_eq_true rfl, Nat.le_of_ble_eq_true rfl⟩ (k_recv hK hP0 rfl) ⟨hP0, hP1⟩ rfl hl.1 rfl (Nat.le_of_ble_eq_true rfl) dL_pass_4 ⟨Nat.le_of_ble_eq_true rfl, Nat.le_of_ble_eq_true rfl⟩ (by decide) (htb.trans rfl) (fun z hz => by
      rcases List.mem_cons.mp hz with h | hz
      · subst h; exact ⟨by decide, "java/lang/IllegalArgumentException", List.mem_cons_of_mem _ (List.mem_append_left _ (List.mem_append_left _ (List.mem_append_left _ (List.mem_append_left _ (List.mem_append_left _ (List.mem_append_left _ (List.mem_append_left _ (List.mem_append_left _ (List.mem_append_left _ (List.mem_of_getElem? (i := 0) rfl)))))))))), by decide, by decide⟩
      cases hz) (by decide) (by decide) (List.mem_cons_of_mem _ (List.mem_append_left _ (List.mem_append_left _ (List.mem_append_left _ (List.mem_append_left _ (List.mem_append_left _ (List.mem_append_left _ (List.mem_append_left _ (List.mem_append_left _ (List.mem_append_left _ (List.mem_of_getElem? (i := 1) rfl))))))))))) rfl (fun q9 H locs zH fH hS => ?_)
  have hkG := gg_fr2 hP0 (fun q h9 _ => fH q h9)
  have hkO := la_fr2 hP2 (fun q h9 _ => fH q h9)
  have hkQ := dz_fr2 hP1 (fun q h9 _ => fH q h9)
  refine lv_astore_n (lv' := [(3, .ref q9), (0, .ref o), (1, .int (nI n)), (2, .ref w9)]) hx hb dL_pass_15 rfl hl (by decide) rfl (fun ls hl => ?_)
  refine lv_iconst (v := nI 2) hx hb dL_pass_16 (by decide) ?_
  exact k_iretM hx hb hr hlk dL_pass_17 hS hkO (rfl)
def rm_L_claim : Room := { frames := 6, cells := 0, slots := 0, locals := 127 }
theorem hd_L_claim : k_hd1 yL_claim RL 3 := by decide +kernel
set_option maxHeartbeats 4000000 in
set_option maxRecDepth 100000 in
theorem c_L_claim (l : Launch) (hlS : l.stackTraces = false) (E : ke_E) (A : Nat → Prop) (o : Nat) (z : Nat → Int32) (sn : Nat) (r : Nat → Int32) (bn : Nat) (f : Nat → Int32) (u : Nat) (w9 : Nat) (x9 : Int64) (hI : iv z) (hn6 : sn ≤ 6) (hu : u < cn z) (h1 : clOK z u) (h72 : z (13*u + 72) = 0) (hw9 : w9 + 1 ≤ o ∨ o + 477 ≤ w9) : Met l yL_claim wsL_claim rm_L_claim (kpx E A [.ref o, .int (nI u), .ref w9] (fun H => gg E o H ∧ dz E (o + 1) z H ∧ tr E (o + 60) H ∧ hy E (o + 119) sn r H ∧ bo E (o + 475) bn (auE (au f bn)) (auS (au f bn)) f H ∧ la E w9 x9 H)) (qm (some (.int (nI 0))) (ow o w9) (fun H => gg E o H ∧ dz E (o + 1) (cmZ z u) H ∧ tr E (o + 60) H ∧ hy E (o + 119) (svN sn) (svR r z sn) H ∧ bo E (o + 475) bn (auE (au f bn)) (auS (au f bn)) f H ∧ la E w9 ((bI (payP (cm3 z u) u)).toInt64) H)) 0 0 (ow o w9) := by
  refine w_hd (cc := cL_claim) (maxL := 4) (ret := (some .int)) (hh := [(0, 9, 12, 13), (0, 9, 15, 34)]) (by decide) rfl (Nat.le_of_ble_eq_true rfl) ?_
  intro p e s m below meth c ls S hr hlk htb hK hX hP hl
  have hx := S.1
  have hb := S.2.1
  have hts := S.2.2.2.2
  obtain ⟨hP0, hP1, hP2, hP3, hP4, hP5⟩ := hP
  have hl : lv_has ls 4 [(0, .ref o), (1, .int (nI u)), (2, .ref w9)] := hl
  have hS : va_S (ow o w9) s.heap s.heap [] := va_S.rf
  refine lv_aload_n hx hb dL_claim_0 rfl (lv_at hl 2 rfl) ?_
  refine lv_iconst (v := nI 0) hx hb dL_claim_1 (by decide) ?_
  refine lv_aload_n hx hb dL_claim_2 rfl (lv_at hl 0 rfl) ?_
  refine lv_iload_n hx hb dL_claim_3 rfl (lv_at hl 1 rfl) ?_
  refine k_VM (As := [.int (nI u)]) (rest := [.int (nI 0), .ref w9]) S hK (c_X6_claim l E o z sn r bn f u hI hn6 hu h1 h72) gL_claim_X6_claim rfl hd_X6_claim ⟨rfl, rfl⟩ ⟨Nat.le_of_ble_eq_true rfl, Nat.le_of_ble_eq_true rfl⟩ (k_recv hK hP0 rfl) ⟨hP0, hP1, hP2, hP3, hP4⟩ rfl hl.1 rfl (Nat.le_of_ble_eq_true rfl) dL_claim_4 ⟨Nat.le_of_ble_eq_true rfl, Nat.le_of_ble_eq_true rfl⟩ hS (fun q h => Or.inl h) (fun q h => Or.inl h) (fun H locs hQ zH fH hS => ?_)
  obtain ⟨hR0, hR1, hR2, hR3, hR4⟩ := hQ
  have hV1 := hR0
  have hV2 := hR1
  have hV3 := hR2
  have hV4 := hR3
  have hV5 := hR4
  have hk2 := la_fr2 hP5 (fun q hz hq => fH q hz (bl_ne hq (by omega)))
  refine lv_i2l hx hb dL_claim_7 rfl ?_
  refine la_ast hx hb hK hk2 hS (Or.inr ⟨by omega, by omega⟩) dL_claim_8 (fun H locs hP zH fH hS => ?_)
  have hV6 := hP
  have hk0 := bo_fr2 hV5 (fun q _ hq => fH q (bl_ne hq (by omega)))
  have hk1 := gg_fr2 hV1 (fun q _ hq => fH q (bl_ne hq (by omega)))
  have hk3 := dz_fr2 hV2 (fun q _ hq => fH q (bl_ne hq (by omega)))
  have hk4 := tr_fr2 hV3 (fun q _ hq => fH q (bl_ne hq (by omega)))
  have hk5 := hy_fr2 hV4 (fun q _ hq => fH q (bl_ne hq (by omega)))
  refine lv_goto (tgt := 18) hx hb dL_claim_9 (by decide) ?_
  refine lv_iconst (v := nI 0) hx hb dL_claim_18 (by decide) ?_
  exact k_iretM hx hb hr hlk dL_claim_19 hS ⟨hk1, hk3, hk4, hk5, hk0, hV6⟩ (rfl)
def ry_L_claim_1 : Room := { frames := 8, cells := 1, slots := 6, locals := 125 }
set_option maxHeartbeats 4000000 in
set_option maxRecDepth 100000 in
theorem y_L_claim_1 (l : Launch) (hlS : l.stackTraces = false) (E : ke_E) (A : Nat → Prop) (o : Nat) (z : Nat → Int32) (x : Int32) (w9 : Nat) (x9 : Int64) (hI : iv z) (h1 : ¬ inR x (cn z)) (hw9 : w9 + 1 ≤ o ∨ o + 477 ≤ w9) : Met l yL_claim wsL_claim ry_L_claim_1 (kpx E A [.ref o, .int x, .ref w9] (fun H => gg E o H ∧ dz E (o + 1) z H ∧ la E w9 x9 H)) (qm (some (.int (nI 1))) (bl w9 1) (la E w9 x9)) 1 6 (bl w9 1) := by
  refine w_hd (cc := cL_claim) (maxL := 4) (ret := (some .int)) (hh := [(0, 9, 12, 13), (0, 9, 15, 34)]) (by decide) rfl (Nat.le_of_ble_eq_true rfl) ?_
  intro p e s m below meth c ls S hr hlk htb hK hX hP hl
  have hx := S.1
  have hb := S.2.1
  have hts := S.2.2.2.2
  obtain ⟨hP0, hP1, hP2⟩ := hP
  have hl : lv_has ls 4 [(0, .ref o), (1, .int x), (2, .ref w9)] := hl
  have hS : va_S (bl w9 1) s.heap s.heap [] := va_S.rf
  refine lv_aload_n hx hb dL_claim_0 rfl (lv_at hl 2 rfl) ?_
  refine lv_iconst (v := nI 0) hx hb dL_claim_1 (by decide) ?_
  refine lv_aload_n hx hb dL_claim_2 rfl (lv_at hl 0 rfl) ?_
  refine lv_iload_n hx hb dL_claim_3 rfl (lv_at hl 1 rfl) ?_
  refine w_V (As := [.int x]) (rest := [.int (nI 0), .ref w9]) (hd9 := 12) (A2 := bl w9 1) (pre := []) (x := ⟨0, 9, 12, 13⟩) (suf := [⟨0, 9, 15, 34⟩]) S hK hX (x_X6_claim_1 l hlS E A o z x hI h1) gL_claim_X6_claim rfl hd_X6_claim ⟨rfl, rfl⟩ ⟨Nat.le_of_ble_eq_true rfl, Nat.le_of_ble_eq_true rfl⟩ (k_recv hK hP0 rfl) ⟨hP0, hP1⟩ rfl hl.1 rfl (Nat.le_of_ble_eq_true rfl) dL_claim_4 ⟨Nat.le_of_ble_eq_true rfl, Nat.le_of_ble_eq_true rfl⟩ (by decide) (htb.trans rfl) (fun z hz => by cases hz) (by decide) (by decide) (List.mem_cons_of_mem _ (List.mem_append_left _ (List.mem_append_left _ (List.mem_append_left _ (List.mem_append_left _ (List.mem_append_left _ (List.mem_append_left _ (List.mem_append_left _ (List.mem_append_left _ (List.mem_append_left _ (List.mem_of_getElem? (i := 0) rfl))))))))))) rfl (fun q9 H locs zH fH hS => ?_)
  have hkG := gg_fr2 hP0 (fun q h9 _ => fH q h9)
  have hkO := la_fr2 hP2 (fun q h9 _ => fH q h9)
  have hkQ := dz_fr2 hP1 (fun q h9 _ => fH q h9)
  refine lv_astore_n (lv' := [(3, .ref q9), (0, .ref o), (1, .int x), (2, .ref w9)]) hx hb dL_claim_12 rfl hl (by decide) rfl (fun ls hl => ?_)
  refine lv_iconst (v := nI 1) hx hb dL_claim_13 (by decide) ?_
  exact k_iretM hx hb hr hlk dL_claim_14 hS hkO (rfl)
def ry_L_claim_2 : Room := { frames := 7, cells := 1, slots := 6, locals := 104 }
set_option maxHeartbeats 4000000 in
set_option maxRecDepth 100000 in
theorem y_L_claim_2 (l : Launch) (hlS : l.stackTraces = false) (E : ke_E) (A : Nat → Prop) (o : Nat) (z : Nat → Int32) (u : Nat) (w9 : Nat) (x9 : Int64) (hI : iv z) (hu : u < cn z) (h1 : ¬ clOK z u) (hw9 : w9 + 1 ≤ o ∨ o + 477 ≤ w9) : Met l yL_claim wsL_claim ry_L_claim_2 (kpx E A [.ref o, .int (nI u), .ref w9] (fun H => gg E o H ∧ dz E (o + 1) z H ∧ la E w9 x9 H)) (qm (some (.int (nI 2))) (bl w9 1) (la E w9 x9)) 1 6 (bl w9 1) := by
  refine w_hd (cc := cL_claim) (maxL := 4) (ret := (some .int)) (hh := [(0, 9, 12, 13), (0, 9, 15, 34)]) (by decide) rfl (Nat.le_of_ble_eq_true rfl) ?_
  intro p e s m below meth c ls S hr hlk htb hK hX hP hl
  have hx := S.1
  have hb := S.2.1
  have hts := S.2.2.2.2
  obtain ⟨hP0, hP1, hP2⟩ := hP
  have hl : lv_has ls 4 [(0, .ref o), (1, .int (nI u)), (2, .ref w9)] := hl
  have hS : va_S (bl w9 1) s.heap s.heap [] := va_S.rf
  refine lv_aload_n hx hb dL_claim_0 rfl (lv_at hl 2 rfl) ?_
  refine lv_iconst (v := nI 0) hx hb dL_claim_1 (by decide) ?_
  refine lv_aload_n hx hb dL_claim_2 rfl (lv_at hl 0 rfl) ?_
  refine lv_iload_n hx hb dL_claim_3 rfl (lv_at hl 1 rfl) ?_
  refine w_V (As := [.int (nI u)]) (rest := [.int (nI 0), .ref w9]) (hd9 := 15) (A2 := bl w9 1) (pre := [⟨0, 9, 12, 13⟩]) (x := ⟨0, 9, 15, 34⟩) (suf := []) S hK hX (x_X6_claim_2 l hlS E A o z u hI hu h1) gL_claim_X6_claim rfl hd_X6_claim ⟨rfl, rfl⟩ ⟨Nat.le_of_ble_eq_true rfl, Nat.le_of_ble_eq_true rfl⟩ (k_recv hK hP0 rfl) ⟨hP0, hP1⟩ rfl hl.1 rfl (Nat.le_of_ble_eq_true rfl) dL_claim_4 ⟨Nat.le_of_ble_eq_true rfl, Nat.le_of_ble_eq_true rfl⟩ (by decide) (htb.trans rfl) (fun z hz => by
      rcases List.mem_cons.mp hz with h | hz
      · subst h; exact ⟨by decide, "java/lang/IndexOutOfBoundsException", List.mem_cons_of_mem _ (List.mem_append_left _ (List.mem_append_left _ (List.mem_append_left _ (List.mem_append_left _ (List.mem_append_left _ (List.mem_append_left _ (List.mem_append_left _ (List.mem_append_left _ (List.mem_append_left _ (List.mem_of_getElem? (i := 0) rfl)))))))))), by decide, by decide⟩
      cases hz) (by decide) (by decide) (List.mem_cons_of_mem _ (List.mem_append_left _ (List.mem_append_left _ (List.mem_append_left _ (List.mem_append_left _ (List.mem_append_left _ (List.mem_append_left _ (List.mem_append_left _ (List.mem_append_left _ (List.mem_append_left _ (List.mem_of_getElem? (i := 1) rfl))))))))))) rfl (fun q9 H locs zH fH hS => ?_)
  have hkG := gg_fr2 hP0 (fun q h9 _ => fH q h9)
  have hkO := la_fr2 hP2 (fun q h9 _ => fH q h9)
  have hkQ := dz_fr2 hP1 (fun q h9 _ => fH q h9)
  refine lv_astore_n (lv' := [(3, .ref q9), (0, .ref o), (1, .int (nI u)), (2, .ref w9)]) hx hb dL_claim_15 rfl hl (by decide) rfl (fun ls hl => ?_)
  refine lv_iconst (v := nI 2) hx hb dL_claim_16 (by decide) ?_
  exact k_iretM hx hb hr hlk dL_claim_17 hS hkO (rfl)
def rm_L_append : Room := { frames := 4, cells := 0, slots := 0, locals := 84 }
theorem hd_L_append : k_hd1 yL_append RL 3 := by decide +kernel
set_option maxHeartbeats 4000000 in
set_option maxRecDepth 100000 in
theorem c_L_append (l : Launch) (hlS : l.stackTraces = false) (E : ke_E) (A : Nat → Prop) (o : Nat) (z : Nat → Int32) (sn : Nat) (r : Nat → Int32) (bn : Nat) (f : Nat → Int32) (y : Int32) (w9 : Nat) (x9 : Int64) (hbn : bn < 60) (h1 : nI 33 ≤ y ∧ y ≤ nI 126) (hw9 : w9 + 1 ≤ o ∨ o + 477 ≤ w9) : Met l yL_append wsL_append rm_L_append (kpx E A [.ref o, .int y, .ref w9] (fun H => gg E o H ∧ dz E (o + 1) z H ∧ tr E (o + 60) H ∧ hy E (o + 119) sn r H ∧ bo E (o + 475) bn (auE (au f bn)) (auS (au f bn)) f H ∧ la E w9 x9 H)) (qm (some (.int (nI 0))) (ow o w9) (fun H => gg E o H ∧ dz E (o + 1) z H ∧ tr E (o + 60) H ∧ hy E (o + 119) sn r H ∧ bo E (o + 475) (bn + 1) (auE (au (upd f bn y) (bn + 1))) (auS (au (upd f bn y) (bn + 1))) (upd f bn y) H ∧ la E w9 ((nI (bn + 1)).toInt64) H)) 0 0 (ow o w9) := by
  refine w_hd (cc := cL_append) (maxL := 4) (ret := (some .int)) (hh := [(0, 9, 12, 15), (0, 9, 15, 34)]) (by decide) rfl (Nat.le_of_ble_eq_true rfl) ?_
  intro p e s m below meth c ls S hr hlk htb hK hX hP hl
  have hx := S.1
  have hb := S.2.1
  have hts := S.2.2.2.2
  obtain ⟨hP0, hP1, hP2, hP3, hP4, hP5⟩ := hP
  have hl : lv_has ls 4 [(0, .ref o), (1, .int y), (2, .ref w9)] := hl
  have hS : va_S (ow o w9) s.heap s.heap [] := va_S.rf
  refine lv_aload_n hx hb dL_append_0 rfl (lv_at hl 2 rfl) ?_
  refine lv_iconst (v := nI 0) hx hb dL_append_1 (by decide) ?_
  refine lv_aload_n hx hb dL_append_2 rfl (lv_at hl 0 rfl) ?_
  refine lv_iload_n hx hb dL_append_3 rfl (lv_at hl 1 rfl) ?_
  refine k_VM (As := [.int y]) (rest := [.int (nI 0), .ref w9]) S hK (c_X6_append l E o z sn r bn f y hbn h1) gL_append_X6_append rfl hd_X6_append ⟨rfl, rfl⟩ ⟨Nat.le_of_ble_eq_true rfl, Nat.le_of_ble_eq_true rfl⟩ (k_recv hK hP0 rfl) ⟨hP0, hP1, hP2, hP3, hP4⟩ rfl hl.1 rfl (Nat.le_of_ble_eq_true rfl) dL_append_4 ⟨Nat.le_of_ble_eq_true rfl, Nat.le_of_ble_eq_true rfl⟩ hS (fun q h => Or.inl h) (fun q h => Or.inl h) (fun H locs hQ zH fH hS => ?_)
  obtain ⟨hR0, hR1, hR2, hR3, hR4⟩ := hQ
  have hV1 := hR0
  have hV2 := hR1
  have hV3 := hR2
  have hV4 := hR3
  have hV5 := hR4
  have hk2 := la_fr2 hP5 (fun q hz hq => fH q hz (bl_ne hq (by omega)))
  refine lv_i2l hx hb dL_append_7 rfl ?_
  refine la_ast hx hb hK hk2 hS (Or.inr ⟨by omega, by omega⟩) dL_append_8 (fun H locs hP zH fH hS => ?_)
  have hV6 := hP
  have hk0 := bo_fr2 hV5 (fun q _ hq => fH q (bl_ne hq (by omega)))
  have hk1 := gg_fr2 hV1 (fun q _ hq => fH q (bl_ne hq (by omega)))
  have hk3 := dz_fr2 hV2 (fun q _ hq => fH q (bl_ne hq (by omega)))
  have hk4 := tr_fr2 hV3 (fun q _ hq => fH q (bl_ne hq (by omega)))
  have hk5 := hy_fr2 hV4 (fun q _ hq => fH q (bl_ne hq (by omega)))
  refine lv_goto (tgt := 18) hx hb dL_append_9 (by decide) ?_
  refine lv_iconst (v := nI 0) hx hb dL_append_18 (by decide) ?_
  exact k_iretM hx hb hr hlk dL_append_19 hS ⟨hk1, hk3, hk4, hk5, hk0, hV6⟩ (rfl)
def ry_L_append_1 : Room := { frames := 8, cells := 1, slots := 6, locals := 125 }
set_option maxHeartbeats 4000000 in
set_option maxRecDepth 100000 in
theorem y_L_append_1 (l : Launch) (hlS : l.stackTraces = false) (E : ke_E) (A : Nat → Prop) (o : Nat) (z : Nat → Int32) (bn : Nat) (f : Nat → Int32) (y : Int32) (w9 : Nat) (x9 : Int64) (h1 : ¬ (nI 33 ≤ y ∧ y ≤ nI 126)) (hw9 : w9 + 1 ≤ o ∨ o + 477 ≤ w9) : Met l yL_append wsL_append ry_L_append_1 (kpx E A [.ref o, .int y, .ref w9] (fun H => gg E o H ∧ bo E (o + 475) bn (auE (au f bn)) (auS (au f bn)) f H ∧ la E w9 x9 H)) (qm (some (.int (nI 1))) (bl w9 1) (la E w9 x9)) 1 6 (bl w9 1) := by
  refine w_hd (cc := cL_append) (maxL := 4) (ret := (some .int)) (hh := [(0, 9, 12, 15), (0, 9, 15, 34)]) (by decide) rfl (Nat.le_of_ble_eq_true rfl) ?_
  intro p e s m below meth c ls S hr hlk htb hK hX hP hl
  have hx := S.1
  have hb := S.2.1
  have hts := S.2.2.2.2
  obtain ⟨hP0, hP1, hP2⟩ := hP
  have hl : lv_has ls 4 [(0, .ref o), (1, .int y), (2, .ref w9)] := hl
  have hS : va_S (bl w9 1) s.heap s.heap [] := va_S.rf
  refine lv_aload_n hx hb dL_append_0 rfl (lv_at hl 2 rfl) ?_
  refine lv_iconst (v := nI 0) hx hb dL_append_1 (by decide) ?_
  refine lv_aload_n hx hb dL_append_2 rfl (lv_at hl 0 rfl) ?_
  refine lv_iload_n hx hb dL_append_3 rfl (lv_at hl 1 rfl) ?_
  refine w_V (As := [.int y]) (rest := [.int (nI 0), .ref w9]) (hd9 := 12) (A2 := bl w9 1) (pre := []) (x := ⟨0, 9, 12, 15⟩) (suf := [⟨0, 9, 15, 34⟩]) S hK hX (x_X6_append_1 l hlS E A o z bn f y h1) gL_append_X6_append rfl hd_X6_append ⟨rfl, rfl⟩ ⟨Nat.le_of_ble_eq_true rfl, Nat.le_of_ble_eq_true rfl⟩ (k_recv hK hP0 rfl) ⟨hP0, hP1⟩ rfl hl.1 rfl (Nat.le_of_ble_eq_true rfl) dL_append_4 ⟨Nat.le_of_ble_eq_true rfl, Nat.le_of_ble_eq_true rfl⟩ (by decide) (htb.trans rfl) (fun z hz => by cases hz) (by decide) (by decide) (List.mem_cons_of_mem _ (List.mem_append_left _ (List.mem_append_left _ (List.mem_append_left _ (List.mem_append_left _ (List.mem_append_left _ (List.mem_of_getElem? (i := 0) rfl))))))) rfl (fun q9 H locs zH fH hS => ?_)
  have hkB := bo_fr2 hP1 (fun q h9 _ => fH q h9)
  have hkG := gg_fr2 hP0 (fun q h9 _ => fH q h9)
  have hkO := la_fr2 hP2 (fun q h9 _ => fH q h9)
  refine lv_astore_n (lv' := [(3, .ref q9), (0, .ref o), (1, .int y), (2, .ref w9)]) hx hb dL_append_12 rfl hl (by decide) rfl (fun ls hl => ?_)
  refine lv_iconst (v := nI 1) hx hb dL_append_13 (by decide) ?_
  exact k_iretM hx hb hr hlk dL_append_14 hS hkO (rfl)
def ry_L_append_2 : Room := { frames := 7, cells := 1, slots := 6, locals := 103 }
set_option maxHeartbeats 4000000 in
set_option maxRecDepth 100000 in
theorem y_L_append_2 (l : Launch) (hlS : l.stackTraces = false) (E : ke_E) (A : Nat → Prop) (o : Nat) (z : Nat → Int32) (bn : Nat) (f : Nat → Int32) (y : Int32) (w9 : Nat) (x9 : Int64) (h1 : nI 33 ≤ y ∧ y ≤ nI 126) (hbn : bn = 60) (hw9 : w9 + 1 ≤ o ∨ o + 477 ≤ w9) : Met l yL_append wsL_append ry_L_append_2 (kpx E A [.ref o, .int y, .ref w9] (fun H => gg E o H ∧ bo E (o + 475) bn (auE (au f bn)) (auS (au f bn)) f H ∧ la E w9 x9 H)) (qm (some (.int (nI 2))) (bl w9 1) (la E w9 x9)) 1 6 (bl w9 1) := by
  refine w_hd (cc := cL_append) (maxL := 4) (ret := (some .int)) (hh := [(0, 9, 12, 15), (0, 9, 15, 34)]) (by decide) rfl (Nat.le_of_ble_eq_true rfl) ?_
  intro p e s m below meth c ls S hr hlk htb hK hX hP hl
  have hx := S.1
  have hb := S.2.1
  have hts := S.2.2.2.2
  obtain ⟨hP0, hP1, hP2⟩ := hP
  have hl : lv_has ls 4 [(0, .ref o), (1, .int y), (2, .ref w9)] := hl
  have hS : va_S (bl w9 1) s.heap s.heap [] := va_S.rf
  refine lv_aload_n hx hb dL_append_0 rfl (lv_at hl 2 rfl) ?_
  refine lv_iconst (v := nI 0) hx hb dL_append_1 (by decide) ?_
  refine lv_aload_n hx hb dL_append_2 rfl (lv_at hl 0 rfl) ?_
  refine lv_iload_n hx hb dL_append_3 rfl (lv_at hl 1 rfl) ?_
  refine w_V (As := [.int y]) (rest := [.int (nI 0), .ref w9]) (hd9 := 15) (A2 := bl w9 1) (pre := [⟨0, 9, 12, 15⟩]) (x := ⟨0, 9, 15, 34⟩) (suf := []) S hK hX (x_X6_append_2 l hlS E A o z bn f y h1 hbn) gL_append_X6_append rfl hd_X6_append ⟨rfl, rfl⟩ ⟨Nat.le_of_ble_eq_true rfl, Nat.le_of_ble_eq_true rfl⟩ (k_recv hK hP0 rfl) ⟨hP0, hP1⟩ rfl hl.1 rfl (Nat.le_of_ble_eq_true rfl) dL_append_4 ⟨Nat.le_of_ble_eq_true rfl, Nat.le_of_ble_eq_true rfl⟩ (by decide) (htb.trans rfl) (fun z hz => by
      rcases List.mem_cons.mp hz with h | hz
      · subst h; exact ⟨by decide, "java/lang/IllegalArgumentException", List.mem_cons_of_mem _ (List.mem_append_left _ (List.mem_append_left _ (List.mem_append_left _ (List.mem_append_left _ (List.mem_append_left _ (List.mem_of_getElem? (i := 0) rfl)))))), by decide, by decide⟩
      cases hz) (by decide) (by decide) (List.mem_cons_of_mem _ (List.mem_append_left _ (List.mem_append_left _ (List.mem_append_left _ (List.mem_append_left _ (List.mem_append_left _ (List.mem_of_getElem? (i := 1) rfl))))))) rfl (fun q9 H locs zH fH hS => ?_)
  have hkB := bo_fr2 hP1 (fun q h9 _ => fH q h9)
  have hkG := gg_fr2 hP0 (fun q h9 _ => fH q h9)
  have hkO := la_fr2 hP2 (fun q h9 _ => fH q h9)
  refine lv_astore_n (lv' := [(3, .ref q9), (0, .ref o), (1, .int y), (2, .ref w9)]) hx hb dL_append_15 rfl hl (by decide) rfl (fun ls hl => ?_)
  refine lv_iconst (v := nI 2) hx hb dL_append_16 (by decide) ?_
  exact k_iretM hx hb hr hlk dL_append_17 hS hkO (rfl)
def rm_L_receiveAll : Room := { frames := 5, cells := 0, slots := 0, locals := 106 }
theorem hd_L_receiveAll : k_hd1 yL_receiveAll RL 2 := by decide +kernel
set_option maxHeartbeats 4000000 in
set_option maxRecDepth 100000 in
theorem c_L_receiveAll (l : Launch) (hlS : l.stackTraces = false) (E : ke_E) (A : Nat → Prop) (o : Nat) (z : Nat → Int32) (sn : Nat) (r : Nat → Int32) (bn : Nat) (f : Nat → Int32) (ee : Nat) (w9 : Nat) (x9 : Int64) (hI : iv z) (hn6 : sn ≤ 6) (hG : au f bn = .inl ee) (hE : ee = 4 ∨ ee = 9) (hc : cn z + tC f bn ≤ 20) (hsc : sC f bn + 1 = tC f bn) (hbn : bn ≤ 60) (hw9 : w9 + 1 ≤ o ∨ o + 477 ≤ w9) : Met l yL_receiveAll wsL_receiveAll rm_L_receiveAll (kpx E A [.ref o, .ref w9] (fun H => gg E o H ∧ dz E (o + 1) z H ∧ tr E (o + 60) H ∧ hy E (o + 119) sn r H ∧ bo E (o + 475) bn (auE (au f bn)) (auS (au f bn)) f H ∧ la E w9 x9 H)) (qm (some (.int (nI 0))) (ow o w9) (fun H => gg E o H ∧ dz E (o + 1) (pu f z bn).1 H ∧ tr E (o + 60) H ∧ hy E (o + 119) (svN sn) (svR r z sn) H ∧ bo E (o + 475) 0 (auE (au f 0)) (auS (au f 0)) f H ∧ la E w9 ((nI (cn (pu f z bn).1)).toInt64) H)) 0 0 (ow o w9) := by
  refine w_hd (cc := cL_receiveAll) (maxL := 3) (ret := (some .int)) (hh := [(0, 8, 11, 15), (0, 8, 14, 34)]) (by decide) rfl (Nat.le_of_ble_eq_true rfl) ?_
  intro p e s m below meth c ls S hr hlk htb hK hX hP hl
  have hx := S.1
  have hb := S.2.1
  have hts := S.2.2.2.2
  obtain ⟨hP0, hP1, hP2, hP3, hP4, hP5⟩ := hP
  have hl : lv_has ls 3 [(0, .ref o), (1, .ref w9)] := hl
  have hS : va_S (ow o w9) s.heap s.heap [] := va_S.rf
  refine lv_aload_n hx hb dL_receiveAll_0 rfl (lv_at hl 1 rfl) ?_
  refine lv_iconst (v := nI 0) hx hb dL_receiveAll_1 (by decide) ?_
  refine lv_aload_n hx hb dL_receiveAll_2 rfl (lv_at hl 0 rfl) ?_
  refine k_VM (As := []) (rest := [.int (nI 0), .ref w9]) S hK (c_X6_receiveAll l E o z sn r bn f ee hI hn6 hG hE hc hsc hbn) gL_receiveAll_X6_receiveAll rfl hd_X6_receiveAll ⟨rfl, rfl⟩ ⟨Nat.le_of_ble_eq_true rfl, Nat.le_of_ble_eq_true rfl⟩ (k_recv hK hP0 rfl) ⟨hP0, hP1, hP2, hP3, hP4⟩ rfl hl.1 rfl (Nat.le_of_ble_eq_true rfl) dL_receiveAll_3 ⟨Nat.le_of_ble_eq_true rfl, Nat.le_of_ble_eq_true rfl⟩ hS (fun q h => Or.inl h) (fun q h => Or.inl h) (fun H locs hQ zH fH hS => ?_)
  obtain ⟨hR0, hR1, hR2, hR3, hR4⟩ := hQ
  have hV1 := hR0
  have hV2 := hR1
  have hV3 := hR2
  have hV4 := hR3
  have hV5 := hR4
  have hk2 := la_fr2 hP5 (fun q hz hq => fH q hz (bl_ne hq (by omega)))
  refine lv_i2l hx hb dL_receiveAll_6 rfl ?_
  refine la_ast hx hb hK hk2 hS (Or.inr ⟨by omega, by omega⟩) dL_receiveAll_7 (fun H locs hP zH fH hS => ?_)
  have hV6 := hP
  have hk0 := bo_fr2 hV5 (fun q _ hq => fH q (bl_ne hq (by omega)))
  have hk1 := gg_fr2 hV1 (fun q _ hq => fH q (bl_ne hq (by omega)))
  have hk3 := dz_fr2 hV2 (fun q _ hq => fH q (bl_ne hq (by omega)))
  have hk4 := tr_fr2 hV3 (fun q _ hq => fH q (bl_ne hq (by omega)))
  have hk5 := hy_fr2 hV4 (fun q _ hq => fH q (bl_ne hq (by omega)))
  refine lv_goto (tgt := 17) hx hb dL_receiveAll_8 (by decide) ?_
  refine lv_iconst (v := nI 0) hx hb dL_receiveAll_17 (by decide) ?_
  exact k_iretM hx hb hr hlk dL_receiveAll_18 hS ⟨hk1, hk3, hk4, hk5, hk0, hV6⟩ (rfl)
def ry_L_receiveAll_1 : Room := { frames := 7, cells := 1, slots := 6, locals := 102 }
set_option maxHeartbeats 4000000 in
set_option maxRecDepth 100000 in
theorem y_L_receiveAll_1 (l : Launch) (hlS : l.stackTraces = false) (E : ke_E) (A : Nat → Prop) (o : Nat) (z : Nat → Int32) (bn : Nat) (f : Nat → Int32) (w9 : Nat) (x9 : Int64) (hI : iv z) (h1 : ¬ (au f bn = .inl 4 ∨ au f bn = .inl 9)) (hw9 : w9 + 1 ≤ o ∨ o + 477 ≤ w9) : Met l yL_receiveAll wsL_receiveAll ry_L_receiveAll_1 (kpx E A [.ref o, .ref w9] (fun H => gg E o H ∧ dz E (o + 1) z H ∧ bo E (o + 475) bn (auE (au f bn)) (auS (au f bn)) f H ∧ la E w9 x9 H)) (qm (some (.int (nI 1))) (bl w9 1) (la E w9 x9)) 1 6 (bl w9 1) := by
  refine w_hd (cc := cL_receiveAll) (maxL := 3) (ret := (some .int)) (hh := [(0, 8, 11, 15), (0, 8, 14, 34)]) (by decide) rfl (Nat.le_of_ble_eq_true rfl) ?_
  intro p e s m below meth c ls S hr hlk htb hK hX hP hl
  have hx := S.1
  have hb := S.2.1
  have hts := S.2.2.2.2
  obtain ⟨hP0, hP1, hP2, hP3⟩ := hP
  have hl : lv_has ls 3 [(0, .ref o), (1, .ref w9)] := hl
  have hS : va_S (bl w9 1) s.heap s.heap [] := va_S.rf
  refine lv_aload_n hx hb dL_receiveAll_0 rfl (lv_at hl 1 rfl) ?_
  refine lv_iconst (v := nI 0) hx hb dL_receiveAll_1 (by decide) ?_
  refine lv_aload_n hx hb dL_receiveAll_2 rfl (lv_at hl 0 rfl) ?_
  refine w_V (As := []) (rest := [.int (nI 0), .ref w9]) (hd9 := 11) (A2 := bl w9 1) (pre := []) (x := ⟨0, 8, 11, 15⟩) (suf := [⟨0, 8, 14, 34⟩]) S hK hX (x_X6_receiveAll_1 l hlS E A o z bn f hI h1) gL_receiveAll_X6_receiveAll rfl hd_X6_receiveAll ⟨rfl, rfl⟩ ⟨Nat.le_of_ble_eq_true rfl, Nat.le_of_ble_eq_true rfl⟩ (k_recv hK hP0 rfl) ⟨hP0, hP1, hP2⟩ rfl hl.1 rfl (Nat.le_of_ble_eq_true rfl) dL_receiveAll_3 ⟨Nat.le_of_ble_eq_true rfl, Nat.le_of_ble_eq_true rfl⟩ (by decide) (htb.trans rfl) (fun z hz => by cases hz) (by decide) (by decide) (List.mem_cons_of_mem _ (List.mem_append_left _ (List.mem_append_left _ (List.mem_append_left _ (List.mem_append_left _ (List.mem_append_left _ (List.mem_append_left _ (List.mem_append_left _ (List.mem_append_left _ (List.mem_append_left _ (List.mem_append_left _ (List.mem_of_getElem? (i := 0) rfl)))))))))))) rfl (fun q9 H locs zH fH hS => ?_)
  have hkB := bo_fr2 hP2 (fun q h9 _ => fH q h9)
  have hkG := gg_fr2 hP0 (fun q h9 _ => fH q h9)
  have hkO := la_fr2 hP3 (fun q h9 _ => fH q h9)
  have hkQ := dz_fr2 hP1 (fun q h9 _ => fH q h9)
  refine lv_astore_n (lv' := [(2, .ref q9), (0, .ref o), (1, .ref w9)]) hx hb dL_receiveAll_11 rfl hl (by decide) rfl (fun ls hl => ?_)
  refine lv_iconst (v := nI 1) hx hb dL_receiveAll_12 (by decide) ?_
  exact k_iretM hx hb hr hlk dL_receiveAll_13 hS hkO (rfl)
def ry_L_receiveAll_2 : Room := { frames := 7, cells := 1, slots := 6, locals := 102 }
set_option maxHeartbeats 4000000 in
set_option maxRecDepth 100000 in
theorem y_L_receiveAll_2 (l : Launch) (hlS : l.stackTraces = false) (E : ke_E) (A : Nat → Prop) (o : Nat) (z : Nat → Int32) (bn : Nat) (f : Nat → Int32) (w9 : Nat) (x9 : Int64) (hI : iv z) (h1 : au f bn = .inl 4 ∨ au f bn = .inl 9) (hbn : bn ≤ 60) (h2 : 20 < cn z + sC f bn + 1) (hw9 : w9 + 1 ≤ o ∨ o + 477 ≤ w9) : Met l yL_receiveAll wsL_receiveAll ry_L_receiveAll_2 (kpx E A [.ref o, .ref w9] (fun H => gg E o H ∧ dz E (o + 1) z H ∧ bo E (o + 475) bn (auE (au f bn)) (auS (au f bn)) f H ∧ la E w9 x9 H)) (qm (some (.int (nI 2))) (bl w9 1) (la E w9 x9)) 1 6 (bl w9 1) := by
  refine w_hd (cc := cL_receiveAll) (maxL := 3) (ret := (some .int)) (hh := [(0, 8, 11, 15), (0, 8, 14, 34)]) (by decide) rfl (Nat.le_of_ble_eq_true rfl) ?_
  intro p e s m below meth c ls S hr hlk htb hK hX hP hl
  have hx := S.1
  have hb := S.2.1
  have hts := S.2.2.2.2
  obtain ⟨hP0, hP1, hP2, hP3⟩ := hP
  have hl : lv_has ls 3 [(0, .ref o), (1, .ref w9)] := hl
  have hS : va_S (bl w9 1) s.heap s.heap [] := va_S.rf
  refine lv_aload_n hx hb dL_receiveAll_0 rfl (lv_at hl 1 rfl) ?_
  refine lv_iconst (v := nI 0) hx hb dL_receiveAll_1 (by decide) ?_
  refine lv_aload_n hx hb dL_receiveAll_2 rfl (lv_at hl 0 rfl) ?_
  refine w_V (As := []) (rest := [.int (nI 0), .ref w9]) (hd9 := 14) (A2 := bl w9 1) (pre := [⟨0, 8, 11, 15⟩]) (x := ⟨0, 8, 14, 34⟩) (suf := []) S hK hX (x_X6_receiveAll_2 l hlS E A o z bn f hI h1 hbn h2) gL_receiveAll_X6_receiveAll rfl hd_X6_receiveAll ⟨rfl, rfl⟩ ⟨Nat.le_of_ble_eq_true rfl, Nat.le_of_ble_eq_true rfl⟩ (k_recv hK hP0 rfl) ⟨hP0, hP1, hP2⟩ rfl hl.1 rfl (Nat.le_of_ble_eq_true rfl) dL_receiveAll_3 ⟨Nat.le_of_ble_eq_true rfl, Nat.le_of_ble_eq_true rfl⟩ (by decide) (htb.trans rfl) (fun z hz => by
      rcases List.mem_cons.mp hz with h | hz
      · subst h; exact ⟨by decide, "java/lang/IllegalArgumentException", List.mem_cons_of_mem _ (List.mem_append_left _ (List.mem_append_left _ (List.mem_append_left _ (List.mem_append_left _ (List.mem_append_left _ (List.mem_append_left _ (List.mem_append_left _ (List.mem_append_left _ (List.mem_append_left _ (List.mem_append_left _ (List.mem_of_getElem? (i := 0) rfl))))))))))), by decide, by decide⟩
      cases hz) (by decide) (by decide) (List.mem_cons_of_mem _ (List.mem_append_left _ (List.mem_append_left _ (List.mem_append_left _ (List.mem_append_left _ (List.mem_append_left _ (List.mem_append_left _ (List.mem_append_left _ (List.mem_append_left _ (List.mem_append_left _ (List.mem_append_left _ (List.mem_of_getElem? (i := 1) rfl)))))))))))) rfl (fun q9 H locs zH fH hS => ?_)
  have hkB := bo_fr2 hP2 (fun q h9 _ => fH q h9)
  have hkG := gg_fr2 hP0 (fun q h9 _ => fH q h9)
  have hkO := la_fr2 hP3 (fun q h9 _ => fH q h9)
  have hkQ := dz_fr2 hP1 (fun q h9 _ => fH q h9)
  refine lv_astore_n (lv' := [(2, .ref q9), (0, .ref o), (1, .ref w9)]) hx hb dL_receiveAll_14 rfl hl (by decide) rfl (fun ls hl => ?_)
  refine lv_iconst (v := nI 2) hx hb dL_receiveAll_15 (by decide) ?_
  exact k_iretM hx hb hr hlk dL_receiveAll_16 hS hkO (rfl)
def rm_L_undo : Room := { frames := 5, cells := 0, slots := 0, locals := 107 }
theorem hd_L_undo : k_hd1 yL_undo RL 2 := by decide +kernel
set_option maxHeartbeats 4000000 in
set_option maxRecDepth 100000 in
theorem c_L_undo (l : Launch) (hlS : l.stackTraces = false) (E : ke_E) (A : Nat → Prop) (o : Nat) (z : Nat → Int32) (r : Nat → Int32) (bn : Nat) (f : Nat → Int32) (k : Nat) (w9 : Nat) (x9 : Int64) (hIr : iv (fun j => r (322*k + j))) (hk6 : k < 6) (hw9 : w9 + 1 ≤ o ∨ o + 477 ≤ w9) : Met l yL_undo wsL_undo rm_L_undo (kpx E A [.ref o, .ref w9] (fun H => gg E o H ∧ dz E (o + 1) z H ∧ tr E (o + 60) H ∧ hy E (o + 119) (k + 1) r H ∧ bo E (o + 475) bn (auE (au f bn)) (auS (au f bn)) f H ∧ la E w9 x9 H)) (qm (some (.int (nI 0))) (ow o w9) (fun H => gg E o H ∧ dz E (o + 1) (fun j => r (322*k + j)) H ∧ tr E (o + 60) H ∧ hy E (o + 119) k r H ∧ bo E (o + 475) bn (auE (au f bn)) (auS (au f bn)) f H ∧ la E w9 ((nI k).toInt64) H)) 0 0 (ow o w9) := by
  refine w_hd (cc := cL_undo) (maxL := 3) (ret := (some .int)) (hh := [(0, 8, 11, 34)]) (by decide) rfl (Nat.le_of_ble_eq_true rfl) ?_
  intro p e s m below meth c ls S hr hlk htb hK hX hP hl
  have hx := S.1
  have hb := S.2.1
  have hts := S.2.2.2.2
  obtain ⟨hP0, hP1, hP2, hP3, hP4, hP5⟩ := hP
  have hl : lv_has ls 3 [(0, .ref o), (1, .ref w9)] := hl
  have hS : va_S (ow o w9) s.heap s.heap [] := va_S.rf
  refine lv_aload_n hx hb dL_undo_0 rfl (lv_at hl 1 rfl) ?_
  refine lv_iconst (v := nI 0) hx hb dL_undo_1 (by decide) ?_
  refine lv_aload_n hx hb dL_undo_2 rfl (lv_at hl 0 rfl) ?_
  refine k_VM (As := []) (rest := [.int (nI 0), .ref w9]) S hK (c_X6_undo l E o z r bn f k hIr hk6) gL_undo_X6_undo rfl hd_X6_undo ⟨rfl, rfl⟩ ⟨Nat.le_of_ble_eq_true rfl, Nat.le_of_ble_eq_true rfl⟩ (k_recv hK hP0 rfl) ⟨hP0, hP1, hP2, hP3, hP4⟩ rfl hl.1 rfl (Nat.le_of_ble_eq_true rfl) dL_undo_3 ⟨Nat.le_of_ble_eq_true rfl, Nat.le_of_ble_eq_true rfl⟩ hS (fun q h => Or.inl h) (fun q h => Or.inl h) (fun H locs hQ zH fH hS => ?_)
  obtain ⟨hR0, hR1, hR2, hR3, hR4⟩ := hQ
  have hV1 := hR0
  have hV2 := hR1
  have hV3 := hR2
  have hV4 := hR3
  have hV5 := hR4
  have hk2 := la_fr2 hP5 (fun q hz hq => fH q hz (bl_ne hq (by omega)))
  refine lv_i2l hx hb dL_undo_6 rfl ?_
  refine la_ast hx hb hK hk2 hS (Or.inr ⟨by omega, by omega⟩) dL_undo_7 (fun H locs hP zH fH hS => ?_)
  have hV6 := hP
  have hk0 := bo_fr2 hV5 (fun q _ hq => fH q (bl_ne hq (by omega)))
  have hk1 := gg_fr2 hV1 (fun q _ hq => fH q (bl_ne hq (by omega)))
  have hk3 := dz_fr2 hV2 (fun q _ hq => fH q (bl_ne hq (by omega)))
  have hk4 := tr_fr2 hV3 (fun q _ hq => fH q (bl_ne hq (by omega)))
  have hk5 := hy_fr2 hV4 (fun q _ hq => fH q (bl_ne hq (by omega)))
  refine lv_goto (tgt := 14) hx hb dL_undo_8 (by decide) ?_
  refine lv_iconst (v := nI 0) hx hb dL_undo_14 (by decide) ?_
  exact k_iretM hx hb hr hlk dL_undo_15 hS ⟨hk1, hk3, hk4, hk5, hk0, hV6⟩ (rfl)
def ry_L_undo_1 : Room := { frames := 7, cells := 1, slots := 6, locals := 102 }
set_option maxHeartbeats 4000000 in
set_option maxRecDepth 100000 in
theorem y_L_undo_1 (l : Launch) (hlS : l.stackTraces = false) (E : ke_E) (A : Nat → Prop) (o : Nat) (z : Nat → Int32) (r : Nat → Int32) (w9 : Nat) (x9 : Int64) (hw9 : w9 + 1 ≤ o ∨ o + 477 ≤ w9) : Met l yL_undo wsL_undo ry_L_undo_1 (kpx E A [.ref o, .ref w9] (fun H => gg E o H ∧ hy E (o + 119) 0 r H ∧ la E w9 x9 H)) (qm (some (.int (nI 1))) (bl w9 1) (la E w9 x9)) 1 6 (bl w9 1) := by
  refine w_hd (cc := cL_undo) (maxL := 3) (ret := (some .int)) (hh := [(0, 8, 11, 34)]) (by decide) rfl (Nat.le_of_ble_eq_true rfl) ?_
  intro p e s m below meth c ls S hr hlk htb hK hX hP hl
  have hx := S.1
  have hb := S.2.1
  have hts := S.2.2.2.2
  obtain ⟨hP0, hP1, hP2⟩ := hP
  have hl : lv_has ls 3 [(0, .ref o), (1, .ref w9)] := hl
  have hS : va_S (bl w9 1) s.heap s.heap [] := va_S.rf
  refine lv_aload_n hx hb dL_undo_0 rfl (lv_at hl 1 rfl) ?_
  refine lv_iconst (v := nI 0) hx hb dL_undo_1 (by decide) ?_
  refine lv_aload_n hx hb dL_undo_2 rfl (lv_at hl 0 rfl) ?_
  refine w_V (As := []) (rest := [.int (nI 0), .ref w9]) (hd9 := 11) (A2 := bl w9 1) (pre := []) (x := ⟨0, 8, 11, 34⟩) (suf := []) S hK hX (x_X6_undo_1 l hlS E A o z r) gL_undo_X6_undo rfl hd_X6_undo ⟨rfl, rfl⟩ ⟨Nat.le_of_ble_eq_true rfl, Nat.le_of_ble_eq_true rfl⟩ (k_recv hK hP0 rfl) ⟨hP0, hP1⟩ rfl hl.1 rfl (Nat.le_of_ble_eq_true rfl) dL_undo_3 ⟨Nat.le_of_ble_eq_true rfl, Nat.le_of_ble_eq_true rfl⟩ (by decide) (htb.trans rfl) (fun z hz => by cases hz) (by decide) (by decide) (List.mem_cons_of_mem _ (List.mem_append_left _ (List.mem_append_left _ (List.mem_append_left _ (List.mem_append_left _ (List.mem_append_left _ (List.mem_append_left _ (List.mem_append_left _ (List.mem_append_left _ (List.mem_of_getElem? (i := 0) rfl)))))))))) rfl (fun q9 H locs zH fH hS => ?_)
  have hkG := gg_fr2 hP0 (fun q h9 _ => fH q h9)
  have hkO := la_fr2 hP2 (fun q h9 _ => fH q h9)
  have hkY := hy_fr2 hP1 (fun q h9 _ => fH q h9)
  refine lv_astore_n (lv' := [(2, .ref q9), (0, .ref o), (1, .ref w9)]) hx hb dL_undo_11 rfl hl (by decide) rfl (fun ls hl => ?_)
  refine lv_iconst (v := nI 1) hx hb dL_undo_12 (by decide) ?_
  exact k_iretM hx hb hr hlk dL_undo_13 hS hkO (rfl)
def rm_L_unit : Room := { frames := 4, cells := 0, slots := 0, locals := 86 }
theorem hd_L_unit : k_hd1 yL_unit RL 4 := by decide +kernel
set_option maxHeartbeats 4000000 in
set_option maxRecDepth 100000 in
theorem c_L_unit (l : Launch) (hlS : l.stackTraces = false) (E : ke_E) (A : Nat → Prop) (o : Nat) (z : Nat → Int32) (u : Nat) (k : Nat) (w9 : Nat) (x9 : Int64) (hI : iv z) (hu : u < cn z) (hk : k < 14) (hw9 : w9 + 1 ≤ o ∨ o + 477 ≤ w9) : Met l yL_unit wsL_unit rm_L_unit (kpx E A [.ref o, .int (nI u), .int (nI k), .ref w9] (fun H => gg E o H ∧ dz E (o + 1) z H ∧ la E w9 x9 H)) (qm (some (.int (nI 0))) (bl w9 1) (la E w9 ((unV z u k).toInt64))) 0 0 (bl w9 1) := by
  refine w_hd (cc := cL_unit) (maxL := 5) (ret := (some .int)) (hh := [(0, 10, 13, 13), (0, 10, 17, 15)]) (by decide) rfl (Nat.le_of_ble_eq_true rfl) ?_
  intro p e s m below meth c ls S hr hlk htb hK hX hP hl
  have hx := S.1
  have hb := S.2.1
  have hts := S.2.2.2.2
  obtain ⟨hP0, hP1, hP2⟩ := hP
  have hl : lv_has ls 5 [(0, .ref o), (1, .int (nI u)), (2, .int (nI k)), (3, .ref w9)] := hl
  have hS : va_S (bl w9 1) s.heap s.heap [] := va_S.rf
  refine lv_aload_n hx hb dL_unit_0 rfl (lv_at hl 3 rfl) ?_
  refine lv_iconst (v := nI 0) hx hb dL_unit_1 (by decide) ?_
  refine lv_aload_n hx hb dL_unit_2 rfl (lv_at hl 0 rfl) ?_
  refine lv_iload_n hx hb dL_unit_3 rfl (lv_at hl 1 rfl) ?_
  refine lv_iload_n hx hb dL_unit_4 rfl (lv_at hl 2 rfl) ?_
  refine k_V (As := [.int (nI u), .int (nI k)]) (rest := [.int (nI 0), .ref w9]) S hK (c_X6_unit l E o z u k hI hu hk) gL_unit_X6_unit rfl hd_X6_unit ⟨rfl, rfl⟩ ⟨Nat.le_of_ble_eq_true rfl, Nat.le_of_ble_eq_true rfl⟩ (k_recv hK hP0 rfl) ⟨hP0, hP1⟩ rfl hl.1 rfl (Nat.le_of_ble_eq_true rfl) dL_unit_5 ⟨Nat.le_of_ble_eq_true rfl, Nat.le_of_ble_eq_true rfl⟩ ?_
  refine lv_i2l hx hb dL_unit_8 rfl ?_
  refine la_ast hx hb hK hP2 hS (⟨by omega, by omega⟩) dL_unit_9 (fun H locs hP zH fH hS => ?_)
  have hV1 := hP
  have hk0 := gg_fr2 hP0 (fun q _ hq => fH q (bl_ne hq (by omega)))
  have hk2 := dz_fr2 hP1 (fun q _ hq => fH q (bl_ne hq (by omega)))
  refine lv_goto (tgt := 21) hx hb dL_unit_10 (by decide) ?_
  refine lv_iconst (v := nI 0) hx hb dL_unit_21 (by decide) ?_
  exact k_iretM hx hb hr hlk dL_unit_22 hS hV1 (rfl)
def ry_L_unit_1 : Room := { frames := 8, cells := 1, slots := 6, locals := 126 }
set_option maxHeartbeats 4000000 in
set_option maxRecDepth 100000 in
theorem y_L_unit_1 (l : Launch) (hlS : l.stackTraces = false) (E : ke_E) (A : Nat → Prop) (o : Nat) (z : Nat → Int32) (x : Int32) (y : Int32) (w9 : Nat) (x9 : Int64) (hI : iv z) (h1 : ¬ inR x (cn z)) (hw9 : w9 + 1 ≤ o ∨ o + 477 ≤ w9) : Met l yL_unit wsL_unit ry_L_unit_1 (kpx E A [.ref o, .int x, .int y, .ref w9] (fun H => gg E o H ∧ dz E (o + 1) z H ∧ la E w9 x9 H)) (qm (some (.int (nI 1))) (bl w9 1) (la E w9 x9)) 1 6 (bl w9 1) := by
  refine w_hd (cc := cL_unit) (maxL := 5) (ret := (some .int)) (hh := [(0, 10, 13, 13), (0, 10, 17, 15)]) (by decide) rfl (Nat.le_of_ble_eq_true rfl) ?_
  intro p e s m below meth c ls S hr hlk htb hK hX hP hl
  have hx := S.1
  have hb := S.2.1
  have hts := S.2.2.2.2
  obtain ⟨hP0, hP1, hP2⟩ := hP
  have hl : lv_has ls 5 [(0, .ref o), (1, .int x), (2, .int y), (3, .ref w9)] := hl
  have hS : va_S (bl w9 1) s.heap s.heap [] := va_S.rf
  refine lv_aload_n hx hb dL_unit_0 rfl (lv_at hl 3 rfl) ?_
  refine lv_iconst (v := nI 0) hx hb dL_unit_1 (by decide) ?_
  refine lv_aload_n hx hb dL_unit_2 rfl (lv_at hl 0 rfl) ?_
  refine lv_iload_n hx hb dL_unit_3 rfl (lv_at hl 1 rfl) ?_
  refine lv_iload_n hx hb dL_unit_4 rfl (lv_at hl 2 rfl) ?_
  refine w_V (As := [.int x, .int y]) (rest := [.int (nI 0), .ref w9]) (hd9 := 13) (A2 := bl w9 1) (pre := []) (x := ⟨0, 10, 13, 13⟩) (suf := [⟨0, 10, 17, 15⟩]) S hK hX (x_X6_unit_1 l hlS E A o z x y hI h1) gL_unit_X6_unit rfl hd_X6_unit ⟨rfl, rfl⟩ ⟨Nat.le_of_ble_eq_true rfl, Nat.le_of_ble_eq_true rfl⟩ (k_recv hK hP0 rfl) ⟨hP0, hP1⟩ rfl hl.1 rfl (Nat.le_of_ble_eq_true rfl) dL_unit_5 ⟨Nat.le_of_ble_eq_true rfl, Nat.le_of_ble_eq_true rfl⟩ (by decide) (htb.trans rfl) (fun z hz => by cases hz) (by decide) (by decide) (List.mem_cons_of_mem _ (List.mem_append_left _ (List.mem_append_left _ (List.mem_append_left _ (List.mem_append_left _ (List.mem_append_left _ (List.mem_append_left _ (List.mem_append_left _ (List.mem_of_getElem? (i := 0) rfl))))))))) rfl (fun q9 H locs zH fH hS => ?_)
  have hkG := gg_fr2 hP0 (fun q h9 _ => fH q h9)
  have hkO := la_fr2 hP2 (fun q h9 _ => fH q h9)
  have hkQ := dz_fr2 hP1 (fun q h9 _ => fH q h9)
  refine lv_astore (lv' := [(4, .ref q9), (0, .ref o), (1, .int x), (2, .int y), (3, .ref w9)]) hx hb dL_unit_13 hl (by decide) rfl (fun ls hl => ?_)
  refine lv_iconst (v := nI 1) hx hb dL_unit_15 (by decide) ?_
  exact k_iretM hx hb hr hlk dL_unit_16 hS hkO (rfl)
def ry_L_unit_2 : Room := { frames := 7, cells := 1, slots := 6, locals := 105 }
set_option maxHeartbeats 4000000 in
set_option maxRecDepth 100000 in
theorem y_L_unit_2 (l : Launch) (hlS : l.stackTraces = false) (E : ke_E) (A : Nat → Prop) (o : Nat) (z : Nat → Int32) (u : Nat) (x : Int32) (w9 : Nat) (x9 : Int64) (hI : iv z) (hu : u < cn z) (h1 : ¬ inR x 14) (hw9 : w9 + 1 ≤ o ∨ o + 477 ≤ w9) : Met l yL_unit wsL_unit ry_L_unit_2 (kpx E A [.ref o, .int (nI u), .int x, .ref w9] (fun H => gg E o H ∧ dz E (o + 1) z H ∧ la E w9 x9 H)) (qm (some (.int (nI 2))) (bl w9 1) (la E w9 x9)) 1 6 (bl w9 1) := by
  refine w_hd (cc := cL_unit) (maxL := 5) (ret := (some .int)) (hh := [(0, 10, 13, 13), (0, 10, 17, 15)]) (by decide) rfl (Nat.le_of_ble_eq_true rfl) ?_
  intro p e s m below meth c ls S hr hlk htb hK hX hP hl
  have hx := S.1
  have hb := S.2.1
  have hts := S.2.2.2.2
  obtain ⟨hP0, hP1, hP2⟩ := hP
  have hl : lv_has ls 5 [(0, .ref o), (1, .int (nI u)), (2, .int x), (3, .ref w9)] := hl
  have hS : va_S (bl w9 1) s.heap s.heap [] := va_S.rf
  refine lv_aload_n hx hb dL_unit_0 rfl (lv_at hl 3 rfl) ?_
  refine lv_iconst (v := nI 0) hx hb dL_unit_1 (by decide) ?_
  refine lv_aload_n hx hb dL_unit_2 rfl (lv_at hl 0 rfl) ?_
  refine lv_iload_n hx hb dL_unit_3 rfl (lv_at hl 1 rfl) ?_
  refine lv_iload_n hx hb dL_unit_4 rfl (lv_at hl 2 rfl) ?_
  refine w_V (As := [.int (nI u), .int x]) (rest := [.int (nI 0), .ref w9]) (hd9 := 17) (A2 := bl w9 1) (pre := [⟨0, 10, 13, 13⟩]) (x := ⟨0, 10, 17, 15⟩) (suf := []) S hK hX (x_X6_unit_2 l hlS E A o z u x hI hu h1) gL_unit_X6_unit rfl hd_X6_unit ⟨rfl, rfl⟩ ⟨Nat.le_of_ble_eq_true rfl, Nat.le_of_ble_eq_true rfl⟩ (k_recv hK hP0 rfl) ⟨hP0, hP1⟩ rfl hl.1 rfl (Nat.le_of_ble_eq_true rfl) dL_unit_5 ⟨Nat.le_of_ble_eq_true rfl, Nat.le_of_ble_eq_true rfl⟩ (by decide) (htb.trans rfl) (fun z hz => by
      rcases List.mem_cons.mp hz with h | hz
      · subst h; exact ⟨by decide, "java/lang/IndexOutOfBoundsException", List.mem_cons_of_mem _ (List.mem_append_left _ (List.mem_append_left _ (List.mem_append_left _ (List.mem_append_left _ (List.mem_append_left _ (List.mem_append_left _ (List.mem_append_left _ (List.mem_of_getElem? (i := 0) rfl)))))))), by decide, by decide⟩
      cases hz) (by decide) (by decide) (List.mem_cons_of_mem _ (List.mem_append_left _ (List.mem_append_left _ (List.mem_append_left _ (List.mem_append_left _ (List.mem_append_left _ (List.mem_append_left _ (List.mem_append_left _ (List.mem_of_getElem? (i := 1) rfl))))))))) rfl (fun q9 H locs zH fH hS => ?_)
  have hkG := gg_fr2 hP0 (fun q h9 _ => fH q h9)
  have hkO := la_fr2 hP2 (fun q h9 _ => fH q h9)
  have hkQ := dz_fr2 hP1 (fun q h9 _ => fH q h9)
  refine lv_astore (lv' := [(4, .ref q9), (0, .ref o), (1, .int (nI u)), (2, .int x), (3, .ref w9)]) hx hb dL_unit_17 hl (by decide) rfl (fun ls hl => ?_)
  refine lv_iconst (v := nI 2) hx hb dL_unit_19 (by decide) ?_
  exact k_iretM hx hb hr hlk dL_unit_20 hS hkO (rfl)
def rm_L_productOf : Room := { frames := 3, cells := 0, slots := 0, locals := 65 }
theorem hd_L_productOf : k_hd1 yL_productOf RL 4 := by decide +kernel
set_option maxHeartbeats 4000000 in
set_option maxRecDepth 100000 in
theorem c_L_productOf (l : Launch) (hlS : l.stackTraces = false) (E : ke_E) (A : Nat → Prop) (o : Nat) (z : Nat → Int32) (q : Nat) (k : Nat) (w9 : Nat) (x9 : Int64) (hI : iv z) (hq6 : q < 6) (hk : k < 6) (hw9 : w9 + 1 ≤ o ∨ o + 477 ≤ w9) : Met l yL_productOf wsL_productOf rm_L_productOf (kpx E A [.ref o, .int (nI q), .int (nI k), .ref w9] (fun H => gg E o H ∧ dz E (o + 1) z H ∧ la E w9 x9 H)) (qm (some (.int (nI 0))) (bl w9 1) (la E w9 ((gdV z q k).toInt64))) 0 0 (bl w9 1) := by
  refine w_hd (cc := cL_productOf) (maxL := 5) (ret := (some .int)) (hh := [(0, 10, 13, 13), (0, 10, 17, 15)]) (by decide) rfl (Nat.le_of_ble_eq_true rfl) ?_
  intro p e s m below meth c ls S hr hlk htb hK hX hP hl
  have hx := S.1
  have hb := S.2.1
  have hts := S.2.2.2.2
  obtain ⟨hP0, hP1, hP2⟩ := hP
  have hl : lv_has ls 5 [(0, .ref o), (1, .int (nI q)), (2, .int (nI k)), (3, .ref w9)] := hl
  have hS : va_S (bl w9 1) s.heap s.heap [] := va_S.rf
  refine lv_aload_n hx hb dL_productOf_0 rfl (lv_at hl 3 rfl) ?_
  refine lv_iconst (v := nI 0) hx hb dL_productOf_1 (by decide) ?_
  refine lv_aload_n hx hb dL_productOf_2 rfl (lv_at hl 0 rfl) ?_
  refine lv_iload_n hx hb dL_productOf_3 rfl (lv_at hl 1 rfl) ?_
  refine lv_iload_n hx hb dL_productOf_4 rfl (lv_at hl 2 rfl) ?_
  refine k_V (As := [.int (nI q), .int (nI k)]) (rest := [.int (nI 0), .ref w9]) S hK (c_X6_productOf l E o z q k hI hq6 hk) gL_productOf_X6_productOf rfl hd_X6_productOf ⟨rfl, rfl⟩ ⟨Nat.le_of_ble_eq_true rfl, Nat.le_of_ble_eq_true rfl⟩ (k_recv hK hP0 rfl) ⟨hP0, hP1⟩ rfl hl.1 rfl (Nat.le_of_ble_eq_true rfl) dL_productOf_5 ⟨Nat.le_of_ble_eq_true rfl, Nat.le_of_ble_eq_true rfl⟩ ?_
  refine lv_i2l hx hb dL_productOf_8 rfl ?_
  refine la_ast hx hb hK hP2 hS (⟨by omega, by omega⟩) dL_productOf_9 (fun H locs hP zH fH hS => ?_)
  have hV1 := hP
  have hk0 := gg_fr2 hP0 (fun q _ hq => fH q (bl_ne hq (by omega)))
  have hk2 := dz_fr2 hP1 (fun q _ hq => fH q (bl_ne hq (by omega)))
  refine lv_goto (tgt := 21) hx hb dL_productOf_10 (by decide) ?_
  refine lv_iconst (v := nI 0) hx hb dL_productOf_21 (by decide) ?_
  exact k_iretM hx hb hr hlk dL_productOf_22 hS hV1 (rfl)
def ry_L_productOf_1 : Room := { frames := 8, cells := 1, slots := 6, locals := 126 }
set_option maxHeartbeats 4000000 in
set_option maxRecDepth 100000 in
theorem y_L_productOf_1 (l : Launch) (hlS : l.stackTraces = false) (E : ke_E) (A : Nat → Prop) (o : Nat) (z : Nat → Int32) (x : Int32) (y : Int32) (w9 : Nat) (x9 : Int64) (hI : iv z) (h1 : ¬ inR x 6) (hw9 : w9 + 1 ≤ o ∨ o + 477 ≤ w9) : Met l yL_productOf wsL_productOf ry_L_productOf_1 (kpx E A [.ref o, .int x, .int y, .ref w9] (fun H => gg E o H ∧ dz E (o + 1) z H ∧ la E w9 x9 H)) (qm (some (.int (nI 1))) (bl w9 1) (la E w9 x9)) 1 6 (bl w9 1) := by
  refine w_hd (cc := cL_productOf) (maxL := 5) (ret := (some .int)) (hh := [(0, 10, 13, 13), (0, 10, 17, 15)]) (by decide) rfl (Nat.le_of_ble_eq_true rfl) ?_
  intro p e s m below meth c ls S hr hlk htb hK hX hP hl
  have hx := S.1
  have hb := S.2.1
  have hts := S.2.2.2.2
  obtain ⟨hP0, hP1, hP2⟩ := hP
  have hl : lv_has ls 5 [(0, .ref o), (1, .int x), (2, .int y), (3, .ref w9)] := hl
  have hS : va_S (bl w9 1) s.heap s.heap [] := va_S.rf
  refine lv_aload_n hx hb dL_productOf_0 rfl (lv_at hl 3 rfl) ?_
  refine lv_iconst (v := nI 0) hx hb dL_productOf_1 (by decide) ?_
  refine lv_aload_n hx hb dL_productOf_2 rfl (lv_at hl 0 rfl) ?_
  refine lv_iload_n hx hb dL_productOf_3 rfl (lv_at hl 1 rfl) ?_
  refine lv_iload_n hx hb dL_productOf_4 rfl (lv_at hl 2 rfl) ?_
  refine w_V (As := [.int x, .int y]) (rest := [.int (nI 0), .ref w9]) (hd9 := 13) (A2 := bl w9 1) (pre := []) (x := ⟨0, 10, 13, 13⟩) (suf := [⟨0, 10, 17, 15⟩]) S hK hX (x_X6_productOf_1 l hlS E A o z x y hI h1) gL_productOf_X6_productOf rfl hd_X6_productOf ⟨rfl, rfl⟩ ⟨Nat.le_of_ble_eq_true rfl, Nat.le_of_ble_eq_true rfl⟩ (k_recv hK hP0 rfl) ⟨hP0, hP1⟩ rfl hl.1 rfl (Nat.le_of_ble_eq_true rfl) dL_productOf_5 ⟨Nat.le_of_ble_eq_true rfl, Nat.le_of_ble_eq_true rfl⟩ (by decide) (htb.trans rfl) (fun z hz => by cases hz) (by decide) (by decide) (List.mem_cons_of_mem _ (List.mem_append_left _ (List.mem_append_left _ (List.mem_append_left _ (List.mem_append_left _ (List.mem_append_left _ (List.mem_append_left _ (List.mem_append_left _ (List.mem_of_getElem? (i := 0) rfl))))))))) rfl (fun q9 H locs zH fH hS => ?_)
  have hkG := gg_fr2 hP0 (fun q h9 _ => fH q h9)
  have hkO := la_fr2 hP2 (fun q h9 _ => fH q h9)
  have hkQ := dz_fr2 hP1 (fun q h9 _ => fH q h9)
  refine lv_astore (lv' := [(4, .ref q9), (0, .ref o), (1, .int x), (2, .int y), (3, .ref w9)]) hx hb dL_productOf_13 hl (by decide) rfl (fun ls hl => ?_)
  refine lv_iconst (v := nI 1) hx hb dL_productOf_15 (by decide) ?_
  exact k_iretM hx hb hr hlk dL_productOf_16 hS hkO (rfl)
def ry_L_productOf_2 : Room := { frames := 7, cells := 1, slots := 6, locals := 105 }
set_option maxHeartbeats 4000000 in
set_option maxRecDepth 100000 in
theorem y_L_productOf_2 (l : Launch) (hlS : l.stackTraces = false) (E : ke_E) (A : Nat → Prop) (o : Nat) (z : Nat → Int32) (q : Nat) (x : Int32) (w9 : Nat) (x9 : Int64) (hI : iv z) (hq6 : q < 6) (h1 : ¬ inR x 6) (hw9 : w9 + 1 ≤ o ∨ o + 477 ≤ w9) : Met l yL_productOf wsL_productOf ry_L_productOf_2 (kpx E A [.ref o, .int (nI q), .int x, .ref w9] (fun H => gg E o H ∧ dz E (o + 1) z H ∧ la E w9 x9 H)) (qm (some (.int (nI 2))) (bl w9 1) (la E w9 x9)) 1 6 (bl w9 1) := by
  refine w_hd (cc := cL_productOf) (maxL := 5) (ret := (some .int)) (hh := [(0, 10, 13, 13), (0, 10, 17, 15)]) (by decide) rfl (Nat.le_of_ble_eq_true rfl) ?_
  intro p e s m below meth c ls S hr hlk htb hK hX hP hl
  have hx := S.1
  have hb := S.2.1
  have hts := S.2.2.2.2
  obtain ⟨hP0, hP1, hP2⟩ := hP
  have hl : lv_has ls 5 [(0, .ref o), (1, .int (nI q)), (2, .int x), (3, .ref w9)] := hl
  have hS : va_S (bl w9 1) s.heap s.heap [] := va_S.rf
  refine lv_aload_n hx hb dL_productOf_0 rfl (lv_at hl 3 rfl) ?_
  refine lv_iconst (v := nI 0) hx hb dL_productOf_1 (by decide) ?_
  refine lv_aload_n hx hb dL_productOf_2 rfl (lv_at hl 0 rfl) ?_
  refine lv_iload_n hx hb dL_productOf_3 rfl (lv_at hl 1 rfl) ?_
  refine lv_iload_n hx hb dL_productOf_4 rfl (lv_at hl 2 rfl) ?_
  refine w_V (As := [.int (nI q), .int x]) (rest := [.int (nI 0), .ref w9]) (hd9 := 17) (A2 := bl w9 1) (pre := [⟨0, 10, 13, 13⟩]) (x := ⟨0, 10, 17, 15⟩) (suf := []) S hK hX (x_X6_productOf_2 l hlS E A o z q x hI hq6 h1) gL_productOf_X6_productOf rfl hd_X6_productOf ⟨rfl, rfl⟩ ⟨Nat.le_of_ble_eq_true rfl, Nat.le_of_ble_eq_true rfl⟩ (k_recv hK hP0 rfl) ⟨hP0, hP1⟩ rfl hl.1 rfl (Nat.le_of_ble_eq_true rfl) dL_productOf_5 ⟨Nat.le_of_ble_eq_true rfl, Nat.le_of_ble_eq_true rfl⟩ (by decide) (htb.trans rfl) (fun z hz => by
      rcases List.mem_cons.mp hz with h | hz
      · subst h; exact ⟨by decide, "java/lang/IndexOutOfBoundsException", List.mem_cons_of_mem _ (List.mem_append_left _ (List.mem_append_left _ (List.mem_append_left _ (List.mem_append_left _ (List.mem_append_left _ (List.mem_append_left _ (List.mem_append_left _ (List.mem_of_getElem? (i := 0) rfl)))))))), by decide, by decide⟩
      cases hz) (by decide) (by decide) (List.mem_cons_of_mem _ (List.mem_append_left _ (List.mem_append_left _ (List.mem_append_left _ (List.mem_append_left _ (List.mem_append_left _ (List.mem_append_left _ (List.mem_append_left _ (List.mem_of_getElem? (i := 1) rfl))))))))) rfl (fun q9 H locs zH fH hS => ?_)
  have hkG := gg_fr2 hP0 (fun q h9 _ => fH q h9)
  have hkO := la_fr2 hP2 (fun q h9 _ => fH q h9)
  have hkQ := dz_fr2 hP1 (fun q h9 _ => fH q h9)
  refine lv_astore (lv' := [(4, .ref q9), (0, .ref o), (1, .int (nI q)), (2, .int x), (3, .ref w9)]) hx hb dL_productOf_17 hl (by decide) rfl (fun ls hl => ?_)
  refine lv_iconst (v := nI 2) hx hb dL_productOf_19 (by decide) ?_
  exact k_iretM hx hb hr hlk dL_productOf_20 hS hkO (rfl)
def rm_L_vendor : Room := { frames := 4, cells := 0, slots := 0, locals := 86 }
theorem hd_L_vendor : k_hd1 yL_vendor RL 4 := by decide +kernel
set_option maxHeartbeats 4000000 in
set_option maxRecDepth 100000 in
theorem c_L_vendor (l : Launch) (hlS : l.stackTraces = false) (E : ke_E) (A : Nat → Prop) (o : Nat) (z : Nat → Int32) (v : Nat) (k : Nat) (w9 : Nat) (x9 : Int64) (hI : iv z) (hv4 : v < 4) (hk : k < 10) (hw9 : w9 + 1 ≤ o ∨ o + 477 ≤ w9) : Met l yL_vendor wsL_vendor rm_L_vendor (kpx E A [.ref o, .int (nI v), .int (nI k), .ref w9] (fun H => gg E o H ∧ dz E (o + 1) z H ∧ la E w9 x9 H)) (qm (some (.int (nI 0))) (bl w9 1) (la E w9 ((veV z v k).toInt64))) 0 0 (bl w9 1) := by
  refine w_hd (cc := cL_vendor) (maxL := 5) (ret := (some .int)) (hh := [(0, 10, 13, 13), (0, 10, 17, 15)]) (by decide) rfl (Nat.le_of_ble_eq_true rfl) ?_
  intro p e s m below meth c ls S hr hlk htb hK hX hP hl
  have hx := S.1
  have hb := S.2.1
  have hts := S.2.2.2.2
  obtain ⟨hP0, hP1, hP2⟩ := hP
  have hl : lv_has ls 5 [(0, .ref o), (1, .int (nI v)), (2, .int (nI k)), (3, .ref w9)] := hl
  have hS : va_S (bl w9 1) s.heap s.heap [] := va_S.rf
  refine lv_aload_n hx hb dL_vendor_0 rfl (lv_at hl 3 rfl) ?_
  refine lv_iconst (v := nI 0) hx hb dL_vendor_1 (by decide) ?_
  refine lv_aload_n hx hb dL_vendor_2 rfl (lv_at hl 0 rfl) ?_
  refine lv_iload_n hx hb dL_vendor_3 rfl (lv_at hl 1 rfl) ?_
  refine lv_iload_n hx hb dL_vendor_4 rfl (lv_at hl 2 rfl) ?_
  refine k_V (As := [.int (nI v), .int (nI k)]) (rest := [.int (nI 0), .ref w9]) S hK (c_X6_vendor l E o z v k hI hv4 hk) gL_vendor_X6_vendor rfl hd_X6_vendor ⟨rfl, rfl⟩ ⟨Nat.le_of_ble_eq_true rfl, Nat.le_of_ble_eq_true rfl⟩ (k_recv hK hP0 rfl) ⟨hP0, hP1⟩ rfl hl.1 rfl (Nat.le_of_ble_eq_true rfl) dL_vendor_5 ⟨Nat.le_of_ble_eq_true rfl, Nat.le_of_ble_eq_true rfl⟩ ?_
  refine lv_i2l hx hb dL_vendor_8 rfl ?_
  refine la_ast hx hb hK hP2 hS (⟨by omega, by omega⟩) dL_vendor_9 (fun H locs hP zH fH hS => ?_)
  have hV1 := hP
  have hk0 := gg_fr2 hP0 (fun q _ hq => fH q (bl_ne hq (by omega)))
  have hk2 := dz_fr2 hP1 (fun q _ hq => fH q (bl_ne hq (by omega)))
  refine lv_goto (tgt := 21) hx hb dL_vendor_10 (by decide) ?_
  refine lv_iconst (v := nI 0) hx hb dL_vendor_21 (by decide) ?_
  exact k_iretM hx hb hr hlk dL_vendor_22 hS hV1 (rfl)
def ry_L_vendor_1 : Room := { frames := 8, cells := 1, slots := 6, locals := 126 }
set_option maxHeartbeats 4000000 in
set_option maxRecDepth 100000 in
theorem y_L_vendor_1 (l : Launch) (hlS : l.stackTraces = false) (E : ke_E) (A : Nat → Prop) (o : Nat) (z : Nat → Int32) (x : Int32) (y : Int32) (w9 : Nat) (x9 : Int64) (hI : iv z) (h1 : ¬ inR x 4) (hw9 : w9 + 1 ≤ o ∨ o + 477 ≤ w9) : Met l yL_vendor wsL_vendor ry_L_vendor_1 (kpx E A [.ref o, .int x, .int y, .ref w9] (fun H => gg E o H ∧ dz E (o + 1) z H ∧ la E w9 x9 H)) (qm (some (.int (nI 1))) (bl w9 1) (la E w9 x9)) 1 6 (bl w9 1) := by
  refine w_hd (cc := cL_vendor) (maxL := 5) (ret := (some .int)) (hh := [(0, 10, 13, 13), (0, 10, 17, 15)]) (by decide) rfl (Nat.le_of_ble_eq_true rfl) ?_
  intro p e s m below meth c ls S hr hlk htb hK hX hP hl
  have hx := S.1
  have hb := S.2.1
  have hts := S.2.2.2.2
  obtain ⟨hP0, hP1, hP2⟩ := hP
  have hl : lv_has ls 5 [(0, .ref o), (1, .int x), (2, .int y), (3, .ref w9)] := hl
  have hS : va_S (bl w9 1) s.heap s.heap [] := va_S.rf
  refine lv_aload_n hx hb dL_vendor_0 rfl (lv_at hl 3 rfl) ?_
  refine lv_iconst (v := nI 0) hx hb dL_vendor_1 (by decide) ?_
  refine lv_aload_n hx hb dL_vendor_2 rfl (lv_at hl 0 rfl) ?_
  refine lv_iload_n hx hb dL_vendor_3 rfl (lv_at hl 1 rfl) ?_
  refine lv_iload_n hx hb dL_vendor_4 rfl (lv_at hl 2 rfl) ?_
  refine w_V (As := [.int x, .int y]) (rest := [.int (nI 0), .ref w9]) (hd9 := 13) (A2 := bl w9 1) (pre := []) (x := ⟨0, 10, 13, 13⟩) (suf := [⟨0, 10, 17, 15⟩]) S hK hX (x_X6_vendor_1 l hlS E A o z x y hI h1) gL_vendor_X6_vendor rfl hd_X6_vendor ⟨rfl, rfl⟩ ⟨Nat.le_of_ble_eq_true rfl, Nat.le_of_ble_eq_true rfl⟩ (k_recv hK hP0 rfl) ⟨hP0, hP1⟩ rfl hl.1 rfl (Nat.le_of_ble_eq_true rfl) dL_vendor_5 ⟨Nat.le_of_ble_eq_true rfl, Nat.le_of_ble_eq_true rfl⟩ (by decide) (htb.trans rfl) (fun z hz => by cases hz) (by decide) (by decide) (List.mem_cons_of_mem _ (List.mem_append_left _ (List.mem_append_left _ (List.mem_append_left _ (List.mem_append_left _ (List.mem_append_left _ (List.mem_append_left _ (List.mem_append_left _ (List.mem_of_getElem? (i := 0) rfl))))))))) rfl (fun q9 H locs zH fH hS => ?_)
  have hkG := gg_fr2 hP0 (fun q h9 _ => fH q h9)
  have hkO := la_fr2 hP2 (fun q h9 _ => fH q h9)
  have hkQ := dz_fr2 hP1 (fun q h9 _ => fH q h9)
  refine lv_astore (lv' := [(4, .ref q9), (0, .ref o), (1, .int x), (2, .int y), (3, .ref w9)]) hx hb dL_vendor_13 hl (by decide) rfl (fun ls hl => ?_)
  refine lv_iconst (v := nI 1) hx hb dL_vendor_15 (by decide) ?_
  exact k_iretM hx hb hr hlk dL_vendor_16 hS hkO (rfl)
def ry_L_vendor_2 : Room := { frames := 7, cells := 1, slots := 6, locals := 105 }
set_option maxHeartbeats 4000000 in
set_option maxRecDepth 100000 in
theorem y_L_vendor_2 (l : Launch) (hlS : l.stackTraces = false) (E : ke_E) (A : Nat → Prop) (o : Nat) (z : Nat → Int32) (v : Nat) (x : Int32) (w9 : Nat) (x9 : Int64) (hI : iv z) (hv4 : v < 4) (h1 : ¬ inR x 10) (hw9 : w9 + 1 ≤ o ∨ o + 477 ≤ w9) : Met l yL_vendor wsL_vendor ry_L_vendor_2 (kpx E A [.ref o, .int (nI v), .int x, .ref w9] (fun H => gg E o H ∧ dz E (o + 1) z H ∧ la E w9 x9 H)) (qm (some (.int (nI 2))) (bl w9 1) (la E w9 x9)) 1 6 (bl w9 1) := by
  refine w_hd (cc := cL_vendor) (maxL := 5) (ret := (some .int)) (hh := [(0, 10, 13, 13), (0, 10, 17, 15)]) (by decide) rfl (Nat.le_of_ble_eq_true rfl) ?_
  intro p e s m below meth c ls S hr hlk htb hK hX hP hl
  have hx := S.1
  have hb := S.2.1
  have hts := S.2.2.2.2
  obtain ⟨hP0, hP1, hP2⟩ := hP
  have hl : lv_has ls 5 [(0, .ref o), (1, .int (nI v)), (2, .int x), (3, .ref w9)] := hl
  have hS : va_S (bl w9 1) s.heap s.heap [] := va_S.rf
  refine lv_aload_n hx hb dL_vendor_0 rfl (lv_at hl 3 rfl) ?_
  refine lv_iconst (v := nI 0) hx hb dL_vendor_1 (by decide) ?_
  refine lv_aload_n hx hb dL_vendor_2 rfl (lv_at hl 0 rfl) ?_
  refine lv_iload_n hx hb dL_vendor_3 rfl (lv_at hl 1 rfl) ?_
  refine lv_iload_n hx hb dL_vendor_4 rfl (lv_at hl 2 rfl) ?_
  refine w_V (As := [.int (nI v), .int x]) (rest := [.int (nI 0), .ref w9]) (hd9 := 17) (A2 := bl w9 1) (pre := [⟨0, 10, 13, 13⟩]) (x := ⟨0, 10, 17, 15⟩) (suf := []) S hK hX (x_X6_vendor_2 l hlS E A o z v x hI hv4 h1) gL_vendor_X6_vendor rfl hd_X6_vendor ⟨rfl, rfl⟩ ⟨Nat.le_of_ble_eq_true rfl, Nat.le_of_ble_eq_true rfl⟩ (k_recv hK hP0 rfl) ⟨hP0, hP1⟩ rfl hl.1 rfl (Nat.le_of_ble_eq_true rfl) dL_vendor_5 ⟨Nat.le_of_ble_eq_true rfl, Nat.le_of_ble_eq_true rfl⟩ (by decide) (htb.trans rfl) (fun z hz => by
      rcases List.mem_cons.mp hz with h | hz
      · subst h; exact ⟨by decide, "java/lang/IndexOutOfBoundsException", List.mem_cons_of_mem _ (List.mem_append_left _ (List.mem_append_left _ (List.mem_append_left _ (List.mem_append_left _ (List.mem_append_left _ (List.mem_append_left _ (List.mem_append_left _ (List.mem_of_getElem? (i := 0) rfl)))))))), by decide, by decide⟩
      cases hz) (by decide) (by decide) (List.mem_cons_of_mem _ (List.mem_append_left _ (List.mem_append_left _ (List.mem_append_left _ (List.mem_append_left _ (List.mem_append_left _ (List.mem_append_left _ (List.mem_append_left _ (List.mem_of_getElem? (i := 1) rfl))))))))) rfl (fun q9 H locs zH fH hS => ?_)
  have hkG := gg_fr2 hP0 (fun q h9 _ => fH q h9)
  have hkO := la_fr2 hP2 (fun q h9 _ => fH q h9)
  have hkQ := dz_fr2 hP1 (fun q h9 _ => fH q h9)
  refine lv_astore (lv' := [(4, .ref q9), (0, .ref o), (1, .int (nI v)), (2, .int x), (3, .ref w9)]) hx hb dL_vendor_17 hl (by decide) rfl (fun ls hl => ?_)
  refine lv_iconst (v := nI 2) hx hb dL_vendor_19 (by decide) ?_
  exact k_iretM hx hb hr hlk dL_vendor_20 hS hkO (rfl)
def rm_L_inWorkshop : Room := { frames := 7, cells := 0, slots := 0, locals := 154 }
theorem hd_L_inWorkshop : k_hd1 yL_inWorkshop RL 3 := by decide +kernel
set_option maxHeartbeats 4000000 in
set_option maxRecDepth 100000 in
theorem c_L_inWorkshop (l : Launch) (hlS : l.stackTraces = false) (E : ke_E) (A : Nat → Prop) (o : Nat) (z : Nat → Int32) (n : Nat) (w9 : Nat) (x9 : Int64) (hI : iv z) (hn : n < 20) (hw9 : w9 + 1 ≤ o ∨ o + 477 ≤ w9) : Met l yL_inWorkshop wsL_inWorkshop rm_L_inWorkshop (kpx E A [.ref o, .int (nI n), .ref w9] (fun H => gg E o H ∧ dz E (o + 1) z H ∧ la E w9 x9 H)) (qm (some (.int (nI 0))) (bl w9 1) (la E w9 ((oI (wa z n).2).toInt64))) 0 0 (bl w9 1) := by
  refine w_hd (cc := cL_inWorkshop) (maxL := 4) (ret := (some .int)) (hh := [(0, 9, 12, 15)]) (by decide) rfl (Nat.le_of_ble_eq_true rfl) ?_
  intro p e s m below meth c ls S hr hlk htb hK hX hP hl
  have hx := S.1
  have hb := S.2.1
  have hts := S.2.2.2.2
  obtain ⟨hP0, hP1, hP2⟩ := hP
  have hl : lv_has ls 4 [(0, .ref o), (1, .int (nI n)), (2, .ref w9)] := hl
  have hS : va_S (bl w9 1) s.heap s.heap [] := va_S.rf
  refine lv_aload_n hx hb dL_inWorkshop_0 rfl (lv_at hl 2 rfl) ?_
  refine lv_iconst (v := nI 0) hx hb dL_inWorkshop_1 (by decide) ?_
  refine lv_aload_n hx hb dL_inWorkshop_2 rfl (lv_at hl 0 rfl) ?_
  refine lv_iload_n hx hb dL_inWorkshop_3 rfl (lv_at hl 1 rfl) ?_
  refine k_V (As := [.int (nI n)]) (rest := [.int (nI 0), .ref w9]) S hK (c_X6_inWorkshop l E o z n hI hn) gL_inWorkshop_X6_inWorkshop rfl hd_X6_inWorkshop ⟨rfl, rfl⟩ ⟨Nat.le_of_ble_eq_true rfl, Nat.le_of_ble_eq_true rfl⟩ (k_recv hK hP0 rfl) ⟨hP0, hP1⟩ rfl hl.1 rfl (Nat.le_of_ble_eq_true rfl) dL_inWorkshop_4 ⟨Nat.le_of_ble_eq_true rfl, Nat.le_of_ble_eq_true rfl⟩ ?_
  refine lv_i2l hx hb dL_inWorkshop_7 rfl ?_
  refine la_ast hx hb hK hP2 hS (⟨by omega, by omega⟩) dL_inWorkshop_8 (fun H locs hP zH fH hS => ?_)
  have hV1 := hP
  have hk0 := gg_fr2 hP0 (fun q _ hq => fH q (bl_ne hq (by omega)))
  have hk2 := dz_fr2 hP1 (fun q _ hq => fH q (bl_ne hq (by omega)))
  refine lv_goto (tgt := 15) hx hb dL_inWorkshop_9 (by decide) ?_
  refine lv_iconst (v := nI 0) hx hb dL_inWorkshop_15 (by decide) ?_
  exact k_iretM hx hb hr hlk dL_inWorkshop_16 hS hV1 (rfl)
def ry_L_inWorkshop_1 : Room := { frames := 8, cells := 1, slots := 6, locals := 125 }
set_option maxHeartbeats 4000000 in
set_option maxRecDepth 100000 in
theorem y_L_inWorkshop_1 (l : Launch) (hlS : l.stackTraces = false) (E : ke_E) (A : Nat → Prop) (o : Nat) (z : Nat → Int32) (x : Int32) (w9 : Nat) (x9 : Int64) (hI : iv z) (h1 : ¬ inR x 20) (hw9 : w9 + 1 ≤ o ∨ o + 477 ≤ w9) : Met l yL_inWorkshop wsL_inWorkshop ry_L_inWorkshop_1 (kpx E A [.ref o, .int x, .ref w9] (fun H => gg E o H ∧ dz E (o + 1) z H ∧ la E w9 x9 H)) (qm (some (.int (nI 1))) (bl w9 1) (la E w9 x9)) 1 6 (bl w9 1) := by
  refine w_hd (cc := cL_inWorkshop) (maxL := 4) (ret := (some .int)) (hh := [(0, 9, 12, 15)]) (by decide) rfl (Nat.le_of_ble_eq_true rfl) ?_
  intro p e s m below meth c ls S hr hlk htb hK hX hP hl
  have hx := S.1
  have hb := S.2.1
  have hts := S.2.2.2.2
  obtain ⟨hP0, hP1, hP2⟩ := hP
  have hl : lv_has ls 4 [(0, .ref o), (1, .int x), (2, .ref w9)] := hl
  have hS : va_S (bl w9 1) s.heap s.heap [] := va_S.rf
  refine lv_aload_n hx hb dL_inWorkshop_0 rfl (lv_at hl 2 rfl) ?_
  refine lv_iconst (v := nI 0) hx hb dL_inWorkshop_1 (by decide) ?_
  refine lv_aload_n hx hb dL_inWorkshop_2 rfl (lv_at hl 0 rfl) ?_
  refine lv_iload_n hx hb dL_inWorkshop_3 rfl (lv_at hl 1 rfl) ?_
  refine w_V (As := [.int x]) (rest := [.int (nI 0), .ref w9]) (hd9 := 12) (A2 := bl w9 1) (pre := []) (x := ⟨0, 9, 12, 15⟩) (suf := []) S hK hX (x_X6_inWorkshop_1 l hlS E A o z x hI h1) gL_inWorkshop_X6_inWorkshop rfl hd_X6_inWorkshop ⟨rfl, rfl⟩ ⟨Nat.le_of_ble_eq_true rfl, Nat.le_of_ble_eq_true rfl⟩ (k_recv hK hP0 rfl) ⟨hP0, hP1⟩ rfl hl.1 rfl (Nat.le_of_ble_eq_true rfl) dL_inWorkshop_4 ⟨Nat.le_of_ble_eq_true rfl, Nat.le_of_ble_eq_true rfl⟩ (by decide) (htb.trans rfl) (fun z hz => by cases hz) (by decide) (by decide) (List.mem_cons_of_mem _ (List.mem_append_left _ (List.mem_append_left _ (List.mem_append_left _ (List.mem_append_left _ (List.mem_append_left _ (List.mem_append_left _ (List.mem_of_getElem? (i := 0) rfl)))))))) rfl (fun q9 H locs zH fH hS => ?_)
  have hkG := gg_fr2 hP0 (fun q h9 _ => fH q h9)
  have hkO := la_fr2 hP2 (fun q h9 _ => fH q h9)
  have hkQ := dz_fr2 hP1 (fun q h9 _ => fH q h9)
  refine lv_astore_n (lv' := [(3, .ref q9), (0, .ref o), (1, .int x), (2, .ref w9)]) hx hb dL_inWorkshop_12 rfl hl (by decide) rfl (fun ls hl => ?_)
  refine lv_iconst (v := nI 1) hx hb dL_inWorkshop_13 (by decide) ?_
  exact k_iretM hx hb hr hlk dL_inWorkshop_14 hS hkO (rfl)
def rm_L_waiting : Room := { frames := 6, cells := 0, slots := 0, locals := 134 }
theorem hd_L_waiting : k_hd1 yL_waiting RL 3 := by decide +kernel
set_option maxHeartbeats 4000000 in
set_option maxRecDepth 100000 in
theorem c_L_waiting (l : Launch) (hlS : l.stackTraces = false) (E : ke_E) (A : Nat → Prop) (o : Nat) (z : Nat → Int32) (n : Nat) (w9 : Nat) (x9 : Int64) (hI : iv z) (hn : n < 20) (hw9 : w9 + 1 ≤ o ∨ o + 477 ≤ w9) : Met l yL_waiting wsL_waiting rm_L_waiting (kpx E A [.ref o, .int (nI n), .ref w9] (fun H => gg E o H ∧ dz E (o + 1) z H ∧ la E w9 x9 H)) (qm (some (.int (nI 0))) (bl w9 1) (la E w9 ((oI (ca z n).2).toInt64))) 0 0 (bl w9 1) := by
  refine w_hd (cc := cL_waiting) (maxL := 4) (ret := (some .int)) (hh := [(0, 9, 12, 15)]) (by decide) rfl (Nat.le_of_ble_eq_true rfl) ?_
  intro p e s m below meth c ls S hr hlk htb hK hX hP hl
  have hx := S.1
  have hb := S.2.1
  have hts := S.2.2.2.2
  obtain ⟨hP0, hP1, hP2⟩ := hP
  have hl : lv_has ls 4 [(0, .ref o), (1, .int (nI n)), (2, .ref w9)] := hl
  have hS : va_S (bl w9 1) s.heap s.heap [] := va_S.rf
  refine lv_aload_n hx hb dL_waiting_0 rfl (lv_at hl 2 rfl) ?_
  refine lv_iconst (v := nI 0) hx hb dL_waiting_1 (by decide) ?_
  refine lv_aload_n hx hb dL_waiting_2 rfl (lv_at hl 0 rfl) ?_
  refine lv_iload_n hx hb dL_waiting_3 rfl (lv_at hl 1 rfl) ?_
  refine k_V (As := [.int (nI n)]) (rest := [.int (nI 0), .ref w9]) S hK (c_X6_waiting l E o z n hI hn) gL_waiting_X6_waiting rfl hd_X6_waiting ⟨rfl, rfl⟩ ⟨Nat.le_of_ble_eq_true rfl, Nat.le_of_ble_eq_true rfl⟩ (k_recv hK hP0 rfl) ⟨hP0, hP1⟩ rfl hl.1 rfl (Nat.le_of_ble_eq_true rfl) dL_waiting_4 ⟨Nat.le_of_ble_eq_true rfl, Nat.le_of_ble_eq_true rfl⟩ ?_
  refine lv_i2l hx hb dL_waiting_7 rfl ?_
  refine la_ast hx hb hK hP2 hS (⟨by omega, by omega⟩) dL_waiting_8 (fun H locs hP zH fH hS => ?_)
  have hV1 := hP
  have hk0 := gg_fr2 hP0 (fun q _ hq => fH q (bl_ne hq (by omega)))
  have hk2 := dz_fr2 hP1 (fun q _ hq => fH q (bl_ne hq (by omega)))
  refine lv_goto (tgt := 15) hx hb dL_waiting_9 (by decide) ?_
  refine lv_iconst (v := nI 0) hx hb dL_waiting_15 (by decide) ?_
  exact k_iretM hx hb hr hlk dL_waiting_16 hS hV1 (rfl)
def ry_L_waiting_1 : Room := { frames := 8, cells := 1, slots := 6, locals := 125 }
set_option maxHeartbeats 4000000 in
set_option maxRecDepth 100000 in
theorem y_L_waiting_1 (l : Launch) (hlS : l.stackTraces = false) (E : ke_E) (A : Nat → Prop) (o : Nat) (z : Nat → Int32) (x : Int32) (w9 : Nat) (x9 : Int64) (hI : iv z) (h1 : ¬ inR x 20) (hw9 : w9 + 1 ≤ o ∨ o + 477 ≤ w9) : Met l yL_waiting wsL_waiting ry_L_waiting_1 (kpx E A [.ref o, .int x, .ref w9] (fun H => gg E o H ∧ dz E (o + 1) z H ∧ la E w9 x9 H)) (qm (some (.int (nI 1))) (bl w9 1) (la E w9 x9)) 1 6 (bl w9 1) := by
  refine w_hd (cc := cL_waiting) (maxL := 4) (ret := (some .int)) (hh := [(0, 9, 12, 15)]) (by decide) rfl (Nat.le_of_ble_eq_true rfl) ?_
  intro p e s m below meth c ls S hr hlk htb hK hX hP hl
  have hx := S.1
  have hb := S.2.1
  have hts := S.2.2.2.2
  obtain ⟨hP0, hP1, hP2⟩ := hP
  have hl : lv_has ls 4 [(0, .ref o), (1, .int x), (2, .ref w9)] := hl
  have hS : va_S (bl w9 1) s.heap s.heap [] := va_S.rf
  refine lv_aload_n hx hb dL_waiting_0 rfl (lv_at hl 2 rfl) ?_
  refine lv_iconst (v := nI 0) hx hb dL_waiting_1 (by decide) ?_
  refine lv_aload_n hx hb dL_waiting_2 rfl (lv_at hl 0 rfl) ?_
  refine lv_iload_n hx hb dL_waiting_3 rfl (lv_at hl 1 rfl) ?_
  refine w_V (As := [.int x]) (rest := [.int (nI 0), .ref w9]) (hd9 := 12) (A2 := bl w9 1) (pre := []) (x := ⟨0, 9, 12, 15⟩) (suf := []) S hK hX (x_X6_waiting_1 l hlS E A o z x hI h1) gL_waiting_X6_waiting rfl hd_X6_waiting ⟨rfl, rfl⟩ ⟨Nat.le_of_ble_eq_true rfl, Nat.le_of_ble_eq_true rfl⟩ (k_recv hK hP0 rfl) ⟨hP0, hP1⟩ rfl hl.1 rfl (Nat.le_of_ble_eq_true rfl) dL_waiting_4 ⟨Nat.le_of_ble_eq_true rfl, Nat.le_of_ble_eq_true rfl⟩ (by decide) (htb.trans rfl) (fun z hz => by cases hz) (by decide) (by decide) (List.mem_cons_of_mem _ (List.mem_append_left _ (List.mem_append_left _ (List.mem_append_left _ (List.mem_append_left _ (List.mem_append_left _ (List.mem_append_left _ (List.mem_of_getElem? (i := 0) rfl)))))))) rfl (fun q9 H locs zH fH hS => ?_)
  have hkG := gg_fr2 hP0 (fun q h9 _ => fH q h9)
  have hkO := la_fr2 hP2 (fun q h9 _ => fH q h9)
  have hkQ := dz_fr2 hP1 (fun q h9 _ => fH q h9)
  refine lv_astore_n (lv' := [(3, .ref q9), (0, .ref o), (1, .int x), (2, .ref w9)]) hx hb dL_waiting_12 rfl hl (by decide) rfl (fun ls hl => ?_)
  refine lv_iconst (v := nI 1) hx hb dL_waiting_13 (by decide) ?_
  exact k_iretM hx hb hr hlk dL_waiting_14 hS hkO (rfl)
def rm_L_count : Room := { frames := 5, cells := 0, slots := 0, locals := 106 }
theorem hd_L_count : k_hd1 yL_count RL 3 := by decide +kernel
set_option maxHeartbeats 4000000 in
set_option maxRecDepth 100000 in
theorem c_L_count (l : Launch) (hlS : l.stackTraces = false) (E : ke_E) (A : Nat → Prop) (o : Nat) (z : Nat → Int32) (sn : Nat) (r : Nat → Int32) (k : Nat) (w9 : Nat) (x9 : Int64) (hI : iv z) (hJ : jw z) (hk : k < 14) (hw9 : w9 + 1 ≤ o ∨ o + 477 ≤ w9) : Met l yL_count wsL_count rm_L_count (kpx E A [.ref o, .int (nI k), .ref w9] (fun H => gg E o H ∧ dz E (o + 1) z H ∧ hy E (o + 119) sn r H ∧ la E w9 x9 H)) (qm (some (.int (nI 0))) (bl w9 1) (la E w9 ((coV z (nI sn) k).toInt64))) 0 0 (bl w9 1) := by
  refine w_hd (cc := cL_count) (maxL := 4) (ret := (some .int)) (hh := [(0, 9, 12, 15)]) (by decide) rfl (Nat.le_of_ble_eq_true rfl) ?_
  intro p e s m below meth c ls S hr hlk htb hK hX hP hl
  have hx := S.1
  have hb := S.2.1
  have hts := S.2.2.2.2
  obtain ⟨hP0, hP1, hP2, hP3⟩ := hP
  have hl : lv_has ls 4 [(0, .ref o), (1, .int (nI k)), (2, .ref w9)] := hl
  have hS : va_S (bl w9 1) s.heap s.heap [] := va_S.rf
  refine lv_aload_n hx hb dL_count_0 rfl (lv_at hl 2 rfl) ?_
  refine lv_iconst (v := nI 0) hx hb dL_count_1 (by decide) ?_
  refine lv_aload_n hx hb dL_count_2 rfl (lv_at hl 0 rfl) ?_
  refine lv_iload_n hx hb dL_count_3 rfl (lv_at hl 1 rfl) ?_
  refine k_V (As := [.int (nI k)]) (rest := [.int (nI 0), .ref w9]) S hK (c_X6_count l E o z sn r k hI hJ hk) gL_count_X6_count rfl hd_X6_count ⟨rfl, rfl⟩ ⟨Nat.le_of_ble_eq_true rfl, Nat.le_of_ble_eq_true rfl⟩ (k_recv hK hP0 rfl) ⟨hP0, hP1, hP2⟩ rfl hl.1 rfl (Nat.le_of_ble_eq_true rfl) dL_count_4 ⟨Nat.le_of_ble_eq_true rfl, Nat.le_of_ble_eq_true rfl⟩ ?_
  refine lv_i2l hx hb dL_count_7 rfl ?_
  refine la_ast hx hb hK hP3 hS (⟨by omega, by omega⟩) dL_count_8 (fun H locs hP zH fH hS => ?_)
  have hV1 := hP
  have hk0 := gg_fr2 hP0 (fun q _ hq => fH q (bl_ne hq (by omega)))
  have hk2 := dz_fr2 hP1 (fun q _ hq => fH q (bl_ne hq (by omega)))
  have hk3 := hy_fr2 hP2 (fun q _ hq => fH q (bl_ne hq (by omega)))
  refine lv_goto (tgt := 15) hx hb dL_count_9 (by decide) ?_
  refine lv_iconst (v := nI 0) hx hb dL_count_15 (by decide) ?_
  exact k_iretM hx hb hr hlk dL_count_16 hS hV1 (rfl)
def ry_L_count_1 : Room := { frames := 7, cells := 1, slots := 6, locals := 103 }
set_option maxHeartbeats 4000000 in
set_option maxRecDepth 100000 in
theorem y_L_count_1 (l : Launch) (hlS : l.stackTraces = false) (E : ke_E) (A : Nat → Prop) (o : Nat) (z : Nat → Int32) (x : Int32) (w9 : Nat) (x9 : Int64) (hI : iv z) (h1 : ¬ inR x 14) (hw9 : w9 + 1 ≤ o ∨ o + 477 ≤ w9) : Met l yL_count wsL_count ry_L_count_1 (kpx E A [.ref o, .int x, .ref w9] (fun H => gg E o H ∧ dz E (o + 1) z H ∧ la E w9 x9 H)) (qm (some (.int (nI 1))) (bl w9 1) (la E w9 x9)) 1 6 (bl w9 1) := by
  refine w_hd (cc := cL_count) (maxL := 4) (ret := (some .int)) (hh := [(0, 9, 12, 15)]) (by decide) rfl (Nat.le_of_ble_eq_true rfl) ?_
  intro p e s m below meth c ls S hr hlk htb hK hX hP hl
  have hx := S.1
  have hb := S.2.1
  have hts := S.2.2.2.2
  obtain ⟨hP0, hP1, hP2⟩ := hP
  have hl : lv_has ls 4 [(0, .ref o), (1, .int x), (2, .ref w9)] := hl
  have hS : va_S (bl w9 1) s.heap s.heap [] := va_S.rf
  refine lv_aload_n hx hb dL_count_0 rfl (lv_at hl 2 rfl) ?_
  refine lv_iconst (v := nI 0) hx hb dL_count_1 (by decide) ?_
  refine lv_aload_n hx hb dL_count_2 rfl (lv_at hl 0 rfl) ?_
  refine lv_iload_n hx hb dL_count_3 rfl (lv_at hl 1 rfl) ?_
  refine w_V (As := [.int x]) (rest := [.int (nI 0), .ref w9]) (hd9 := 12) (A2 := bl w9 1) (pre := []) (x := ⟨0, 9, 12, 15⟩) (suf := []) S hK hX (x_X6_count_1 l hlS E A o z x hI h1) gL_count_X6_count rfl hd_X6_count ⟨rfl, rfl⟩ ⟨Nat.le_of_ble_eq_true rfl, Nat.le_of_ble_eq_true rfl⟩ (k_recv hK hP0 rfl) ⟨hP0, hP1⟩ rfl hl.1 rfl (Nat.le_of_ble_eq_true rfl) dL_count_4 ⟨Nat.le_of_ble_eq_true rfl, Nat.le_of_ble_eq_true rfl⟩ (by decide) (htb.trans rfl) (fun z hz => by cases hz) (by decide) (by decide) (List.mem_cons_of_mem _ (List.mem_append_left _ (List.mem_append_left _ (List.mem_append_left _ (List.mem_append_left _ (List.mem_append_left _ (List.mem_append_left _ (List.mem_append_left _ (List.mem_append_left _ (List.mem_of_getElem? (i := 0) rfl)))))))))) rfl (fun q9 H locs zH fH hS => ?_)
  have hkG := gg_fr2 hP0 (fun q h9 _ => fH q h9)
  have hkO := la_fr2 hP2 (fun q h9 _ => fH q h9)
  have hkQ := dz_fr2 hP1 (fun q h9 _ => fH q h9)
  refine lv_astore_n (lv' := [(3, .ref q9), (0, .ref o), (1, .int x), (2, .ref w9)]) hx hb dL_count_12 rfl hl (by decide) rfl (fun ls hl => ?_)
  refine lv_iconst (v := nI 1) hx hb dL_count_13 (by decide) ?_
  exact k_iretM hx hb hr hlk dL_count_14 hS hkO (rfl)
def rm_L_setting : Room := { frames := 2, cells := 0, slots := 0, locals := 42 }
theorem hd_L_setting : k_hd1 yL_setting RL 3 := by decide +kernel
set_option maxHeartbeats 4000000 in
set_option maxRecDepth 100000 in
theorem c_L_setting (l : Launch) (hlS : l.stackTraces = false) (E : ke_E) (A : Nat → Prop) (o : Nat) (z : Nat → Int32) (k : Nat) (w9 : Nat) (x9 : Int64) (hI : iv z) (hk : k < 5) (hw9 : w9 + 1 ≤ o ∨ o + 477 ≤ w9) : Met l yL_setting wsL_setting rm_L_setting (kpx E A [.ref o, .int (nI k), .ref w9] (fun H => gg E o H ∧ dz E (o + 1) z H ∧ la E w9 x9 H)) (qm (some (.int (nI 0))) (bl w9 1) (la E w9 ((z (k + 7)).toInt64))) 0 0 (bl w9 1) := by
  refine w_hd (cc := cL_setting) (maxL := 4) (ret := (some .int)) (hh := [(0, 9, 12, 13)]) (by decide) rfl (Nat.le_of_ble_eq_true rfl) ?_
  intro p e s m below meth c ls S hr hlk htb hK hX hP hl
  have hx := S.1
  have hb := S.2.1
  have hts := S.2.2.2.2
  obtain ⟨hP0, hP1, hP2⟩ := hP
  have hl : lv_has ls 4 [(0, .ref o), (1, .int (nI k)), (2, .ref w9)] := hl
  have hS : va_S (bl w9 1) s.heap s.heap [] := va_S.rf
  refine lv_aload_n hx hb dL_setting_0 rfl (lv_at hl 2 rfl) ?_
  refine lv_iconst (v := nI 0) hx hb dL_setting_1 (by decide) ?_
  refine lv_aload_n hx hb dL_setting_2 rfl (lv_at hl 0 rfl) ?_
  refine lv_iload_n hx hb dL_setting_3 rfl (lv_at hl 1 rfl) ?_
  refine k_V (As := [.int (nI k)]) (rest := [.int (nI 0), .ref w9]) S hK (c_X6_setting l E o z k hI hk) gL_setting_X6_setting rfl hd_X6_setting ⟨rfl, rfl⟩ ⟨Nat.le_of_ble_eq_true rfl, Nat.le_of_ble_eq_true rfl⟩ (k_recv hK hP0 rfl) ⟨hP0, hP1⟩ rfl hl.1 rfl (Nat.le_of_ble_eq_true rfl) dL_setting_4 ⟨Nat.le_of_ble_eq_true rfl, Nat.le_of_ble_eq_true rfl⟩ ?_
  refine lv_i2l hx hb dL_setting_7 rfl ?_
  refine la_ast hx hb hK hP2 hS (⟨by omega, by omega⟩) dL_setting_8 (fun H locs hP zH fH hS => ?_)
  have hV1 := hP
  have hk0 := gg_fr2 hP0 (fun q _ hq => fH q (bl_ne hq (by omega)))
  have hk2 := dz_fr2 hP1 (fun q _ hq => fH q (bl_ne hq (by omega)))
  refine lv_goto (tgt := 15) hx hb dL_setting_9 (by decide) ?_
  refine lv_iconst (v := nI 0) hx hb dL_setting_15 (by decide) ?_
  exact k_iretM hx hb hr hlk dL_setting_16 hS hV1 (rfl)
def ry_L_setting_1 : Room := { frames := 7, cells := 1, slots := 6, locals := 103 }
set_option maxHeartbeats 4000000 in
set_option maxRecDepth 100000 in
theorem y_L_setting_1 (l : Launch) (hlS : l.stackTraces = false) (E : ke_E) (A : Nat → Prop) (o : Nat) (z : Nat → Int32) (x : Int32) (w9 : Nat) (x9 : Int64) (hI : iv z) (h1 : ¬ inR x 5) (hw9 : w9 + 1 ≤ o ∨ o + 477 ≤ w9) : Met l yL_setting wsL_setting ry_L_setting_1 (kpx E A [.ref o, .int x, .ref w9] (fun H => gg E o H ∧ dz E (o + 1) z H ∧ la E w9 x9 H)) (qm (some (.int (nI 1))) (bl w9 1) (la E w9 x9)) 1 6 (bl w9 1) := by
  refine w_hd (cc := cL_setting) (maxL := 4) (ret := (some .int)) (hh := [(0, 9, 12, 13)]) (by decide) rfl (Nat.le_of_ble_eq_true rfl) ?_
  intro p e s m below meth c ls S hr hlk htb hK hX hP hl
  have hx := S.1
  have hb := S.2.1
  have hts := S.2.2.2.2
  obtain ⟨hP0, hP1, hP2⟩ := hP
  have hl : lv_has ls 4 [(0, .ref o), (1, .int x), (2, .ref w9)] := hl
  have hS : va_S (bl w9 1) s.heap s.heap [] := va_S.rf
  refine lv_aload_n hx hb dL_setting_0 rfl (lv_at hl 2 rfl) ?_
  refine lv_iconst (v := nI 0) hx hb dL_setting_1 (by decide) ?_
  refine lv_aload_n hx hb dL_setting_2 rfl (lv_at hl 0 rfl) ?_
  refine lv_iload_n hx hb dL_setting_3 rfl (lv_at hl 1 rfl) ?_
  refine w_V (As := [.int x]) (rest := [.int (nI 0), .ref w9]) (hd9 := 12) (A2 := bl w9 1) (pre := []) (x := ⟨0, 9, 12, 13⟩) (suf := []) S hK hX (x_X6_setting_1 l hlS E A o z x hI h1) gL_setting_X6_setting rfl hd_X6_setting ⟨rfl, rfl⟩ ⟨Nat.le_of_ble_eq_true rfl, Nat.le_of_ble_eq_true rfl⟩ (k_recv hK hP0 rfl) ⟨hP0, hP1⟩ rfl hl.1 rfl (Nat.le_of_ble_eq_true rfl) dL_setting_4 ⟨Nat.le_of_ble_eq_true rfl, Nat.le_of_ble_eq_true rfl⟩ (by decide) (htb.trans rfl) (fun z hz => by cases hz) (by decide) (by decide) (List.mem_cons_of_mem _ (List.mem_append_left _ (List.mem_append_left _ (List.mem_append_left _ (List.mem_of_getElem? (i := 0) rfl))))) rfl (fun q9 H locs zH fH hS => ?_)
  have hkG := gg_fr2 hP0 (fun q h9 _ => fH q h9)
  have hkO := la_fr2 hP2 (fun q h9 _ => fH q h9)
  have hkQ := dz_fr2 hP1 (fun q h9 _ => fH q h9)
  refine lv_astore_n (lv' := [(3, .ref q9), (0, .ref o), (1, .int x), (2, .ref w9)]) hx hb dL_setting_12 rfl hl (by decide) rfl (fun ls hl => ?_)
  refine lv_iconst (v := nI 1) hx hb dL_setting_13 (by decide) ?_
  exact k_iretM hx hb hr hlk dL_setting_14 hS hkO (rfl)
def rm_L_whyNot_1 : Room := { frames := 5, cells := 0, slots := 0, locals := 109 }
theorem hd_L_whyNot : k_hd1 yL_whyNot RL 4 := by decide +kernel
set_option maxHeartbeats 4000000 in
set_option maxRecDepth 100000 in
theorem c_L_whyNot_1 (l : Launch) (hlS : l.stackTraces = false) (E : ke_E) (A : Nat → Prop) (o : Nat) (z : Nat → Int32) (u : Nat) (w9 : Nat) (x9 : Int64) (hI : iv z) (hu : u < cn z) (hw9 : w9 + 1 ≤ o ∨ o + 477 ≤ w9) : Met l yL_whyNot wsL_whyNot rm_L_whyNot_1 (kpx E A [.ref o, .int (nI u), .int (nI 1), .ref w9] (fun H => gg E o H ∧ dz E (o + 1) z H ∧ la E w9 x9 H)) (qm (some (.int (nI 0))) (bl w9 1) (la E w9 ((wy1 z u).toInt64))) 0 0 (bl w9 1) := by
  refine w_hd (cc := cL_whyNot) (maxL := 5) (ret := (some .int)) (hh := [(0, 10, 13, 13), (0, 10, 17, 15)]) (by decide) rfl (Nat.le_of_ble_eq_true rfl) ?_
  intro p e s m below meth c ls S hr hlk htb hK hX hP hl
  have hx := S.1
  have hb := S.2.1
  have hts := S.2.2.2.2
  obtain ⟨hP0, hP1, hP2⟩ := hP
  have hl : lv_has ls 5 [(0, .ref o), (1, .int (nI u)), (2, .int (nI 1)), (3, .ref w9)] := hl
  have hS : va_S (bl w9 1) s.heap s.heap [] := va_S.rf
  refine lv_aload_n hx hb dL_whyNot_0 rfl (lv_at hl 3 rfl) ?_
  refine lv_iconst (v := nI 0) hx hb dL_whyNot_1 (by decide) ?_
  refine lv_aload_n hx hb dL_whyNot_2 rfl (lv_at hl 0 rfl) ?_
  refine lv_iload_n hx hb dL_whyNot_3 rfl (lv_at hl 1 rfl) ?_
  refine lv_iload_n hx hb dL_whyNot_4 rfl (lv_at hl 2 rfl) ?_
  refine k_V (As := [.int (nI u), .int (nI 1)]) (rest := [.int (nI 0), .ref w9]) S hK (c_X6_whyNot_1 l E o z u hI hu) gL_whyNot_X6_whyNot rfl hd_X6_whyNot ⟨rfl, rfl⟩ ⟨Nat.le_of_ble_eq_true rfl, Nat.le_of_ble_eq_true rfl⟩ (k_recv hK hP0 rfl) ⟨hP0, hP1⟩ rfl hl.1 rfl (Nat.le_of_ble_eq_true rfl) dL_whyNot_5 ⟨Nat.le_of_ble_eq_true rfl, Nat.le_of_ble_eq_true rfl⟩ ?_
  refine lv_i2l hx hb dL_whyNot_8 rfl ?_
  refine la_ast hx hb hK hP2 hS (⟨by omega, by omega⟩) dL_whyNot_9 (fun H locs hP zH fH hS => ?_)
  have hV1 := hP
  have hk0 := gg_fr2 hP0 (fun q _ hq => fH q (bl_ne hq (by omega)))
  have hk2 := dz_fr2 hP1 (fun q _ hq => fH q (bl_ne hq (by omega)))
  refine lv_goto (tgt := 21) hx hb dL_whyNot_10 (by decide) ?_
  refine lv_iconst (v := nI 0) hx hb dL_whyNot_21 (by decide) ?_
  exact k_iretM hx hb hr hlk dL_whyNot_22 hS hV1 (rfl)
def rm_L_whyNot_2 : Room := { frames := 5, cells := 0, slots := 0, locals := 109 }
set_option maxHeartbeats 4000000 in
set_option maxRecDepth 100000 in
theorem c_L_whyNot_2 (l : Launch) (hlS : l.stackTraces = false) (E : ke_E) (A : Nat → Prop) (o : Nat) (z : Nat → Int32) (u : Nat) (w9 : Nat) (x9 : Int64) (hI : iv z) (hu : u < cn z) (hw9 : w9 + 1 ≤ o ∨ o + 477 ≤ w9) : Met l yL_whyNot wsL_whyNot rm_L_whyNot_2 (kpx E A [.ref o, .int (nI u), .int (nI 2), .ref w9] (fun H => gg E o H ∧ dz E (o + 1) z H ∧ la E w9 x9 H)) (qm (some (.int (nI 0))) (bl w9 1) (la E w9 ((wy2 z u).toInt64))) 0 0 (bl w9 1) := by
  refine w_hd (cc := cL_whyNot) (maxL := 5) (ret := (some .int)) (hh := [(0, 10, 13, 13), (0, 10, 17, 15)]) (by decide) rfl (Nat.le_of_ble_eq_true rfl) ?_
  intro p e s m below meth c ls S hr hlk htb hK hX hP hl
  have hx := S.1
  have hb := S.2.1
  have hts := S.2.2.2.2
  obtain ⟨hP0, hP1, hP2⟩ := hP
  have hl : lv_has ls 5 [(0, .ref o), (1, .int (nI u)), (2, .int (nI 2)), (3, .ref w9)] := hl
  have hS : va_S (bl w9 1) s.heap s.heap [] := va_S.rf
  refine lv_aload_n hx hb dL_whyNot_0 rfl (lv_at hl 3 rfl) ?_
  refine lv_iconst (v := nI 0) hx hb dL_whyNot_1 (by decide) ?_
  refine lv_aload_n hx hb dL_whyNot_2 rfl (lv_at hl 0 rfl) ?_
  refine lv_iload_n hx hb dL_whyNot_3 rfl (lv_at hl 1 rfl) ?_
  refine lv_iload_n hx hb dL_whyNot_4 rfl (lv_at hl 2 rfl) ?_
  refine k_V (As := [.int (nI u), .int (nI 2)]) (rest := [.int (nI 0), .ref w9]) S hK (c_X6_whyNot_2 l E o z u hI hu) gL_whyNot_X6_whyNot rfl hd_X6_whyNot ⟨rfl, rfl⟩ ⟨Nat.le_of_ble_eq_true rfl, Nat.le_of_ble_eq_true rfl⟩ (k_recv hK hP0 rfl) ⟨hP0, hP1⟩ rfl hl.1 rfl (Nat.le_of_ble_eq_true rfl) dL_whyNot_5 ⟨Nat.le_of_ble_eq_true rfl, Nat.le_of_ble_eq_true rfl⟩ ?_
  refine lv_i2l hx hb dL_whyNot_8 rfl ?_
  refine la_ast hx hb hK hP2 hS (⟨by omega, by omega⟩) dL_whyNot_9 (fun H locs hP zH fH hS => ?_)
  have hV1 := hP
  have hk0 := gg_fr2 hP0 (fun q _ hq => fH q (bl_ne hq (by omega)))
  have hk2 := dz_fr2 hP1 (fun q _ hq => fH q (bl_ne hq (by omega)))
  refine lv_goto (tgt := 21) hx hb dL_whyNot_10 (by decide) ?_
  refine lv_iconst (v := nI 0) hx hb dL_whyNot_21 (by decide) ?_
  exact k_iretM hx hb hr hlk dL_whyNot_22 hS hV1 (rfl)
def rm_L_whyNot_3 : Room := { frames := 5, cells := 0, slots := 0, locals := 109 }
set_option maxHeartbeats 4000000 in
set_option maxRecDepth 100000 in
theorem c_L_whyNot_3 (l : Launch) (hlS : l.stackTraces = false) (E : ke_E) (A : Nat → Prop) (o : Nat) (z : Nat → Int32) (u : Nat) (w9 : Nat) (x9 : Int64) (hI : iv z) (hu : u < cn z) (hw9 : w9 + 1 ≤ o ∨ o + 477 ≤ w9) : Met l yL_whyNot wsL_whyNot rm_L_whyNot_3 (kpx E A [.ref o, .int (nI u), .int (nI 3), .ref w9] (fun H => gg E o H ∧ dz E (o + 1) z H ∧ la E w9 x9 H)) (qm (some (.int (nI 0))) (bl w9 1) (la E w9 ((wy3 z u).toInt64))) 0 0 (bl w9 1) := by
  refine w_hd (cc := cL_whyNot) (maxL := 5) (ret := (some .int)) (hh := [(0, 10, 13, 13), (0, 10, 17, 15)]) (by decide) rfl (Nat.le_of_ble_eq_true rfl) ?_
  intro p e s m below meth c ls S hr hlk htb hK hX hP hl
  have hx := S.1
  have hb := S.2.1
  have hts := S.2.2.2.2
  obtain ⟨hP0, hP1, hP2⟩ := hP
  have hl : lv_has ls 5 [(0, .ref o), (1, .int (nI u)), (2, .int (nI 3)), (3, .ref w9)] := hl
  have hS : va_S (bl w9 1) s.heap s.heap [] := va_S.rf
  refine lv_aload_n hx hb dL_whyNot_0 rfl (lv_at hl 3 rfl) ?_
  refine lv_iconst (v := nI 0) hx hb dL_whyNot_1 (by decide) ?_
  refine lv_aload_n hx hb dL_whyNot_2 rfl (lv_at hl 0 rfl) ?_
  refine lv_iload_n hx hb dL_whyNot_3 rfl (lv_at hl 1 rfl) ?_
  refine lv_iload_n hx hb dL_whyNot_4 rfl (lv_at hl 2 rfl) ?_
  refine k_V (As := [.int (nI u), .int (nI 3)]) (rest := [.int (nI 0), .ref w9]) S hK (c_X6_whyNot_3 l E o z u hI hu) gL_whyNot_X6_whyNot rfl hd_X6_whyNot ⟨rfl, rfl⟩ ⟨Nat.le_of_ble_eq_true rfl, Nat.le_of_ble_eq_true rfl⟩ (k_recv hK hP0 rfl) ⟨hP0, hP1⟩ rfl hl.1 rfl (Nat.le_of_ble_eq_true rfl) dL_whyNot_5 ⟨Nat.le_of_ble_eq_true rfl, Nat.le_of_ble_eq_true rfl⟩ ?_
  refine lv_i2l hx hb dL_whyNot_8 rfl ?_
  refine la_ast hx hb hK hP2 hS (⟨by omega, by omega⟩) dL_whyNot_9 (fun H locs hP zH fH hS => ?_)
  have hV1 := hP
  have hk0 := gg_fr2 hP0 (fun q _ hq => fH q (bl_ne hq (by omega)))
  have hk2 := dz_fr2 hP1 (fun q _ hq => fH q (bl_ne hq (by omega)))
  refine lv_goto (tgt := 21) hx hb dL_whyNot_10 (by decide) ?_
  refine lv_iconst (v := nI 0) hx hb dL_whyNot_21 (by decide) ?_
  exact k_iretM hx hb hr hlk dL_whyNot_22 hS hV1 (rfl)
def rm_L_whyNot_4 : Room := { frames := 5, cells := 0, slots := 0, locals := 109 }
set_option maxHeartbeats 4000000 in
set_option maxRecDepth 100000 in
theorem c_L_whyNot_4 (l : Launch) (hlS : l.stackTraces = false) (E : ke_E) (A : Nat → Prop) (o : Nat) (z : Nat → Int32) (u : Nat) (w9 : Nat) (x9 : Int64) (hI : iv z) (hu : u < cn z) (hw9 : w9 + 1 ≤ o ∨ o + 477 ≤ w9) : Met l yL_whyNot wsL_whyNot rm_L_whyNot_4 (kpx E A [.ref o, .int (nI u), .int (nI 4), .ref w9] (fun H => gg E o H ∧ dz E (o + 1) z H ∧ la E w9 x9 H)) (qm (some (.int (nI 0))) (bl w9 1) (la E w9 ((wy4 z u).toInt64))) 0 0 (bl w9 1) := by
  refine w_hd (cc := cL_whyNot) (maxL := 5) (ret := (some .int)) (hh := [(0, 10, 13, 13), (0, 10, 17, 15)]) (by decide) rfl (Nat.le_of_ble_eq_true rfl) ?_
  intro p e s m below meth c ls S hr hlk htb hK hX hP hl
  have hx := S.1
  have hb := S.2.1
  have hts := S.2.2.2.2
  obtain ⟨hP0, hP1, hP2⟩ := hP
  have hl : lv_has ls 5 [(0, .ref o), (1, .int (nI u)), (2, .int (nI 4)), (3, .ref w9)] := hl
  have hS : va_S (bl w9 1) s.heap s.heap [] := va_S.rf
  refine lv_aload_n hx hb dL_whyNot_0 rfl (lv_at hl 3 rfl) ?_
  refine lv_iconst (v := nI 0) hx hb dL_whyNot_1 (by decide) ?_
  refine lv_aload_n hx hb dL_whyNot_2 rfl (lv_at hl 0 rfl) ?_
  refine lv_iload_n hx hb dL_whyNot_3 rfl (lv_at hl 1 rfl) ?_
  refine lv_iload_n hx hb dL_whyNot_4 rfl (lv_at hl 2 rfl) ?_
  refine k_V (As := [.int (nI u), .int (nI 4)]) (rest := [.int (nI 0), .ref w9]) S hK (c_X6_whyNot_4 l E o z u hI hu) gL_whyNot_X6_whyNot rfl hd_X6_whyNot ⟨rfl, rfl⟩ ⟨Nat.le_of_ble_eq_true rfl, Nat.le_of_ble_eq_true rfl⟩ (k_recv hK hP0 rfl) ⟨hP0, hP1⟩ rfl hl.1 rfl (Nat.le_of_ble_eq_true rfl) dL_whyNot_5 ⟨Nat.le_of_ble_eq_true rfl, Nat.le_of_ble_eq_true rfl⟩ ?_
  refine lv_i2l hx hb dL_whyNot_8 rfl ?_
  refine la_ast hx hb hK hP2 hS (⟨by omega, by omega⟩) dL_whyNot_9 (fun H locs hP zH fH hS => ?_)
  have hV1 := hP
  have hk0 := gg_fr2 hP0 (fun q _ hq => fH q (bl_ne hq (by omega)))
  have hk2 := dz_fr2 hP1 (fun q _ hq => fH q (bl_ne hq (by omega)))
  refine lv_goto (tgt := 21) hx hb dL_whyNot_10 (by decide) ?_
  refine lv_iconst (v := nI 0) hx hb dL_whyNot_21 (by decide) ?_
  exact k_iretM hx hb hr hlk dL_whyNot_22 hS hV1 (rfl)
def ry_L_whyNot_1 : Room := { frames := 8, cells := 1, slots := 6, locals := 126 }
set_option maxHeartbeats 4000000 in
set_option maxRecDepth 100000 in
theorem y_L_whyNot_1 (l : Launch) (hlS : l.stackTraces = false) (E : ke_E) (A : Nat → Prop) (o : Nat) (z : Nat → Int32) (x : Int32) (y : Int32) (w9 : Nat) (x9 : Int64) (hI : iv z) (h1 : ¬ inR x (cn z)) (hw9 : w9 + 1 ≤ o ∨ o + 477 ≤ w9) : Met l yL_whyNot wsL_whyNot ry_L_whyNot_1 (kpx E A [.ref o, .int x, .int y, .ref w9] (fun H => gg E o H ∧ dz E (o + 1) z H ∧ la E w9 x9 H)) (qm (some (.int (nI 1))) (bl w9 1) (la E w9 x9)) 1 6 (bl w9 1) := by
  refine w_hd (cc := cL_whyNot) (maxL := 5) (ret := (some .int)) (hh := [(0, 10, 13, 13), (0, 10, 17, 15)]) (by decide) rfl (Nat.le_of_ble_eq_true rfl) ?_
  intro p e s m below meth c ls S hr hlk htb hK hX hP hl
  have hx := S.1
  have hb := S.2.1
  have hts := S.2.2.2.2
  obtain ⟨hP0, hP1, hP2⟩ := hP
  have hl : lv_has ls 5 [(0, .ref o), (1, .int x), (2, .int y), (3, .ref w9)] := hl
  have hS : va_S (bl w9 1) s.heap s.heap [] := va_S.rf
  refine lv_aload_n hx hb dL_whyNot_0 rfl (lv_at hl 3 rfl) ?_
  refine lv_iconst (v := nI 0) hx hb dL_whyNot_1 (by decide) ?_
  refine lv_aload_n hx hb dL_whyNot_2 rfl (lv_at hl 0 rfl) ?_
  refine lv_iload_n hx hb dL_whyNot_3 rfl (lv_at hl 1 rfl) ?_
  refine lv_iload_n hx hb dL_whyNot_4 rfl (lv_at hl 2 rfl) ?_
  refine w_V (As := [.int x, .int y]) (rest := [.int (nI 0), .ref w9]) (hd9 := 13) (A2 := bl w9 1) (pre := []) (x := ⟨0, 10, 13, 13⟩) (suf := [⟨0, 10, 17, 15⟩]) S hK hX (x_X6_whyNot_1 l hlS E A o z x y hI h1) gL_whyNot_X6_whyNot rfl hd_X6_whyNot ⟨rfl, rfl⟩ ⟨Nat.le_of_ble_eq_true rfl, Nat.le_of_ble_eq_true rfl⟩ (k_recv hK hP0 rfl) ⟨hP0, hP1⟩ rfl hl.1 rfl (Nat.le_of_ble_eq_true rfl) dL_whyNot_5 ⟨Nat.le_of_ble_eq_true rfl, Nat.le_of_ble_eq_true rfl⟩ (by decide) (htb.trans rfl) (fun z hz => by cases hz) (by decide) (by decide) (List.mem_cons_of_mem _ (List.mem_append_left _ (List.mem_append_left _ (List.mem_append_left _ (List.mem_append_left _ (List.mem_append_left _ (List.mem_append_left _ (List.mem_append_left _ (List.mem_of_getElem? (i := 0) rfl))))))))) rfl (fun q9 H locs zH fH hS => ?_)
  have hkG := gg_fr2 hP0 (fun q h9 _ => fH q h9)
  have hkO := la_fr2 hP2 (fun q h9 _ => fH q h9)
  have hkQ := dz_fr2 hP1 (fun q h9 _ => fH q h9)
  refine lv_astore (lv' := [(4, .ref q9), (0, .ref o), (1, .int x), (2, .int y), (3, .ref w9)]) hx hb dL_whyNot_13 hl (by decide) rfl (fun ls hl => ?_)
  refine lv_iconst (v := nI 1) hx hb dL_whyNot_15 (by decide) ?_
  exact k_iretM hx hb hr hlk dL_whyNot_16 hS hkO (rfl)
def ry_L_whyNot_2 : Room := { frames := 8, cells := 1, slots := 6, locals := 127 }
set_option maxHeartbeats 4000000 in
set_option maxRecDepth 100000 in
theorem y_L_whyNot_2 (l : Launch) (hlS : l.stackTraces = false) (E : ke_E) (A : Nat → Prop) (o : Nat) (z : Nat → Int32) (u : Nat) (y : Int32) (w9 : Nat) (x9 : Int64) (hI : iv z) (hu : u < cn z) (h1 : ¬ (nI 1 ≤ y ∧ y ≤ nI 4)) (hw9 : w9 + 1 ≤ o ∨ o + 477 ≤ w9) : Met l yL_whyNot wsL_whyNot ry_L_whyNot_2 (kpx E A [.ref o, .int (nI u), .int y, .ref w9] (fun H => gg E o H ∧ dz E (o + 1) z H ∧ la E w9 x9 H)) (qm (some (.int (nI 2))) (bl w9 1) (la E w9 x9)) 1 6 (bl w9 1) := by
  refine w_hd (cc := cL_whyNot) (maxL := 5) (ret := (some .int)) (hh := [(0, 10, 13, 13), (0, 10, 17, 15)]) (by decide) rfl (Nat.le_of_ble_eq_true rfl) ?_
  intro p e s m below meth c ls S hr hlk htb hK hX hP hl
  have hx := S.1
  have hb := S.2.1
  have hts := S.2.2.2.2
  obtain ⟨hP0, hP1, hP2⟩ := hP
  have hl : lv_has ls 5 [(0, .ref o), (1, .int (nI u)), (2, .int y), (3, .ref w9)] := hl
  have hS : va_S (bl w9 1) s.heap s.heap [] := va_S.rf
  refine lv_aload_n hx hb dL_whyNot_0 rfl (lv_at hl 3 rfl) ?_
  refine lv_iconst (v := nI 0) hx hb dL_whyNot_1 (by decide) ?_
  refine lv_aload_n hx hb dL_whyNot_2 rfl (lv_at hl 0 rfl) ?_
  refine lv_iload_n hx hb dL_whyNot_3 rfl (lv_at hl 1 rfl) ?_
  refine lv_iload_n hx hb dL_whyNot_4 rfl (lv_at hl 2 rfl) ?_
  refine w_V (As := [.int (nI u), .int y]) (rest := [.int (nI 0), .ref w9]) (hd9 := 17) (A2 := bl w9 1) (pre := [⟨0, 10, 13, 13⟩]) (x := ⟨0, 10, 17, 15⟩) (suf := []) S hK hX (x_X6_whyNot_2 l hlS E A o z u y hI hu h1) gL_whyNot_X6_whyNot rfl hd_X6_whyNot ⟨rfl, rfl⟩ ⟨Nat.le_of_ble_eq_true rfl, Nat.le_of_ble_eq_true rfl⟩ (k_recv hK hP0 rfl) ⟨hP0, hP1⟩ rfl hl.1 rfl (Nat.le_of_ble_eq_true rfl) dL_whyNot_5 ⟨Nat.le_of_ble_eq_true rfl, Nat.le_of_ble_eq_true rfl⟩ (by decide) (htb.trans rfl) (fun z hz => by
      rcases List.mem_cons.mp hz with h | hz
      · subst h; exact ⟨by decide, "java/lang/IndexOutOfBoundsException", List.mem_cons_of_mem _ (List.mem_append_left _ (List.mem_append_left _ (List.mem_append_left _ (List.mem_append_left _ (List.mem_append_left _ (List.mem_append_left _ (List.mem_append_left _ (List.mem_of_getElem? (i := 0) rfl)))))))), by decide, by decide⟩
      cases hz) (by decide) (by decide) (List.mem_cons_of_mem _ (List.mem_append_left _ (List.mem_append_left _ (List.mem_append_left _ (List.mem_append_left _ (List.mem_append_left _ (List.mem_append_left _ (List.mem_append_left _ (List.mem_of_getElem? (i := 1) rfl))))))))) rfl (fun q9 H locs zH fH hS => ?_)
  have hkG := gg_fr2 hP0 (fun q h9 _ => fH q h9)
  have hkO := la_fr2 hP2 (fun q h9 _ => fH q h9)
  have hkQ := dz_fr2 hP1 (fun q h9 _ => fH q h9)
  refine lv_astore (lv' := [(4, .ref q9), (0, .ref o), (1, .int (nI u)), (2, .int y), (3, .ref w9)]) hx hb dL_whyNot_17 hl (by decide) rfl (fun ls hl => ?_)
  refine lv_iconst (v := nI 2) hx hb dL_whyNot_19 (by decide) ?_
  exact k_iretM hx hb hr hlk dL_whyNot_20 hS hkO (rfl)
def rm_L_ifRepaired : Room := { frames := 4, cells := 0, slots := 0, locals := 88 }
theorem hd_L_ifRepaired : k_hd1 yL_ifRepaired RL 4 := by decide +kernel
set_option maxHeartbeats 4000000 in
set_option maxRecDepth 100000 in
theorem c_L_ifRepaired (l : Launch) (hlS : l.stackTraces = false) (E : ke_E) (A : Nat → Prop) (o : Nat) (z : Nat → Int32) (u : Nat) (k : Nat) (w9 : Nat) (x9 : Int64) (hI : iv z) (hu : u < cn z) (hk : k < 3) (hw9 : w9 + 1 ≤ o ∨ o + 477 ≤ w9) : Met l yL_ifRepaired wsL_ifRepaired rm_L_ifRepaired (kpx E A [.ref o, .int (nI u), .int (nI k), .ref w9] (fun H => gg E o H ∧ dz E (o + 1) z H ∧ la E w9 x9 H)) (qm (some (.int (nI 0))) (bl w9 1) (la E w9 ((rpV z u k).toInt64))) 0 0 (bl w9 1) := by
  refine w_hd (cc := cL_ifRepaired) (maxL := 5) (ret := (some .int)) (hh := [(0, 10, 13, 13), (0, 10, 17, 15)]) (by decide) rfl (Nat.le_of_ble_eq_true rfl) ?_
  intro p e s m below meth c ls S hr hlk htb hK hX hP hl
  have hx := S.1
  have hb := S.2.1
  have hts := S.2.2.2.2
  obtain ⟨hP0, hP1, hP2⟩ := hP
  have hl : lv_has ls 5 [(0, .ref o), (1, .int (nI u)), (2, .int (nI k)), (3, .ref w9)] := hl
  have hS : va_S (bl w9 1) s.heap s.heap [] := va_S.rf
  refine lv_aload_n hx hb dL_ifRepaired_0 rfl (lv_at hl 3 rfl) ?_
  refine lv_iconst (v := nI 0) hx hb dL_ifRepaired_1 (by decide) ?_
  refine lv_aload_n hx hb dL_ifRepaired_2 rfl (lv_at hl 0 rfl) ?_
  refine lv_iload_n hx hb dL_ifRepaired_3 rfl (lv_at hl 1 rfl) ?_
  refine lv_iload_n hx hb dL_ifRepaired_4 rfl (lv_at hl 2 rfl) ?_
  refine k_V (As := [.int (nI u), .int (nI k)]) (rest := [.int (nI 0), .ref w9]) S hK (c_X6_ifRepaired l E o z u k hI hu hk) gL_ifRepaired_X6_ifRepaired rfl hd_X6_ifRepaired ⟨rfl, rfl⟩ ⟨Nat.le_of_ble_eq_true rfl, Nat.le_of_ble_eq_true rfl⟩ (k_recv hK hP0 rfl) ⟨hP0, hP1⟩ rfl hl.1 rfl (Nat.le_of_ble_eq_true rfl) dL_ifRepaired_5 ⟨Nat.le_of_ble_eq_true rfl, Nat.le_of_ble_eq_true rfl⟩ ?_
  refine lv_i2l hx hb dL_ifRepaired_8 rfl ?_
  refine la_ast hx hb hK hP2 hS (⟨by omega, by omega⟩) dL_ifRepaired_9 (fun H locs hP zH fH hS => ?_)
  have hV1 := hP
  have hk0 := gg_fr2 hP0 (fun q _ hq => fH q (bl_ne hq (by omega)))
  have hk2 := dz_fr2 hP1 (fun q _ hq => fH q (bl_ne hq (by omega)))
  refine lv_goto (tgt := 21) hx hb dL_ifRepaired_10 (by decide) ?_
  refine lv_iconst (v := nI 0) hx hb dL_ifRepaired_21 (by decide) ?_
  exact k_iretM hx hb hr hlk dL_ifRepaired_22 hS hV1 (rfl)
def ry_L_ifRepaired_1 : Room := { frames := 8, cells := 1, slots := 6, locals := 126 }
set_option maxHeartbeats 4000000 in
set_option maxRecDepth 100000 in
theorem y_L_ifRepaired_1 (l : Launch) (hlS : l.stackTraces = false) (E : ke_E) (A : Nat → Prop) (o : Nat) (z : Nat → Int32) (x : Int32) (y : Int32) (w9 : Nat) (x9 : Int64) (hI : iv z) (h1 : ¬ inR x (cn z)) (hw9 : w9 + 1 ≤ o ∨ o + 477 ≤ w9) : Met l yL_ifRepaired wsL_ifRepaired ry_L_ifRepaired_1 (kpx E A [.ref o, .int x, .int y, .ref w9] (fun H => gg E o H ∧ dz E (o + 1) z H ∧ la E w9 x9 H)) (qm (some (.int (nI 1))) (bl w9 1) (la E w9 x9)) 1 6 (bl w9 1) := by
  refine w_hd (cc := cL_ifRepaired) (maxL := 5) (ret := (some .int)) (hh := [(0, 10, 13, 13), (0, 10, 17, 15)]) (by decide) rfl (Nat.le_of_ble_eq_true rfl) ?_
  intro p e s m below meth c ls S hr hlk htb hK hX hP hl
  have hx := S.1
  have hb := S.2.1
  have hts := S.2.2.2.2
  obtain ⟨hP0, hP1, hP2⟩ := hP
  have hl : lv_has ls 5 [(0, .ref o), (1, .int x), (2, .int y), (3, .ref w9)] := hl
  have hS : va_S (bl w9 1) s.heap s.heap [] := va_S.rf
  refine lv_aload_n hx hb dL_ifRepaired_0 rfl (lv_at hl 3 rfl) ?_
  refine lv_iconst (v := nI 0) hx hb dL_ifRepaired_1 (by decide) ?_
  refine lv_aload_n hx hb dL_ifRepaired_2 rfl (lv_at hl 0 rfl) ?_
  refine lv_iload_n hx hb dL_ifRepaired_3 rfl (lv_at hl 1 rfl) ?_
  refine lv_iload_n hx hb dL_ifRepaired_4 rfl (lv_at hl 2 rfl) ?_
  refine w_V (As := [.int x, .int y]) (rest := [.int (nI 0), .ref w9]) (hd9 := 13) (A2 := bl w9 1) (pre := []) (x := ⟨0, 10, 13, 13⟩) (suf := [⟨0, 10, 17, 15⟩]) S hK hX (x_X6_ifRepaired_1 l hlS E A o z x y hI h1) gL_ifRepaired_X6_ifRepaired rfl hd_X6_ifRepaired ⟨rfl, rfl⟩ ⟨Nat.le_of_ble_eq_true rfl, Nat.le_of_ble_eq_true rfl⟩ (k_recv hK hP0 rfl) ⟨hP0, hP1⟩ rfl hl.1 rfl (Nat.le_of_ble_eq_true rfl) dL_ifRepaired_5 ⟨Nat.le_of_ble_eq_true rfl, Nat.le_of_ble_eq_true rfl⟩ (by decide) (htb.trans rfl) (fun z hz => by cases hz) (by decide) (by decide) (List.mem_cons_of_mem _ (List.mem_append_left _ (List.mem_append_left _ (List.mem_append_left _ (List.mem_append_left _ (List.mem_append_left _ (List.mem_append_left _ (List.mem_append_left _ (List.mem_of_getElem? (i := 0) rfl))))))))) rfl (fun q9 H locs zH fH hS => ?_)
  have hkG := gg_fr2 hP0 (fun q h9 _ => fH q h9)
  have hkO := la_fr2 hP2 (fun q h9 _ => fH q h9)
  have hkQ := dz_fr2 hP1 (fun q h9 _ => fH q h9)
  refine lv_astore (lv' := [(4, .ref q9), (0, .ref o), (1, .int x), (2, .int y), (3, .ref w9)]) hx hb dL_ifRepaired_13 hl (by decide) rfl (fun ls hl => ?_)
  refine lv_iconst (v := nI 1) hx hb dL_ifRepaired_15 (by decide) ?_
  exact k_iretM hx hb hr hlk dL_ifRepaired_16 hS hkO (rfl)
def ry_L_ifRepaired_2 : Room := { frames := 8, cells := 1, slots := 6, locals := 127 }
set_option maxHeartbeats 4000000 in
set_option maxRecDepth 100000 in
theorem y_L_ifRepaired_2 (l : Launch) (hlS : l.stackTraces = false) (E : ke_E) (A : Nat → Prop) (o : Nat) (z : Nat → Int32) (u : Nat) (x : Int32) (w9 : Nat) (x9 : Int64) (hI : iv z) (hu : u < cn z) (h1 : ¬ inR x 3) (hw9 : w9 + 1 ≤ o ∨ o + 477 ≤ w9) : Met l yL_ifRepaired wsL_ifRepaired ry_L_ifRepaired_2 (kpx E A [.ref o, .int (nI u), .int x, .ref w9] (fun H => gg E o H ∧ dz E (o + 1) z H ∧ la E w9 x9 H)) (qm (some (.int (nI 2))) (bl w9 1) (la E w9 x9)) 1 6 (bl w9 1) := by
  refine w_hd (cc := cL_ifRepaired) (maxL := 5) (ret := (some .int)) (hh := [(0, 10, 13, 13), (0, 10, 17, 15)]) (by decide) rfl (Nat.le_of_ble_eq_true rfl) ?_
  intro p e s m below meth c ls S hr hlk htb hK hX hP hl
  have hx := S.1
  have hb := S.2.1
  have hts := S.2.2.2.2
  obtain ⟨hP0, hP1, hP2⟩ := hP
  have hl : lv_has ls 5 [(0, .ref o), (1, .int (nI u)), (2, .int x), (3, .ref w9)] := hl
  have hS : va_S (bl w9 1) s.heap s.heap [] := va_S.rf
  refine lv_aload_n hx hb dL_ifRepaired_0 rfl (lv_at hl 3 rfl) ?_
  refine lv_iconst (v := nI 0) hx hb dL_ifRepaired_1 (by decide) ?_
  refine lv_aload_n hx hb dL_ifRepaired_2 rfl (lv_at hl 0 rfl) ?_
  refine lv_iload_n hx hb dL_ifRepaired_3 rfl (lv_at hl 1 rfl) ?_
  refine lv_iload_n hx hb dL_ifRepaired_4 rfl (lv_at hl 2 rfl) ?_
  refine w_V (As := [.int (nI u), .int x]) (rest := [.int (nI 0), .ref w9]) (hd9 := 17) (A2 := bl w9 1) (pre := [⟨0, 10, 13, 13⟩]) (x := ⟨0, 10, 17, 15⟩) (suf := []) S hK hX (x_X6_ifRepaired_2 l hlS E A o z u x hI hu h1) gL_ifRepaired_X6_ifRepaired rfl hd_X6_ifRepaired ⟨rfl, rfl⟩ ⟨Nat.le_of_ble_eq_true rfl, Nat.le_of_ble_eq_true rfl⟩ (k_recv hK hP0 rfl) ⟨hP0, hP1⟩ rfl hl.1 rfl (Nat.le_of_ble_eq_true rfl) dL_ifRepaired_5 ⟨Nat.le_of_ble_eq_true rfl, Nat.le_of_ble_eq_true rfl⟩ (by decide) (htb.trans rfl) (fun z hz => by
      rcases List.mem_cons.mp hz with h | hz
      · subst h; exact ⟨by decide, "java/lang/IndexOutOfBoundsException", List.mem_cons_of_mem _ (List.mem_append_left _ (List.mem_append_left _ (List.mem_append_left _ (List.mem_append_left _ (List.mem_append_left _ (List.mem_append_left _ (List.mem_append_left _ (List.mem_of_getElem? (i := 0) rfl)))))))), by decide, by decide⟩
      cases hz) (by decide) (by decide) (List.mem_cons_of_mem _ (List.mem_append_left _ (List.mem_append_left _ (List.mem_append_left _ (List.mem_append_left _ (List.mem_append_left _ (List.mem_append_left _ (List.mem_append_left _ (List.mem_of_getElem? (i := 1) rfl))))))))) rfl (fun q9 H locs zH fH hS => ?_)
  have hkG := gg_fr2 hP0 (fun q h9 _ => fH q h9)
  have hkO := la_fr2 hP2 (fun q h9 _ => fH q h9)
  have hkQ := dz_fr2 hP1 (fun q h9 _ => fH q h9)
  refine lv_astore (lv' := [(4, .ref q9), (0, .ref o), (1, .int (nI u)), (2, .int x), (3, .ref w9)]) hx hb dL_ifRepaired_17 hl (by decide) rfl (fun ls hl => ?_)
  refine lv_iconst (v := nI 2) hx hb dL_ifRepaired_19 (by decide) ?_
  exact k_iretM hx hb hr hlk dL_ifRepaired_20 hS hkO (rfl)
def rm_L_bestRoute : Room := { frames := 5, cells := 0, slots := 0, locals := 113 }
theorem hd_L_bestRoute : k_hd1 yL_bestRoute RL 3 := by decide +kernel
set_option maxHeartbeats 4000000 in
set_option maxRecDepth 100000 in
theorem c_L_bestRoute (l : Launch) (hlS : l.stackTraces = false) (E : ke_E) (A : Nat → Prop) (o : Nat) (z : Nat → Int32) (u : Nat) (w9 : Nat) (x9 : Int64) (hI : iv z) (hu : u < cn z) (hw9 : w9 + 1 ≤ o ∨ o + 477 ≤ w9) : Met l yL_bestRoute wsL_bestRoute rm_L_bestRoute (kpx E A [.ref o, .int (nI u), .ref w9] (fun H => gg E o H ∧ dz E (o + 1) z H ∧ la E w9 x9 H)) (qm (some (.int (nI 0))) (bl w9 1) (la E w9 ((rt z u 5).1.toInt64))) 0 0 (bl w9 1) := by
  refine w_hd (cc := cL_bestRoute) (maxL := 4) (ret := (some .int)) (hh := [(0, 9, 12, 13)]) (by decide) rfl (Nat.le_of_ble_eq_true rfl) ?_
  intro p e s m below meth c ls S hr hlk htb hK hX hP hl
  have hx := S.1
  have hb := S.2.1
  have hts := S.2.2.2.2
  obtain ⟨hP0, hP1, hP2⟩ := hP
  have hl : lv_has ls 4 [(0, .ref o), (1, .int (nI u)), (2, .ref w9)] := hl
  have hS : va_S (bl w9 1) s.heap s.heap [] := va_S.rf
  refine lv_aload_n hx hb dL_bestRoute_0 rfl (lv_at hl 2 rfl) ?_
  refine lv_iconst (v := nI 0) hx hb dL_bestRoute_1 (by decide) ?_
  refine lv_aload_n hx hb dL_bestRoute_2 rfl (lv_at hl 0 rfl) ?_
  refine lv_iload_n hx hb dL_bestRoute_3 rfl (lv_at hl 1 rfl) ?_
  refine k_V (As := [.int (nI u)]) (rest := [.int (nI 0), .ref w9]) S hK (c_X6_bestRoute l E o z u hI hu) gL_bestRoute_X6_bestRoute rfl hd_X6_bestRoute ⟨rfl, rfl⟩ ⟨Nat.le_of_ble_eq_true rfl, Nat.le_of_ble_eq_true rfl⟩ (k_recv hK hP0 rfl) ⟨hP0, hP1⟩ rfl hl.1 rfl (Nat.le_of_ble_eq_true rfl) dL_bestRoute_4 ⟨Nat.le_of_ble_eq_true rfl, Nat.le_of_ble_eq_true rfl⟩ ?_
  refine lv_i2l hx hb dL_bestRoute_7 rfl ?_
  refine la_ast hx hb hK hP2 hS (⟨by omega, by omega⟩) dL_bestRoute_8 (fun H locs hP zH fH hS => ?_)
  have hV1 := hP
  have hk0 := gg_fr2 hP0 (fun q _ hq => fH q (bl_ne hq (by omega)))
  have hk2 := dz_fr2 hP1 (fun q _ hq => fH q (bl_ne hq (by omega)))
  refine lv_goto (tgt := 15) hx hb dL_bestRoute_9 (by decide) ?_
  refine lv_iconst (v := nI 0) hx hb dL_bestRoute_15 (by decide) ?_
  exact k_iretM hx hb hr hlk dL_bestRoute_16 hS hV1 (rfl)
def ry_L_bestRoute_1 : Room := { frames := 8, cells := 1, slots := 6, locals := 129 }
set_option maxHeartbeats 4000000 in
set_option maxRecDepth 100000 in
theorem y_L_bestRoute_1 (l : Launch) (hlS : l.stackTraces = false) (E : ke_E) (A : Nat → Prop) (o : Nat) (z : Nat → Int32) (x : Int32) (w9 : Nat) (x9 : Int64) (hI : iv z) (h1 : ¬ inR x (cn z)) (hw9 : w9 + 1 ≤ o ∨ o + 477 ≤ w9) : Met l yL_bestRoute wsL_bestRoute ry_L_bestRoute_1 (kpx E A [.ref o, .int x, .ref w9] (fun H => gg E o H ∧ dz E (o + 1) z H ∧ la E w9 x9 H)) (qm (some (.int (nI 1))) (bl w9 1) (la E w9 x9)) 1 6 (bl w9 1) := by
  refine w_hd (cc := cL_bestRoute) (maxL := 4) (ret := (some .int)) (hh := [(0, 9, 12, 13)]) (by decide) rfl (Nat.le_of_ble_eq_true rfl) ?_
  intro p e s m below meth c ls S hr hlk htb hK hX hP hl
  have hx := S.1
  have hb := S.2.1
  have hts := S.2.2.2.2
  obtain ⟨hP0, hP1, hP2⟩ := hP
  have hl : lv_has ls 4 [(0, .ref o), (1, .int x), (2, .ref w9)] := hl
  have hS : va_S (bl w9 1) s.heap s.heap [] := va_S.rf
  refine lv_aload_n hx hb dL_bestRoute_0 rfl (lv_at hl 2 rfl) ?_
  refine lv_iconst (v := nI 0) hx hb dL_bestRoute_1 (by decide) ?_
  refine lv_aload_n hx hb dL_bestRoute_2 rfl (lv_at hl 0 rfl) ?_
  refine lv_iload_n hx hb dL_bestRoute_3 rfl (lv_at hl 1 rfl) ?_
  refine w_V (As := [.int x]) (rest := [.int (nI 0), .ref w9]) (hd9 := 12) (A2 := bl w9 1) (pre := []) (x := ⟨0, 9, 12, 13⟩) (suf := []) S hK hX (x_X6_bestRoute_1 l hlS E A o z x hI h1) gL_bestRoute_X6_bestRoute rfl hd_X6_bestRoute ⟨rfl, rfl⟩ ⟨Nat.le_of_ble_eq_true rfl, Nat.le_of_ble_eq_true rfl⟩ (k_recv hK hP0 rfl) ⟨hP0, hP1⟩ rfl hl.1 rfl (Nat.le_of_ble_eq_true rfl) dL_bestRoute_4 ⟨Nat.le_of_ble_eq_true rfl, Nat.le_of_ble_eq_true rfl⟩ (by decide) (htb.trans rfl) (fun z hz => by cases hz) (by decide) (by decide) (List.mem_cons_of_mem _ (List.mem_append_left _ (List.mem_append_left _ (List.mem_append_left _ (List.mem_append_left _ (List.mem_append_left _ (List.mem_append_left _ (List.mem_of_getElem? (i := 0) rfl)))))))) rfl (fun q9 H locs zH fH hS => ?_)
  have hkG := gg_fr2 hP0 (fun q h9 _ => fH q h9)
  have hkO := la_fr2 hP2 (fun q h9 _ => fH q h9)
  have hkQ := dz_fr2 hP1 (fun q h9 _ => fH q h9)
  refine lv_astore_n (lv' := [(3, .ref q9), (0, .ref o), (1, .int x), (2, .ref w9)]) hx hb dL_bestRoute_12 rfl hl (by decide) rfl (fun ls hl => ?_)
  refine lv_iconst (v := nI 1) hx hb dL_bestRoute_13 (by decide) ?_
  exact k_iretM hx hb hr hlk dL_bestRoute_14 hS hkO (rfl)
def rm_L_claimable : Room := { frames := 5, cells := 0, slots := 0, locals := 106 }
theorem hd_L_claimable : k_hd1 yL_claimable RL 3 := by decide +kernel
set_option maxHeartbeats 4000000 in
set_option maxRecDepth 100000 in
theorem c_L_claimable (l : Launch) (hlS : l.stackTraces = false) (E : ke_E) (A : Nat → Prop) (o : Nat) (z : Nat → Int32) (u : Nat) (w9 : Nat) (x9 : Int64) (hI : iv z) (hu : u < cn z) (hw9 : w9 + 1 ≤ o ∨ o + 477 ≤ w9) : Met l yL_claimable wsL_claimable rm_L_claimable (kpx E A [.ref o, .int (nI u), .ref w9] (fun H => gg E o H ∧ dz E (o + 1) z H ∧ la E w9 x9 H)) (qm (some (.int (nI 0))) (bl w9 1) (la E w9 ((amT z u).toInt64))) 0 0 (bl w9 1) := by
  refine w_hd (cc := cL_claimable) (maxL := 4) (ret := (some .int)) (hh := [(0, 9, 12, 13)]) (by decide) rfl (Nat.le_of_ble_eq_true rfl) ?_
  intro p e s m below meth c ls S hr hlk htb hK hX hP hl
  have hx := S.1
  have hb := S.2.1
  have hts := S.2.2.2.2
  obtain ⟨hP0, hP1, hP2⟩ := hP
  have hl : lv_has ls 4 [(0, .ref o), (1, .int (nI u)), (2, .ref w9)] := hl
  have hS : va_S (bl w9 1) s.heap s.heap [] := va_S.rf
  refine lv_aload_n hx hb dL_claimable_0 rfl (lv_at hl 2 rfl) ?_
  refine lv_iconst (v := nI 0) hx hb dL_claimable_1 (by decide) ?_
  refine lv_aload_n hx hb dL_claimable_2 rfl (lv_at hl 0 rfl) ?_
  refine lv_iload_n hx hb dL_claimable_3 rfl (lv_at hl 1 rfl) ?_
  refine k_V (As := [.int (nI u)]) (rest := [.int (nI 0), .ref w9]) S hK (c_X6_claimable l E o z u hI hu) gL_claimable_X6_claimable rfl hd_X6_claimable ⟨rfl, rfl⟩ ⟨Nat.le_of_ble_eq_true rfl, Nat.le_of_ble_eq_true rfl⟩ (k_recv hK hP0 rfl) ⟨hP0, hP1⟩ rfl hl.1 rfl (Nat.le_of_ble_eq_true rfl) dL_claimable_4 ⟨Nat.le_of_ble_eq_true rfl, Nat.le_of_ble_eq_true rfl⟩ ?_
  refine lv_i2l hx hb dL_claimable_7 rfl ?_
  refine la_ast hx hb hK hP2 hS (⟨by omega, by omega⟩) dL_claimable_8 (fun H locs hP zH fH hS => ?_)
  have hV1 := hP
  have hk0 := gg_fr2 hP0 (fun q _ hq => fH q (bl_ne hq (by omega)))
  have hk2 := dz_fr2 hP1 (fun q _ hq => fH q (bl_ne hq (by omega)))
  refine lv_goto (tgt := 15) hx hb dL_claimable_9 (by decide) ?_
  refine lv_iconst (v := nI 0) hx hb dL_claimable_15 (by decide) ?_
  exact k_iretM hx hb hr hlk dL_claimable_16 hS hV1 (rfl)
def ry_L_claimable_1 : Room := { frames := 8, cells := 1, slots := 6, locals := 125 }
set_option maxHeartbeats 4000000 in
set_option maxRecDepth 100000 in
theorem y_L_claimable_1 (l : Launch) (hlS : l.stackTraces = false) (E : ke_E) (A : Nat → Prop) (o : Nat) (z : Nat → Int32) (x : Int32) (w9 : Nat) (x9 : Int64) (hI : iv z) (h1 : ¬ inR x (cn z)) (hw9 : w9 + 1 ≤ o ∨ o + 477 ≤ w9) : Met l yL_claimable wsL_claimable ry_L_claimable_1 (kpx E A [.ref o, .int x, .ref w9] (fun H => gg E o H ∧ dz E (o + 1) z H ∧ la E w9 x9 H)) (qm (some (.int (nI 1))) (bl w9 1) (la E w9 x9)) 1 6 (bl w9 1) := by
  refine w_hd (cc := cL_claimable) (maxL := 4) (ret := (some .int)) (hh := [(0, 9, 12, 13)]) (by decide) rfl (Nat.le_of_ble_eq_true rfl) ?_
  intro p e s m below meth c ls S hr hlk htb hK hX hP hl
  have hx := S.1
  have hb := S.2.1
  have hts := S.2.2.2.2
  obtain ⟨hP0, hP1, hP2⟩ := hP
  have hl : lv_has ls 4 [(0, .ref o), (1, .int x), (2, .ref w9)] := hl
  have hS : va_S (bl w9 1) s.heap s.heap [] := va_S.rf
  refine lv_aload_n hx hb dL_claimable_0 rfl (lv_at hl 2 rfl) ?_
  refine lv_iconst (v := nI 0) hx hb dL_claimable_1 (by decide) ?_
  refine lv_aload_n hx hb dL_claimable_2 rfl (lv_at hl 0 rfl) ?_
  refine lv_iload_n hx hb dL_claimable_3 rfl (lv_at hl 1 rfl) ?_
  refine w_V (As := [.int x]) (rest := [.int (nI 0), .ref w9]) (hd9 := 12) (A2 := bl w9 1) (pre := []) (x := ⟨0, 9, 12, 13⟩) (suf := []) S hK hX (x_X6_claimable_1 l hlS E A o z x hI h1) gL_claimable_X6_claimable rfl hd_X6_claimable ⟨rfl, rfl⟩ ⟨Nat.le_of_ble_eq_true rfl, Nat.le_of_ble_eq_true rfl⟩ (k_recv hK hP0 rfl) ⟨hP0, hP1⟩ rfl hl.1 rfl (Nat.le_of_ble_eq_true rfl) dL_claimable_4 ⟨Nat.le_of_ble_eq_true rfl, Nat.le_of_ble_eq_true rfl⟩ (by decide) (htb.trans rfl) (fun z hz => by cases hz) (by decide) (by decide) (List.mem_cons_of_mem _ (List.mem_append_left _ (List.mem_append_left _ (List.mem_append_left _ (List.mem_append_left _ (List.mem_append_left _ (List.mem_append_left _ (List.mem_append_left _ (List.mem_of_getElem? (i := 0) rfl))))))))) rfl (fun q9 H locs zH fH hS => ?_)
  have hkG := gg_fr2 hP0 (fun q h9 _ => fH q h9)
  have hkO := la_fr2 hP2 (fun q h9 _ => fH q h9)
  have hkQ := dz_fr2 hP1 (fun q h9 _ => fH q h9)
  refine lv_astore_n (lv' := [(3, .ref q9), (0, .ref o), (1, .int x), (2, .ref w9)]) hx hb dL_claimable_12 rfl hl (by decide) rfl (fun ls hl => ?_)
  refine lv_iconst (v := nI 1) hx hb dL_claimable_13 (by decide) ?_
  exact k_iretM hx hb hr hlk dL_claimable_14 hS hkO (rfl)
