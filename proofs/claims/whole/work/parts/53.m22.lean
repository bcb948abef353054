set_option maxHeartbeats 4000000 in
set_option maxRecDepth 100000 in
theorem law_0 {p : Program} {l : Launch} {e : Env} {s : State} {m : MethodId} {below : List Frame} {meth : Method} {c : Code} {E : ke_E} {b o L j : Nat} {xs : Nat → Int32} {Q : State → Prop} (C : LC9 p l s m c E b o L xs) (hj : 4*j + 4 ≤ L) (T : LT9 p l e s m below meth c E b o j Q) : ∀ (z : Nat → Int32) (w : md_w) (sn bn : Nat) (H : Heap) (locs : List Loc) (ls : Array Slot), PI9 z w sn bn → LI9 E o z w sn bn H → va_S (nb o) s.heap H locs → lv_has ls 9 [(0, .ref b), (1, .ref o), (2, .ref (o + 477)), (3, .ref (o + 483)), (4, .int (nI (4*j)))] → W p l e room_1 s m #[.ref b] below meth c H locs (484 + j) (5828 + 6*j) Q (F0 m 176 ls []) := by
  intro z w sn bn H locs ls hPI hLI hS hl
  obtain ⟨S, hlS, hK, hX9, hXh, hX, hbo, hsz9, hL⟩ := C
  have hx := S.1
  have hb := S.2.1
  have hts := S.2.2.2.2
  obtain ⟨hs, hsn, hbm, hbn, hk9, hrows⟩ := id hPI
  have hI := hk9.1
  have hJ := hk9.2.1
  have hpw := hk9.2.2
  have hc20 := iv_c hI
  obtain ⟨hWG, hWQ, hWT, hWY, hWB, hWM, x9, hWO⟩ := hLI
  have hbl : b < s.heap.size := by omega
  have hbA : ¬ nb o b := by show ¬ o ≤ b; omega
  by_cases g1 : inR (xs (4*j + 1)) 6
  · obtain ⟨q, hq, eq⟩ := g1
    by_cases g3 : inR (xs (4*j + 3)) 4
    · obtain ⟨v, hv, ev⟩ := g3
      by_cases g2 : nI 1 ≤ (xs (4*j + 2)) ∧ (xs (4*j + 2)) ≤ nI 9999
      · refine lv_aload_n hx hb dL_law_176 rfl (lv_at hl 1 rfl) ?_
        refine lv_aload_n hx hb dL_law_177 rfl (lv_at hl 0 rfl) ?_
        refine lv_iload hx hb dL_law_178 (lv_at hl 4 rfl) ?_
        refine lv_iconst (v := nI 1) hx hb dL_law_180 (by decide) ?_
        refine n_iadd (n := 4*j + 1) hx hb dL_law_181 (by omega) ?_
        refine va_sld hx hb hX hbl hbA hS (vp_in_nI (by omega) (by omega)) dL_law_182 ?_
        refine k_top (y := nI q) (by rw [nI_clamp (by omega)]; exact eq) ?_
        refine lv_aload_n hx hb dL_law_183 rfl (lv_at hl 0 rfl) ?_
        refine lv_iload hx hb dL_law_184 (lv_at hl 4 rfl) ?_
        refine lv_iconst (v := nI 2) hx hb dL_law_186 (by decide) ?_
        refine n_iadd (n := 4*j + 2) hx hb dL_law_187 (by omega) ?_
        refine va_sld hx hb hX hbl hbA hS (vp_in_nI (by omega) (by omega)) dL_law_188 ?_
        refine k_top (y := xs (4*j + 2)) (by rw [nI_clamp (by omega)]) ?_
        refine lv_aload_n hx hb dL_law_189 rfl (lv_at hl 0 rfl) ?_
        refine lv_iload hx hb dL_law_190 (lv_at hl 4 rfl) ?_
        refine lv_iconst (v := nI 3) hx hb dL_law_192 (by decide) ?_
        refine n_iadd (n := 4*j + 3) hx hb dL_law_193 (by omega) ?_
        refine va_sld hx hb hX hbl hbA hS (vp_in_nI (by omega) (by omega)) dL_law_194 ?_
        refine k_top (y := nI v) (by rw [nI_clamp (by omega)]; exact ev) ?_
        refine lv_aload_n hx hb dL_law_195 rfl (lv_at hl 3 rfl) ?_
        refine l_SW (As := [.ref o, .int (nI q), .int (xs (4*j + 2)), .int (nI v), .ref (o + 483)]) (rest := []) S hK hX9 hXh (c_L_product l hlS E (nb o) o z sn (q_rows w) bn (q_buf w) q (xs (4*j + 2)) v (o + 483) x9 hI hsn hq hv g2 (by omega)) gL_law_L_product rfl hd_L_product ⟨rfl, rfl⟩ ⟨Nat.le_of_ble_eq_true rfl, Nat.le_of_ble_eq_true rfl⟩ ⟨hWG, hWQ, hWT, hWY, hWB, hWO⟩ rfl hl.1 rfl (Nat.le_of_ble_eq_true rfl) dL_law_196 ⟨by show _ ≤ 601024; omega, by show _ ≤ 7293034; omega⟩ hS (fun q h => h.elim (fun h => by show o ≤ q; have := h.1; omega) (fun h => by show o ≤ q; have := h.1; omega)) (fun q h => h.elim (fun h => by show o ≤ q; have := h.1; omega) (fun h => by show o ≤ q; have := h.1; omega)) (fun H locs hQ zH fH hS => ?_)
        obtain ⟨hR0, hR1, hR2, hR3, hR4, hR5⟩ := hQ
        have hV1 := hR0
        have hV2 := hR1
        have hV3 := hR2
        have hV4 := hR3
        have hV5 := hR4
        have hV6 := hR5
        have hk2 := md_fr2 hWM (fun q hz hq => fH q hz (ow_ne hq (by omega)))
        refine lv_istore (lv' := [(5, .int (nI 0)), (0, .ref b), (1, .ref o), (2, .ref (o + 477)), (3, .ref (o + 483)), (4, .int (nI (4*j)))]) hx hb dL_law_199 hl (by decide) rfl (fun ls hl => ?_)
        refine lv_aload_n hx hb dL_law_201 rfl (lv_at hl 3 rfl) ?_
        refine lv_aload_n hx hb dL_law_202 rfl (lv_at hl 1 rfl) ?_
        refine lv_iload hx hb dL_law_203 (lv_at hl 5 rfl) ?_
        refine lv_iconst (v := nI 1) hx hb dL_law_205 (by decide) ?_
        refine n_iadd (n := 4*j + 1) hx hb dL_law_206 (by omega) ?_
        refine va_sld hx hb hX hbl hbA hS (vp_in_nI (by omega) (by omega)) dL_law_207 ?_
        refine k_top (y := nI q) (by rw [nI_clamp (by omega)]; exact eq) ?_
        refine lv_aload_n hx hb dL_law_208 rfl (lv_at hl 1 rfl) ?_
        refine lv_iload hx hb dL_law_209 (lv_at hl 5 rfl) ?_
        refine lv_iconst (v := nI 2) hx hb dL_law_211 (by decide) ?_
        refine n_iadd (n := 4*j + 2) hx hb dL_law_212 (by omega) ?_
        refine va_sld hx hb hX hbl hbA hS (vp_in_nI (by omega) (by omega)) dL_law_213 ?_
        refine k_top (y := xs (4*j + 2)) (by rw [nI_clamp (by omega)]) ?_
        refine lv_aload_n hx hb dL_law_214 rfl (lv_at hl 1 rfl) ?_
        refine lv_iload hx hb dL_law_215 (lv_at hl 5 rfl) ?_
        refine lv_iconst (v := nI 3) hx hb dL_law_217 (by decide) ?_
        refine n_iadd (n := 4*j + 3) hx hb dL_law_218 (by omega) ?_
        refine va_sld hx hb hX hbl hbA hS (vp_in_nI (by omega) (by omega)) dL_law_219 ?_
        refine k_top (y := nI v) (by rw [nI_clamp (by omega)]; exact ev) ?_
        refine k_VM (As := [.int (nI q), .int (xs (4*j + 2)), .int (nI v)]) (rest := []) S hK (c_X7_product l E (o + 477) z w q (xs (4*j + 2)) v sn hI hq hv g2 hs hsn) gL_law_X7_product rfl hd_X7_product ⟨rfl, rfl⟩ ⟨Nat.le_of_ble_eq_true rfl, Nat.le_of_ble_eq_true rfl⟩ (k_recv hK hk2.1 rfl) hk2 rfl hl.1 rfl (Nat.le_of_ble_eq_true rfl) dL_law_220 ⟨by show _ ≤ 601024; omega, by show _ ≤ 7293034; omega⟩ hS (fun q h => by show o ≤ q; have := h.1; omega) (fun q h => by show o ≤ q; have := h.1; omega) (fun H locs hQ zH fH hS => ?_)
        have hP := hQ
        have hV7 := hP
        have hk0 := bo_fr2 hV5 (fun q hz hq => fH q hz (bl_ne hq (by omega)))
        have hk1 := gg_fr2 hV1 (fun q hz hq => fH q hz (bl_ne hq (by omega)))
        have hk3 := la_fr2 hV6 (fun q hz hq => fH q hz (bl_ne hq (by omega)))
        have hk4 := dz_fr2 hV2 (fun q hz hq => fH q hz (bl_ne hq (by omega)))
        have hk5 := tr_fr2 hV3 (fun q hz hq => fH q hz (bl_ne hq (by omega)))
        have hk6 := hy_fr2 hV4 (fun q hz hq => fH q hz (bl_ne hq (by omega)))
        refine lv_istore (lv' := [(6, .int (z (3*q + 12))), (5, .int (nI 0)), (0, .ref b), (1, .ref o), (2, .ref (o + 477)), (3, .ref (o + 483)), (4, .int (nI (4*j)))]) hx hb dL_law_223 hl (by decide) rfl (fun ls hl => ?_)
        refine lv_aload_n hx hb dL_law_225 rfl (lv_at hl 4 rfl) ?_
        refine k_V (As := []) (rest := []) S hK (c_X7_thrown l E (o + 477) (pdZ z q (xs (4*j + 2)) v) (svW z (w_th w (nI 0)) sn)) gL_law_X7_thrown rfl hd_X7_thrown ⟨rfl, rfl⟩ ⟨Nat.le_of_ble_eq_true rfl, Nat.le_of_ble_eq_true rfl⟩ (k_recv hK hV7.1 rfl) hV7 rfl hl.1 rfl (Nat.le_of_ble_eq_true rfl) dL_law_226 ⟨by show _ ≤ 601024; omega, by show _ ≤ 7293034; omega⟩ ?_
        refine k_top (y := nI 0) rfl ?_
        refine lv_iload hx hb dL_law_229 (lv_at hl 1 rfl) ?_
        refine n_ieq (tgt := 236) hx hb dL_law_231 (by decide) (by omega) (by omega) (fun c231 => ?_) (fun h => absurd h (by decide))
        refine lv_iload hx hb dL_law_236 (lv_at hl 1 rfl) ?_
        refine lv_if_ne (tgt := 253) hx hb dL_law_238 (by decide) (fun h => absurd h (by decide)) (fun c238 => ?_)
        refine lv_aload_n hx hb dL_law_241 rfl (lv_at hl 5 rfl) ?_
        refine lv_iconst (v := nI 0) hx hb dL_law_242 (by decide) ?_
        refine l_lald hx hb hK hk3 dL_law_243 ?_
        refine lv_iload hx hb dL_law_244 (lv_at hl 0 rfl) ?_
        refine lv_i2l hx hb dL_law_246 rfl ?_
        refine l_lcmp hx hb dL_law_247 ?_
        refine lv_if_eq (tgt := 253) hx hb dL_law_248 (by decide) (fun c248 => ?_) (fun h => absurd h (by decide))
        refine lv_goto (tgt := 1824) hx hb dL_law_253 (by decide) ?_
        refine W.widen (k := 484 + (j + 1)) (n := 5828 + 6*(j + 1)) (by omega) (by omega) ?_
        exact T (pdZ z q (xs (4*j + 2)) v) (svW z (w_th w (nI 0)) sn) (svN sn) bn _ _ _ (PI_sv hPI ⟨iv_pd9 hI hq hv g2, kw_pd hq hk9.2⟩ rfl rfl hbm hbn) (LI_mk hk1 hk4 hk5 hk6 hk0 hV7 hk3) hS (lv_sub hl [2, 3, 4, 5, 6] rfl)
      · refine lv_aload_n hx hb dL_law_176 rfl (lv_at hl 1 rfl) ?_
        refine lv_aload_n hx hb dL_law_177 rfl (lv_at hl 0 rfl) ?_
        refine lv_iload hx hb dL_law_178 (lv_at hl 4 rfl) ?_
        refine lv_iconst (v := nI 1) hx hb dL_law_180 (by decide) ?_
        refine n_iadd (n := 4*j + 1) hx hb dL_law_181 (by omega) ?_
        refine va_sld hx hb hX hbl hbA hS (vp_in_nI (by omega) (by omega)) dL_law_182 ?_
        refine k_top (y := nI q) (by rw [nI_clamp (by omega)]; exact eq) ?_
        refine lv_aload_n hx hb dL_law_183 rfl (lv_at hl 0 rfl) ?_
        refine lv_iload hx hb dL_law_184 (lv_at hl 4 rfl) ?_
        refine lv_iconst (v := nI 2) hx hb dL_law_186 (by decide) ?_
        refine n_iadd (n := 4*j + 2) hx hb dL_law_187 (by omega) ?_
        refine va_sld hx hb hX hbl hbA hS (vp_in_nI (by omega) (by omega)) dL_law_188 ?_
        refine k_top (y := xs (4*j + 2)) (by rw [nI_clamp (by omega)]) ?_
        refine lv_aload_n hx hb dL_law_189 rfl (lv_at hl 0 rfl) ?_
        refine lv_iload hx hb dL_law_190 (lv_at hl 4 rfl) ?_
        refine lv_iconst (v := nI 3) hx hb dL_law_192 (by decide) ?_
        refine n_iadd (n := 4*j + 3) hx hb dL_law_193 (by omega) ?_
        refine va_sld hx hb hX hbl hbA hS (vp_in_nI (by omega) (by omega)) dL_law_194 ?_
        refine k_top (y := nI v) (by rw [nI_clamp (by omega)]; exact ev) ?_
        refine lv_aload_n hx hb dL_law_195 rfl (lv_at hl 3 rfl) ?_
        refine l_SW (As := [.ref o, .int (nI q), .int (xs (4*j + 2)), .int (nI v), .ref (o + 483)]) (rest := []) S hK hX9 hXh (y_L_product_3 l hlS E (nb o) o z q (xs (4*j + 2)) v (o + 483) x9 hI hq hv g2 (by omega)) gL_law_L_product rfl hd_L_product ⟨rfl, rfl⟩ ⟨Nat.le_of_ble_eq_true rfl, Nat.le_of_ble_eq_true rfl⟩ ⟨hWG, hWQ, hWO⟩ rfl hl.1 rfl (Nat.le_of_ble_eq_true rfl) dL_law_196 ⟨by show _ ≤ 601024; omega, by show _ ≤ 7293034; omega⟩ hS (fun q h => by show o ≤ q; have := h.1; omega) (fun q h => by show o ≤ q; have := h.1; omega) (fun H locs hQ zH fH hS => ?_)
        have hR0 := hQ
        have hV1 := hR0
        have hk0 := bo_fr2 hWB (fun q hz hq => fH q hz (bl_ne hq (by omega)))
        have hk1 := gg_fr2 hWG (fun q hz hq => fH q hz (bl_ne hq (by omega)))
        have hk2 := md_fr2 hWM (fun q hz hq => fH q hz (bl_ne hq (by omega)))
        have hk4 := dz_fr2 hWQ (fun q hz hq => fH q hz (bl_ne hq (by omega)))
        have hk5 := tr_fr2 hWT (fun q hz hq => fH q hz (bl_ne hq (by omega)))
        have hk6 := hy_fr2 hWY (fun q hz hq => fH q hz (bl_ne hq (by omega)))
        refine lv_istore (lv' := [(5, .int (nI 2)), (0, .ref b), (1, .ref o), (2, .ref (o + 477)), (3, .ref (o + 483)), (4, .int (nI (4*j)))]) hx hb dL_law_199 hl (by decide) rfl (fun ls hl => ?_)
        refine lv_aload_n hx hb dL_law_201 rfl (lv_at hl 3 rfl) ?_
        refine lv_aload_n hx hb dL_law_202 rfl (lv_at hl 1 rfl) ?_
        refine lv_iload hx hb dL_law_203 (lv_at hl 5 rfl) ?_
        refine lv_iconst (v := nI 1) hx hb dL_law_205 (by decide) ?_
        refine n_iadd (n := 4*j + 1) hx hb dL_law_206 (by omega) ?_
        refine va_sld hx hb hX hbl hbA hS (vp_in_nI (by omega) (by omega)) dL_law_207 ?_
        refine k_top (y := nI q) (by rw [nI_clamp (by omega)]; exact eq) ?_
        refine lv_aload_n hx hb dL_law_208 rfl (lv_at hl 1 rfl) ?_
        refine lv_iload hx hb dL_law_209 (lv_at hl 5 rfl) ?_
        refine lv_iconst (v := nI 2) hx hb dL_law_211 (by decide) ?_
        refine n_iadd (n := 4*j + 2) hx hb dL_law_212 (by omega) ?_
        refine va_sld hx hb hX hbl hbA hS (vp_in_nI (by omega) (by omega)) dL_law_213 ?_
        refine k_top (y := xs (4*j + 2)) (by rw [nI_clamp (by omega)]) ?_
        refine lv_aload_n hx hb dL_law_214 rfl (lv_at hl 1 rfl) ?_
        refine lv_iload hx hb dL_law_215 (lv_at hl 5 rfl) ?_
        refine lv_iconst (v := nI 3) hx hb dL_law_217 (by decide) ?_
        refine n_iadd (n := 4*j + 3) hx hb dL_law_218 (by omega) ?_
        refine va_sld hx hb hX hbl hbA hS (vp_in_nI (by omega) (by omega)) dL_law_219 ?_
        refine k_top (y := nI v) (by rw [nI_clamp (by omega)]; exact ev) ?_
        refine k_VM (As := [.int (nI q), .int (xs (4*j + 2)), .int (nI v)]) (rest := []) S hK (c_X7_product_f3 l E (o + 477) z w q (xs (4*j + 2)) v hI hq hv g2) gL_law_X7_product rfl hd_X7_product ⟨rfl, rfl⟩ ⟨Nat.le_of_ble_eq_true rfl, Nat.le_of_ble_eq_true rfl⟩ (k_recv hK hk2.1 rfl) hk2 rfl hl.1 rfl (Nat.le_of_ble_eq_true rfl) dL_law_220 ⟨by show _ ≤ 601024; omega, by show _ ≤ 7293034; omega⟩ hS (fun q h => by show o ≤ q; have := h.1; omega) (fun q h => by show o ≤ q; have := h.1; omega) (fun H locs hQ zH fH hS => ?_)
        have hP := hQ
        have hV2 := hP
        have hk0 := bo_fr2 hk0 (fun q hz hq => fH q hz (bl_ne hq (by omega)))
        have hk1 := gg_fr2 hk1 (fun q hz hq => fH q hz (bl_ne hq (by omega)))
        have hk3 := la_fr2 hV1 (fun q hz hq => fH q hz (bl_ne hq (by omega)))
        have hk4 := dz_fr2 hk4 (fun q hz hq => fH q hz (bl_ne hq (by omega)))
        have hk5 := tr_fr2 hk5 (fun q hz hq => fH q hz (bl_ne hq (by omega)))
        have hk6 := hy_fr2 hk6 (fun q hz hq => fH q hz (bl_ne hq (by omega)))
        refine lv_istore (lv' := [(6, .int (nI 0)), (5, .int (nI 2)), (0, .ref b), (1, .ref o), (2, .ref (o + 477)), (3, .ref (o + 483)), (4, .int (nI (4*j)))]) hx hb dL_law_223 hl (by decide) rfl (fun ls hl => ?_)
        refine lv_aload_n hx hb dL_law_225 rfl (lv_at hl 4 rfl) ?_
        refine k_V (As := []) (rest := []) S hK (c_X7_thrown l E (o + 477) z (w_th w (nI 2))) gL_law_X7_thrown rfl hd_X7_thrown ⟨rfl, rfl⟩ ⟨Nat.le_of_ble_eq_true rfl, Nat.le_of_ble_eq_true rfl⟩ (k_recv hK hV2.1 rfl) hV2 rfl hl.1 rfl (Nat.le_of_ble_eq_true rfl) dL_law_226 ⟨by show _ ≤ 601024; omega, by show _ ≤ 7293034; omega⟩ ?_
        refine k_top (y := nI 2) rfl ?_
        refine lv_iload hx hb dL_law_229 (lv_at hl 1 rfl) ?_
        refine n_ieq (tgt := 236) hx hb dL_law_231 (by decide) (by omega) (by omega) (fun c231 => ?_) (fun h => absurd h (by decide))
        refine lv_iload hx hb dL_law_236 (lv_at hl 1 rfl) ?_
        refine lv_if_ne (tgt := 253) hx hb dL_law_238 (by decide) (fun c238 => ?_) (fun h => absurd h (by decide))
        refine lv_goto (tgt := 1824) hx hb dL_law_253 (by decide) ?_
        refine W.widen (k := 484 + (j + 1)) (n := 5828 + 6*(j + 1)) (by omega) (by omega) ?_
        exact T z (w_th w (nI 2)) sn bn _ _ _ hPI (LI_mk hk1 hk4 hk5 hk6 hk0 hV2 hk3) hS (lv_sub hl [2, 3, 4, 5, 6] rfl)
    · refine lv_aload_n hx hb dL_law_176 rfl (lv_at hl 1 rfl) ?_
      refine lv_aload_n hx hb dL_law_177 rfl (lv_at hl 0 rfl) ?_
      refine lv_iload hx hb dL_law_178 (lv_at hl 4 rfl) ?_
      refine lv_iconst (v := nI 1) hx hb dL_law_180 (by decide) ?_
      refine n_iadd (n := 4*j + 1) hx hb dL_law_181 (by omega) ?_
      refine va_sld hx hb hX hbl hbA hS (vp_in_nI (by omega) (by omega)) dL_law_182 ?_
      refine k_top (y := nI q) (by rw [nI_clamp (by omega)]; exact eq) ?_
      refine lv_aload_n hx hb dL_law_183 rfl (lv_at hl 0 rfl) ?_
      refine lv_iload hx hb dL_law_184 (lv_at hl 4 rfl) ?_
      refine lv_iconst (v := nI 2) hx hb dL_law_186 (by decide) ?_
      refine n_iadd (n := 4*j + 2) hx hb dL_law_187 (by omega) ?_
      refine va_sld hx hb hX hbl hbA hS (vp_in_nI (by omega) (by omega)) dL_law_188 ?_
      refine k_top (y := xs (4*j + 2)) (by rw [nI_clamp (by omega)]) ?_
      refine lv_aload_n hx hb dL_law_189 rfl (lv_at hl 0 rfl) ?_
      refine lv_iload hx hb dL_law_190 (lv_at hl 4 rfl) ?_
      refine lv_iconst (v := nI 3) hx hb dL_law_192 (by decide) ?_
      refine n_iadd (n := 4*j + 3) hx hb dL_law_193 (by omega) ?_
      refine va_sld hx hb hX hbl hbA hS (vp_in_nI (by omega) (by omega)) dL_law_194 ?_
      refine k_top (y := xs (4*j + 3)) (by rw [nI_clamp (by omega)]) ?_
      refine lv_aload_n hx hb dL_law_195 rfl (lv_at hl 3 rfl) ?_
      refine l_SW (As := [.ref o, .int (nI q), .int (xs (4*j + 2)), .int (xs (4*j + 3)), .ref (o + 483)]) (rest := []) S hK hX9 hXh (y_L_product_2 l hlS E (nb o) o z q (xs (4*j + 2)) (xs (4*j + 3)) (o + 483) x9 hI hq g3 (by omega)) gL_law_L_product rfl hd_L_product ⟨rfl, rfl⟩ ⟨Nat.le_of_ble_eq_true rfl, Nat.le_of_ble_eq_true rfl⟩ ⟨hWG, hWQ, hWO⟩ rfl hl.1 rfl (Nat.le_of_ble_eq_true rfl) dL_law_196 ⟨by show _ ≤ 601024; omega, by show _ ≤ 7293034; omega⟩ hS (fun q h => by show o ≤ q; have := h.1; omega) (fun q h => by show o ≤ q; have := h.1; omega) (fun H locs hQ zH fH hS => ?_)
      have hR0 := hQ
      have hV1 := hR0
      have hk0 := bo_fr2 hWB (fun q hz hq => fH q hz (bl_ne hq (by omega)))
      have hk1 := gg_fr2 hWG (fun q hz hq => fH q hz (bl_ne hq (by omega)))
      have hk2 := md_fr2 hWM (fun q hz hq => fH q hz (bl_ne hq (by omega)))
      have hk4 := dz_fr2 hWQ (fun q hz hq => fH q hz (bl_ne hq (by omega)))
      have hk5 := tr_fr2 hWT (fun q hz hq => fH q hz (bl_ne hq (by omega)))
      have hk6 := hy_fr2 hWY (fun q hz hq => fH q hz (bl_ne hq (by omega)))
      refine lv_istore (lv' := [(5, .int (nI 1)), (0, .ref b), (1, .ref o), (2, .ref (o + 477)), (3, .ref (o + 483)), (4, .int (nI (4*j)))]) hx hb dL_law_199 hl (by decide) rfl (fun ls hl => ?_)
      refine lv_aload_n hx hb dL_law_201 rfl (lv_at hl 3 rfl) ?_
      refine lv_aload_n hx hb dL_law_202 rfl (lv_at hl 1 rfl) ?_
      refine lv_iload hx hb dL_law_203 (lv_at hl 5 rfl) ?_
      refine lv_iconst (v := nI 1) hx hb dL_law_205 (by decide) ?_
      refine n_iadd (n := 4*j + 1) hx hb dL_law_206 (by omega) ?_
      refine va_sld hx hb hX hbl hbA hS (vp_in_nI (by omega) (by omega)) dL_law_207 ?_
      refine k_top (y := nI q) (by rw [nI_clamp (by omega)]; exact eq) ?_
      refine lv_aload_n hx hb dL_law_208 rfl (lv_at hl 1 rfl) ?_
      refine lv_iload hx hb dL_law_209 (lv_at hl 5 rfl) ?_
      refine lv_iconst (v := nI 2) hx hb dL_law_211 (by decide) ?_
      refine n_iadd (n := 4*j + 2) hx hb dL_law_212 (by omega) ?_
      refine va_sld hx hb hX hbl hbA hS (vp_in_nI (by omega) (by omega)) dL_law_213 ?_
      refine k_top (y := xs (4*j + 2)) (by rw [nI_clamp (by omega)]) ?_
      refine lv_aload_n hx hb dL_law_214 rfl (lv_at hl 1 rfl) ?_
      refine lv_iload hx hb dL_law_215 (lv_at hl 5 rfl) ?_
      refine lv_iconst (v := nI 3) hx hb dL_law_217 (by decide) ?_
      refine n_iadd (n := 4*j + 3) hx hb dL_law_218 (by omega) ?_
      refine va_sld hx hb hX hbl hbA hS (vp_in_nI (by omega) (by omega)) dL_law_219 ?_
      refine k_top (y := xs (4*j + 3)) (by rw [nI_clamp (by omega)]) ?_
      refine k_VM (As := [.int (nI q), .int (xs (4*j + 2)), .int (xs (4*j + 3))]) (rest := []) S hK (c_X7_product_f2 l E (o + 477) z w q (xs (4*j + 2)) (xs (4*j + 3)) hI hq g3) gL_law_X7_product rfl hd_X7_product ⟨rfl, rfl⟩ ⟨Nat.le_of_ble_eq_true rfl, Nat.le_of_ble_eq_true rfl⟩ (k_recv hK hk2.1 rfl) hk2 rfl hl.1 rfl (Nat.le_of_ble_eq_true rfl) dL_law_220 ⟨by show _ ≤ 601024; omega, by show _ ≤ 7293034; omega⟩ hS (fun q h => by show o ≤ q; have := h.1; omega) (fun q h => by show o ≤ q; have := h.1; omega) (fun H locs hQ zH fH hS => ?_)
      have hP := hQ
      have hV2 := hP
      have hk0 := bo_fr2 hk0 (fun q hz hq => fH q hz (bl_ne hq (by omega)))
      have hk1 := gg_fr2 hk1 (fun q hz hq => fH q hz (bl_ne hq (by omega)))
      have hk3 := la_fr2 hV1 (fun q hz hq => fH q hz (bl_ne hq (by omega)))
      have hk4 := dz_fr2 hk4 (fun q hz hq => fH q hz (bl_ne hq (by omega)))
      have hk5 := tr_fr2 hk5 (fun q hz hq => fH q hz (bl_ne hq (by omega)))
      have hk6 := hy_fr2 hk6 (fun q hz hq => fH q hz (bl_ne hq (by omega)))
      refine lv_istore (lv' := [(6, .int (nI 0)), (5, .int (nI 1)), (0, .ref b), (1, .ref o), (2, .ref (o + 477)), (3, .ref (o + 483)), (4, .int (nI (4*j)))]) hx hb dL_law_223 hl (by decide) rfl (fun ls hl => ?_)
      refine lv_aload_n hx hb dL_law_225 rfl (lv_at hl 4 rfl) ?_
      refine k_V (As := []) (rest := []) S hK (c_X7_thrown l E (o + 477) z (w_th w (nI 1))) gL_law_X7_thrown rfl hd_X7_thrown ⟨rfl, rfl⟩ ⟨Nat.le_of_ble_eq_true rfl, Nat.le_of_ble_eq_true rfl⟩ (k_recv hK hV2.1 rfl) hV2 rfl hl.1 rfl (Nat.le_of_ble_eq_true rfl) dL_law_226 ⟨by show _ ≤ 601024; omega, by show _ ≤ 7293034; omega⟩ ?_
      refine k_top (y := nI 1) rfl ?_
      refine lv_iload hx hb dL_law_229 (lv_at hl 1 rfl) ?_
      refine n_ieq (tgt := 236) hx hb dL_law_231 (by decide) (by omega) (by omega) (fun c231 => ?_) (fun h => absurd h (by decide))
      refine lv_iload hx hb dL_law_236 (lv_at hl 1 rfl) ?_
      refine lv_if_ne (tgt := 253) hx hb dL_law_238 (by decide) (fun c238 => ?_) (fun h => absurd h (by decide))
      refine lv_goto (tgt := 1824) hx hb dL_law_253 (by decide) ?_
      refine W.widen (k := 484 + (j + 1)) (n := 5828 + 6*(j + 1)) (by omega) (by omega) ?_
      exact T z (w_th w (nI 1)) sn bn _ _ _ hPI (LI_mk hk1 hk4 hk5 hk6 hk0 hV2 hk3) hS (lv_sub hl [2, 3, 4, 5, 6] rfl)
  · refine lv_aload_n hx hb dL_law_176 rfl (lv_at hl 1 rfl) ?_
    refine lv_aload_n hx hb dL_law_177 rfl (lv_at hl 0 rfl) ?_
    refine lv_iload hx hb dL_law_178 (lv_at hl 4 rfl) ?_
    refine lv_iconst (v := nI 1) hx hb dL_law_180 (by decide) ?_
    refine n_iadd (n := 4*j + 1) hx hb dL_law_181 (by omega) ?_
    refine va_sld hx hb hX hbl hbA hS (vp_in_nI (by omega) (by omega)) dL_law_182 ?_
    refine k_top (y := xs (4*j + 1)) (by rw [nI_clamp (by omega)]) ?_
    refine lv_aload_n hx hb dL_law_183 rfl (lv_at hl 0 rfl) ?_
    refine lv_iload hx hb dL_law_184 (lv_at hl 4 rfl) ?_
    refine lv_iconst (v := nI 2) hx hb dL_law_186 (by decide) ?_
    refine n_iadd (n := 4*j + 2) hx hb dL_law_187 (by omega) ?_
    refine va_sld hx hb hX hbl hbA hS (vp_in_nI (by omega) (by omega)) dL_law_188 ?_
    refine k_top (y := xs (4*j + 2)) (by rw [nI_clamp (by omega)]) ?_
    refine lv_aload_n hx hb dL_law_189 rfl (lv_at hl 0 rfl) ?_
    refine lv_iload hx hb dL_law_190 (lv_at hl 4 rfl) ?_
    refine lv_iconst (v := nI 3) hx hb dL_law_192 (by decide) ?_
    refine n_iadd (n := 4*j + 3) hx hb dL_law_193 (by omega) ?_
    refine va_sld hx hb hX hbl hbA hS (vp_in_nI (by omega) (by omega)) dL_law_194 ?_
    refine k_top (y := xs (4*j + 3)) (by rw [nI_clamp (by omega)]) ?_
    refine lv_aload_n hx hb dL_law_195 rfl (lv_at hl 3 rfl) ?_
    refine l_SW (As := [.ref o, .int (xs (4*j + 1)), .int (xs (4*j + 2)), .int (xs (4*j + 3)), .ref (o + 483)]) (rest := []) S hK hX9 hXh (y_L_product_1 l hlS E (nb o) o z (xs (4*j + 1)) (xs (4*j + 2)) (xs (4*j + 3)) (o + 483) x9 hI g1 (by omega)) gL_law_L_product rfl hd_L_product ⟨rfl, rfl⟩ ⟨Nat.le_of_ble_eq_true rfl, Nat.le_of_ble_eq_true rfl⟩ ⟨hWG, hWQ, hWO⟩ rfl hl.1 rfl (Nat.le_of_ble_eq_true rfl) dL_law_196 ⟨by show _ ≤ 601024; omega, by show _ ≤ 7293034; omega⟩ hS (fun q h => by show o ≤ q; have := h.1; omega) (fun q h => by show o ≤ q; have := h.1; omega) (fun H locs hQ zH fH hS => ?_)
    have hR0 := hQ
    have hV1 := hR0
    have hk0 := bo_fr2 hWB (fun q hz hq => fH q hz (bl_ne hq (by omega)))
    have hk1 := gg_fr2 hWG (fun q hz hq => fH q hz (bl_ne hq (by omega)))
    have hk2 := md_fr2 hWM (fun q hz hq => fH q hz (bl_ne hq (by omega)))
    have hk4 := dz_fr2 hWQ (fun q hz hq => fH q hz (bl_ne hq (by omega)))
    have hk5 := tr_fr2 hWT (fun q hz hq => fH q hz (bl_ne hq (by omega)))
    have hk6 := hy_fr2 hWY (fun q hz hq => fH q hz (bl_ne hq (by omega)))
    refine lv_istore (lv' := [(5, .int (nI 1)), (0, .ref b), (1, .ref o), (2, .ref (o + 477)), (3, .ref (o + 483)), (4, .int (nI (4*j)))]) hx hb dL_law_199 hl (by decide) rfl (fun ls hl => ?_)
    refine lv_aload_n hx hb dL_law_201 rfl (lv_at hl 3 rfl) ?_
    refine lv_aload_n hx hb dL_law_202 rfl (lv_at hl 1 rfl) ?_
    refine lv_iload hx hb dL_law_203 (lv_at hl 5 rfl) ?_
    refine lv_iconst (v := nI 1) hx hb dL_law_205 (by decide) ?_
    refine n_iadd (n := 4*j + 1) hx hb dL_law_206 (by omega) ?_
    refine va_sld hx hb hX hbl hbA hS (vp_in_nI (by omega) (by omega)) dL_law_207 ?_
    refine k_top (y := xs (4*j + 1)) (by rw [nI_clamp (by omega)]) ?_
    refine lv_aload_n hx hb dL_law_208 rfl (lv_at hl 1 rfl) ?_
    refine lv_iload hx hb dL_law_209 (lv_at hl 5 rfl) ?_
    refine lv_iconst (v := nI 2) hx hb dL_law_211 (by decide) ?_
    refine n_iadd (n := 4*j + 2) hx hb dL_law_212 (by omega) ?_
    refine va_sld hx hb hX hbl hbA hS (vp_in_nI (by omega) (by omega)) dL_law_213 ?_
    refine k_top (y := xs (4*j + 2)) (by rw [nI_clamp (by omega)]) ?_
    refine lv_aload_n hx hb dL_law_214 rfl (lv_at hl 1 rfl) ?_
    refine lv_iload hx hb dL_law_215 (lv_at hl 5 rfl) ?_
    refine lv_iconst (v := nI 3) hx hb dL_law_217 (by decide) ?_
    refine n_iadd (n := 4*j + 3) hx hb dL_law_218 (by omega) ?_
    refine va_sld hx hb hX hbl hbA hS (vp_in_nI (by omega) (by omega)) dL_law_219 ?_
    refine k_top (y := xs (4*j + 3)) (by rw [nI_clamp (by omega)]) ?_
    refine k_VM (As := [.int (xs (4*j + 1)), .int (xs (4*j + 2)), .int (xs (4*j + 3))]) (rest := []) S hK (c_X7_product_f1 l E (o + 477) z w (xs (4*j + 1)) (xs (4*j + 2)) (xs (4*j + 3)) hI g1) gL_law_X7_product rfl hd_X7_product ⟨rfl, rfl⟩ ⟨Nat.le_of_ble_eq_true rfl, Nat.le_of_ble_eq_true rfl⟩ (k_recv hK hk2.1 rfl) hk2 rfl hl.1 rfl (Nat.le_of_ble_eq_true rfl) dL_law_220 ⟨by show _ ≤ 601024; omega, by show _ ≤ 7293034; omega⟩ hS (fun q h => by show o ≤ q; have := h.1; omega) (fun q h => by show o ≤ q; have := h.1; omega) (fun H locs hQ zH fH hS => ?_)
    have hP := hQ
    have hV2 := hP
    have hk0 := bo_fr2 hk0 (fun q hz hq => fH q hz (bl_ne hq (by omega)))
    have hk1 := gg_fr2 hk1 (fun q hz hq => fH q hz (bl_ne hq (by omega)))
    have hk3 := la_fr2 hV1 (fun q hz hq => fH q hz (bl_ne hq (by omega)))
    have hk4 := dz_fr2 hk4 (fun q hz hq => fH q hz (bl_ne hq (by omega)))
    have hk5 := tr_fr2 hk5 (fun q hz hq => fH q hz (bl_ne hq (by omega)))
    have hk6 := hy_fr2 hk6 (fun q hz hq => fH q hz (bl_ne hq (by omega)))
    refine lv_istore (lv' := [(6, .int (nI 0)), (5, .int (nI 1)), (0, .ref b), (1, .ref o), (2, .ref (o + 477)), (3, .ref (o + 483)), (4, .int (nI (4*j)))]) hx hb dL_law_223 hl (by decide) rfl (fun ls hl => ?_)
    refine lv_aload_n hx hb dL_law_225 rfl (lv_at hl 4 rfl) ?_
    refine k_V (As := []) (rest := []) S hK (c_X7_thrown l E (o + 477) z (w_th w (nI 1))) gL_law_X7_thrown rfl hd_X7_thrown ⟨rfl, rfl⟩ ⟨Nat.le_of_ble_eq_true rfl, Nat.le_of_ble_eq_true rfl⟩ (k_recv hK hV2.1 rfl) hV2 rfl hl.1 rfl (Nat.le_of_ble_eq_true rfl) dL_law_226 ⟨by show _ ≤ 601024; omega, by show _ ≤ 7293034; omega⟩ ?_
    refine k_top (y := nI 1) rfl ?_
    refine lv_iload hx hb dL_law_229 (lv_at hl 1 rfl) ?_
    refine n_ieq (tgt := 236) hx hb dL_law_231 (by decide) (by omega) (by omega) (fun c231 => ?_) (fun h => absurd h (by decide))
    refine lv_iload hx hb dL_law_236 (lv_at hl 1 rfl) ?_
    refine lv_if_ne (tgt := 253) hx hb dL_law_238 (by decide) (fun c238 => ?_) (fun h => absurd h (by decide))
    refine lv_goto (tgt := 1824) hx hb dL_law_253 (by decide) ?_
    refine W.widen (k := 484 + (j + 1)) (n := 5828 + 6*(j + 1)) (by omega) (by omega) ?_
    exact T z (w_th w (nI 1)) sn bn _ _ _ hPI (LI_mk hk1 hk4 hk5 hk6 hk0 hV2 hk3) hS (lv_sub hl [2, 3, 4, 5, 6] rfl)
set_option maxHeartbeats 4000000 in
set_option maxRecDepth 100000 in
theorem law_1 {p : Program} {l : Launch} {e : Env} {s : State} {m : MethodId} {below : List Frame} {meth : Method} {c : Code} {E : ke_E} {b o L j : Nat} {xs : Nat → Int32} {Q : State → Prop} (C : LC9 p l s m c E b o L xs) (hj : 4*j + 4 ≤ L) (T : LT9 p l e s m below meth c E b o j Q) : ∀ (z : Nat → Int32) (w : md_w) (sn bn : Nat) (H : Heap) (locs : List Loc) (ls : Array Slot), PI9 z w sn bn → LI9 E o z w sn bn H → va_S (nb o) s.heap H locs → lv_has ls 9 [(0, .ref b), (1, .ref o), (2, .ref (o + 477)), (3, .ref (o + 483)), (4, .int (nI (4*j)))] → W p l e room_1 s m #[.ref b] below meth c H locs (484 + j) (5828 + 6*j) Q (F0 m 256 ls []) := by
  intro z w sn bn H locs ls hPI hLI hS hl
  obtain ⟨S, hlS, hK, hX9, hXh, hX, hbo, hsz9, hL⟩ := C
  have hx := S.1
  have hb := S.2.1
  have hts := S.2.2.2.2
  obtain ⟨hs, hsn, hbm, hbn, hk9, hrows⟩ := id hPI
  have hI := hk9.1
  have hJ := hk9.2.1
  have hpw := hk9.2.2
  have hc20 := iv_c hI
  obtain ⟨hWG, hWQ, hWT, hWY, hWB, hWM, x9, hWO⟩ := hLI
  have hbl : b < s.heap.size := by omega
  have hbA : ¬ nb o b := by show ¬ o ≤ b; omega
  by_cases g1 : inR (xs (4*j + 1)) 6
  · obtain ⟨q, hq, eq⟩ := g1
    by_cases g2 : xs (4*j + 2) = 0
    · refine lv_aload_n hx hb dL_law_256 rfl (lv_at hl 1 rfl) ?_
      refine lv_aload_n hx hb dL_law_257 rfl (lv_at hl 0 rfl) ?_
      refine lv_iload hx hb dL_law_258 (lv_at hl 4 rfl) ?_
      refine lv_iconst (v := nI 1) hx hb dL_law_260 (by decide) ?_
      refine n_iadd (n := 4*j + 1) hx hb dL_law_261 (by omega) ?_
      refine va_sld hx hb hX hbl hbA hS (vp_in_nI (by omega) (by omega)) dL_law_262 ?_
      refine k_top (y := nI q) (by rw [nI_clamp (by omega)]; exact eq) ?_
      refine lv_aload_n hx hb dL_law_263 rfl (lv_at hl 0 rfl) ?_
      refine lv_iload hx hb dL_law_264 (lv_at hl 4 rfl) ?_
      refine lv_iconst (v := nI 2) hx hb dL_law_266 (by decide) ?_
      refine n_iadd (n := 4*j + 2) hx hb dL_law_267 (by omega) ?_
      refine va_sld hx hb hX hbl hbA hS (vp_in_nI (by omega) (by omega)) dL_law_268 ?_
      refine k_top (y := xs (4*j + 2)) (by rw [nI_clamp (by omega)]) ?_
      refine lv_if_eq (tgt := 276) hx hb dL_law_269 (by decide) (fun c269 => ?_) (fun h => absurd g2 h)
      refine lv_iconst (v := nI 0) hx hb dL_law_276 (by decide) ?_
      refine lv_aload_n hx hb dL_law_277 rfl (lv_at hl 3 rfl) ?_
      refine l_SW (As := [.ref o, .int (nI q), .int (nI 0), .ref (o + 483)]) (rest := []) S hK hX9 hXh (c_L_recall_0 l hlS E (nb o) o z sn (q_rows w) bn (q_buf w) q (o + 483) x9 hI hsn hq (by omega)) gL_law_L_recall rfl hd_L_recall ⟨rfl, rfl⟩ ⟨Nat.le_of_ble_eq_true rfl, Nat.le_of_ble_eq_true rfl⟩ ⟨hWG, hWQ, hWT, hWY, hWB, hWO⟩ rfl hl.1 rfl (Nat.le_of_ble_eq_true rfl) dL_law_278 ⟨by show _ ≤ 601024; omega, by show _ ≤ 7293034; omega⟩ hS (fun q h => h.elim (fun h => by show o ≤ q; have := h.1; omega) (fun h => by show o ≤ q; have := h.1; omega)) (fun q h => h.elim (fun h => by show o ≤ q; have := h.1; omega) (fun h => by show o ≤ q; have := h.1; omega)) (fun H locs hQ zH fH hS => ?_)
      obtain ⟨hR0, hR1, hR2, hR3, hR4, hR5⟩ := hQ
      have hV1 := hR0
      have hV2 := hR1
      have hV3 := hR2
      have hV4 := hR3
      have hV5 := hR4
      have hV6 := hR5
      have hk2 := md_fr2 hWM (fun q hz hq => fH q hz (ow_ne hq (by omega)))
      refine lv_istore (lv' := [(5, .int (nI 0)), (0, .ref b), (1, .ref o), (2, .ref (o + 477)), (3, .ref (o + 483)), (4, .int (nI (4*j)))]) hx hb dL_law_281 hl (by decide) rfl (fun ls hl => ?_)
      refine lv_aload_n hx hb dL_law_283 rfl (lv_at hl 3 rfl) ?_
      refine lv_aload_n hx hb dL_law_284 rfl (lv_at hl 1 rfl) ?_
      refine lv_iload hx hb dL_law_285 (lv_at hl 5 rfl) ?_
      refine lv_iconst (v := nI 1) hx hb dL_law_287 (by decide) ?_
      refine n_iadd (n := 4*j + 1) hx hb dL_law_288 (by omega) ?_
      refine va_sld hx hb hX hbl hbA hS (vp_in_nI (by omega) (by omega)) dL_law_289 ?_
      refine k_top (y := nI q) (by rw [nI_clamp (by omega)]; exact eq) ?_
      refine lv_aload_n hx hb dL_law_290 rfl (lv_at hl 1 rfl) ?_
      refine lv_iload hx hb dL_law_291 (lv_at hl 5 rfl) ?_
      refine lv_iconst (v := nI 2) hx hb dL_law_293 (by decide) ?_
      refine n_iadd (n := 4*j + 2) hx hb dL_law_294 (by omega) ?_
      refine va_sld hx hb hX hbl hbA hS (vp_in_nI (by omega) (by omega)) dL_law_295 ?_
      refine k_top (y := xs (4*j + 2)) (by rw [nI_clamp (by omega)]) ?_
      refine lv_if_eq (tgt := 303) hx hb dL_law_296 (by decide) (fun c296 => ?_) (fun h => absurd c269 h)
      refine lv_iconst (v := nI 0) hx hb dL_law_303 (by decide) ?_
      refine k_VM (As := [.int (nI q), .int (nI 0)]) (rest := []) S hK (c_X7_recall_0 l E (o + 477) z w q sn hI hq hs hsn) gL_law_X7_recall rfl hd_X7_recall ⟨rfl, rfl⟩ ⟨Nat.le_of_ble_eq_true rfl, Nat.le_of_ble_eq_true rfl⟩ (k_recv hK hk2.1 rfl) hk2 rfl hl.1 rfl (Nat.le_of_ble_eq_true rfl) dL_law_304 ⟨by show _ ≤ 601024; omega, by show _ ≤ 7293034; omega⟩ hS (fun q h => by show o ≤ q; have := h.1; omega) (fun q h => by show o ≤ q; have := h.1; omega) (fun H locs hQ zH fH hS => ?_)
      have hP := hQ
      have hV7 := hP
      have hk0 := bo_fr2 hV5 (fun q hz hq => fH q hz (bl_ne hq (by omega)))
      have hk1 := gg_fr2 hV1 (fun q hz hq => fH q hz (bl_ne hq (by omega)))
      have hk3 := la_fr2 hV6 (fun q hz hq => fH q hz (bl_ne hq (by omega)))
      have hk4 := dz_fr2 hV2 (fun q hz hq => fH q hz (bl_ne hq (by omega)))
      have hk5 := tr_fr2 hV3 (fun q hz hq => fH q hz (bl_ne hq (by omega)))
      have hk6 := hy_fr2 hV4 (fun q hz hq => fH q hz (bl_ne hq (by omega)))
      refine lv_istore (lv' := [(6, .int (hlN (rcZ z q 0) (cn z))), (5, .int (nI 0)), (0, .ref b), (1, .ref o), (2, .ref (o + 477)), (3, .ref (o + 483)), (4, .int (nI (4*j)))]) hx hb dL_law_307 hl (by decide) rfl (fun ls hl => ?_)
      refine lv_aload_n hx hb dL_law_309 rfl (lv_at hl 4 rfl) ?_
      refine k_V (As := []) (rest := []) S hK (c_X7_thrown l E (o + 477) (rcZ z q 0) (svW z (w_th w (nI 0)) sn)) gL_law_X7_thrown rfl hd_X7_thrown ⟨rfl, rfl⟩ ⟨Nat.le_of_ble_eq_true rfl, Nat.le_of_ble_eq_true rfl⟩ (k_recv hK hV7.1 rfl) hV7 rfl hl.1 rfl (Nat.le_of_ble_eq_true rfl) dL_law_310 ⟨by show _ ≤ 601024; omega, by show _ ≤ 7293034; omega⟩ ?_
      refine k_top (y := nI 0) rfl ?_
      refine lv_iload hx hb dL_law_313 (lv_at hl 1 rfl) ?_
      refine n_ieq (tgt := 320) hx hb dL_law_315 (by decide) (by omega) (by omega) (fun c315 => ?_) (fun h => absurd h (by decide))
      refine lv_iload hx hb dL_law_320 (lv_at hl 1 rfl) ?_
      refine lv_if_ne (tgt := 337) hx hb dL_law_322 (by decide) (fun h => absurd h (by decide)) (fun c322 => ?_)
      refine lv_aload_n hx hb dL_law_325 rfl (lv_at hl 5 rfl) ?_
      refine lv_iconst (v := nI 0) hx hb dL_law_326 (by decide) ?_
      refine l_lald hx hb hK hk3 dL_law_327 ?_
      refine lv_iload hx hb dL_law_328 (lv_at hl 0 rfl) ?_
      refine lv_i2l hx hb dL_law_330 rfl ?_
      refine l_lcmp hx hb dL_law_331 ?_
      refine lv_if_eq (tgt := 337) hx hb dL_law_332 (by decide) (fun c332 => ?_) (fun h => absurd h (by decide))
      refine lv_goto (tgt := 1824) hx hb dL_law_337 (by decide) ?_
      refine W.widen (k := 484 + (j + 1)) (n := 5828 + 6*(j + 1)) (by omega) (by omega) ?_
      exact T (rcZ z q 0) (svW z (w_th w (nI 0)) sn) (svN sn) bn _ _ _ (PI_sv hPI ⟨iv_rc9 hI hq (by omega), kw_rc hq hk9.2⟩ rfl rfl hbm hbn) (LI_mk hk1 hk4 hk5 hk6 hk0 hV7 hk3) hS (lv_sub hl [2, 3, 4, 5, 6] rfl)
    · refine lv_aload_n hx hb dL_law_256 rfl (lv_at hl 1 rfl) ?_
      refine lv_aload_n hx hb dL_law_257 rfl (lv_at hl 0 rfl) ?_
      refine lv_iload hx hb dL_law_258 (lv_at hl 4 rfl) ?_
      refine lv_iconst (v := nI 1) hx hb dL_law_260 (by decide) ?_
      refine n_iadd (n := 4*j + 1) hx hb dL_law_261 (by omega) ?_
      refine va_sld hx hb hX hbl hbA hS (vp_in_nI (by omega) (by omega)) dL_law_262 ?_
      refine k_top (y := nI q) (by rw [nI_clamp (by omega)]; exact eq) ?_
      refine lv_aload_n hx hb dL_law_263 rfl (lv_at hl 0 rfl) ?_
      refine lv_iload hx hb dL_law_264 (lv_at hl 4 rfl) ?_
      refine lv_iconst (v := nI 2) hx hb dL_law_266 (by decide) ?_
      refine n_iadd (n := 4*j + 2) hx hb dL_law_267 (by omega) ?_
      refine va_sld hx hb hX hbl hbA hS (vp_in_nI (by omega) (by omega)) dL_law_268 ?_
      refine k_top (y := xs (4*j + 2)) (by rw [nI_clamp (by omega)]) ?_
      refine lv_if_eq (tgt := 276) hx hb dL_law_269 (by decide) (fun h => absurd h g2) (fun c269 => ?_)
      refine lv_iconst (v := nI 1) hx hb dL_law_272 (by decide) ?_
      refine lv_goto (tgt := 277) hx hb dL_law_273 (by decide) ?_
      refine lv_aload_n hx hb dL_law_277 rfl (lv_at hl 3 rfl) ?_
      refine l_SW (As := [.ref o, .int (nI q), .int (nI 1), .ref (o + 483)]) (rest := []) S hK hX9 hXh (c_L_recall_1 l hlS E (nb o) o z sn (q_rows w) bn (q_buf w) q (o + 483) x9 hI hsn hq (by omega)) gL_law_L_recall rfl hd_L_recall ⟨rfl, rfl⟩ ⟨Nat.le_of_ble_eq_true rfl, Nat.le_of_ble_eq_true rfl⟩ ⟨hWG, hWQ, hWT, hWY, hWB, hWO⟩ rfl hl.1 rfl (Nat.le_of_ble_eq_true rfl) dL_law_278 ⟨by show _ ≤ 601024; omega, by show _ ≤ 7293034; omega⟩ hS (fun q h => h.elim (fun h => by show o ≤ q; have := h.1; omega) (fun h => by show o ≤ q; have := h.1; omega)) (fun q h => h.elim (fun h => by show o ≤ q; have := h.1; omega) (fun h => by show o ≤ q; have := h.1; omega)) (fun H locs hQ zH fH hS => ?_)
      obtain ⟨hR0, hR1, hR2, hR3, hR4, hR5⟩ := hQ
      have hV1 := hR0
      have hV2 := hR1
      have hV3 := hR2
      have hV4 := hR3
      have hV5 := hR4
      have hV6 := hR5
      have hk2 := md_fr2 hWM (fun q hz hq => fH q hz (ow_ne hq (by omega)))
      refine lv_istore (lv' := [(5, .int (nI 0)), (0, .ref b), (1, .ref o), (2, .ref (o + 477)), (3, .ref (o + 483)), (4, .int (nI (4*j)))]) hx hb dL_law_281 hl (by decide) rfl (fun ls hl => ?_)
      refine lv_aload_n hx hb dL_law_283 rfl (lv_at hl 3 rfl) ?_
      refine lv_aload_n hx hb dL_law_284 rfl (lv_at hl 1 rfl) ?_
      refine lv_iload hx hb dL_law_285 (lv_at hl 5 rfl) ?_
      refine lv_iconst (v := nI 1) hx hb dL_law_287 (by decide) ?_
      refine n_iadd (n := 4*j + 1) hx hb dL_law_288 (by omega) ?_
      refine va_sld hx hb hX hbl hbA hS (vp_in_nI (by omega) (by omega)) dL_law_289 ?_
      refine k_top (y := nI q) (by rw [nI_clamp (by omega)]; exact eq) ?_
      refine lv_aload_n hx hb dL_law_290 rfl (lv_at hl 1 rfl) ?_
      refine lv_iload hx hb dL_law_291 (lv_at hl 5 rfl) ?_
      refine lv_iconst (v := nI 2) hx hb dL_law_293 (by decide) ?_
      refine n_iadd (n := 4*j + 2) hx hb dL_law_294 (by omega) ?_
      refine va_sld hx hb hX hbl hbA hS (vp_in_nI (by omega) (by omega)) dL_law_295 ?_
      refine k_top (y := xs (4*j + 2)) (by rw [nI_clamp (by omega)]) ?_
      refine lv_if_eq (tgt := 303) hx hb dL_law_296 (by decide) (fun h => absurd h c269) (fun c296 => ?_)
      refine lv_iconst (v := nI 1) hx hb dL_law_299 (by decide) ?_
      refine lv_goto (tgt := 304) hx hb dL_law_300 (by decide) ?_
      refine k_VM (As := [.int (nI q), .int (nI 1)]) (rest := []) S hK (c_X7_recall_1 l E (o + 477) z w q sn hI hq hs hsn) gL_law_X7_recall rfl hd_X7_recall ⟨rfl, rfl⟩ ⟨Nat.le_of_ble_eq_true rfl, Nat.le_of_ble_eq_true rfl⟩ (k_recv hK hk2.1 rfl) hk2 rfl hl.1 rfl (Nat.le_of_ble_eq_true rfl) dL_law_304 ⟨by show _ ≤ 601024; omega, by show _ ≤ 7293034; omega⟩ hS (fun q h => by show o ≤ q; have := h.1; omega) (fun q h => by show o ≤ q; have := h.1; omega) (fun H locs hQ zH fH hS => ?_)
      have hP := hQ
      have hV7 := hP
      have hk0 := bo_fr2 hV5 (fun q hz hq => fH q hz (bl_ne hq (by omega)))
      have hk1 := gg_fr2 hV1 (fun q hz hq => fH q hz (bl_ne hq (by omega)))
      have hk3 := la_fr2 hV6 (fun q hz hq => fH q hz (bl_ne hq (by omega)))
      have hk4 := dz_fr2 hV2 (fun q hz hq => fH q hz (bl_ne hq (by omega)))
      have hk5 := tr_fr2 hV3 (fun q hz hq => fH q hz (bl_ne hq (by omega)))
      have hk6 := hy_fr2 hV4 (fun q hz hq => fH q hz (bl_ne hq (by omega)))
      refine lv_istore (lv' := [(6, .int (hlN (rcZ z q 1) (cn z))), (5, .int (nI 0)), (0, .ref b), (1, .ref o), (2, .ref (o + 477)), (3, .ref (o + 483)), (4, .int (nI (4*j)))]) hx hb dL_law_307 hl (by decide) rfl (fun ls hl => ?_)
      refine lv_aload_n hx hb dL_law_309 rfl (lv_at hl 4 rfl) ?_
      refine k_V (As := []) (rest := []) S hK (c_X7_thrown l E (o + 477) (rcZ z q 1) (svW z (w_th w (nI 0)) sn)) gL_law_X7_thrown rfl hd_X7_thrown ⟨rfl, rfl⟩ ⟨Nat.le_of_ble_eq_true rfl, Nat.le_of_ble_eq_true rfl⟩ (k_recv hK hV7.1 rfl) hV7 rfl hl.1 rfl (Nat.le_of_ble_eq_true rfl) dL_law_310 ⟨by show _ ≤ 601024; omega, by show _ ≤ 7293034; omega⟩ ?_
      refine k_top (y := nI 0) rfl ?_
      refine lv_iload hx hb dL_law_313 (lv_at hl 1 rfl) ?_
      refine n_ieq (tgt := 320) hx hb dL_law_315 (by decide) (by omega) (by omega) (fun c315 => ?_) (fun h => absurd h (by decide))
      refine lv_iload hx hb dL_law_320 (lv_at hl 1 rfl) ?_
      refine lv_if_ne (tgt := 337) hx hb dL_law_322 (by decide) (fun h => absurd h (by decide)) (fun c322 => ?_)
      refine lv_aload_n hx hb dL_law_325 rfl (lv_at hl 5 rfl) ?_
      refine lv_iconst (v := nI 0) hx hb dL_law_326 (by decide) ?_
      refine l_lald hx hb hK hk3 dL_law_327 ?_
      refine lv_iload hx hb dL_law_328 (lv_at hl 0 rfl) ?_
      refine lv_i2l hx hb dL_law_330 rfl ?_
      refine l_lcmp hx hb dL_law_331 ?_
      refine lv_if_eq (tgt := 337) hx hb dL_law_332 (by decide) (fun c332 => ?_) (fun h => absurd h (by decide))
      refine lv_goto (tgt := 1824) hx hb dL_law_337 (by decide) ?_
      refine W.widen (k := 484 + (j + 1)) (n := 5828 + 6*(j + 1)) (by omega) (by omega) ?_
      exact T (rcZ z q 1) (svW z (w_th w (nI 0)) sn) (svN sn) bn _ _ _ (PI_sv hPI ⟨iv_rc9 hI hq (by omega), kw_rc hq hk9.2⟩ rfl rfl hbm hbn) (LI_mk hk1 hk4 hk5 hk6 hk0 hV7 hk3) hS (lv_sub hl [2, 3, 4, 5, 6] rfl)
  · refine lv_aload_n hx hb dL_law_256 rfl (lv_at hl 1 rfl) ?_
    refine lv_aload_n hx hb dL_law_257 rfl (lv_at hl 0 rfl) ?_
    refine lv_iload hx hb dL_law_258 (lv_at hl 4 rfl) ?_
    refine lv_iconst (v := nI 1) hx hb dL_law_260 (by decide) ?_
    refine n_iadd (n := 4*j + 1) hx hb dL_law_261 (by omega) ?_
    refine va_sld hx hb hX hbl hbA hS (vp_in_nI (by omega) (by omega)) dL_law_262 ?_
    refine k_top (y := xs (4*j + 1)) (by rw [nI_clamp (by omega)]) ?_
    refine lv_aload_n hx hb dL_law_263 rfl (lv_at hl 0 rfl) ?_
    refine lv_iload hx hb dL_law_264 (lv_at hl 4 rfl) ?_
    refine lv_iconst (v := nI 2) hx hb dL_law_266 (by decide) ?_
    refine n_iadd (n := 4*j + 2) hx hb dL_law_267 (by omega) ?_
    refine va_sld hx hb hX hbl hbA hS (vp_in_nI (by omega) (by omega)) dL_law_268 ?_
    refine k_top (y := xs (4*j + 2)) (by rw [nI_clamp (by omega)]) ?_
    refine lv_if_eq (tgt := 276) hx hb dL_law_269 (by decide) (fun c269 => ?_) (fun c269 => ?_)
    · refine lv_iconst (v := nI 0) hx hb dL_law_276 (by decide) ?_
      refine lv_aload_n hx hb dL_law_277 rfl (lv_at hl 3 rfl) ?_
      refine l_SW (As := [.ref o, .int (xs (4*j + 1)), .int (nI 0), .ref (o + 483)]) (rest := []) S hK hX9 hXh (y_L_recall_1 l hlS E (nb o) o z (xs (4*j + 1)) (nI 0) (o + 483) x9 hI g1 (by omega)) gL_law_L_recall rfl hd_L_recall ⟨rfl, rfl⟩ ⟨Nat.le_of_ble_eq_true rfl, Nat.le_of_ble_eq_true rfl⟩ ⟨hWG, hWQ, hWO⟩ rfl hl.1 rfl (Nat.le_of_ble_eq_true rfl) dL_law_278 ⟨by show _ ≤ 601024; omega, by show _ ≤ 7293034; omega⟩ hS (fun q h => by show o ≤ q; have := h.1; omega) (fun q h => by show o ≤ q; have := h.1; omega) (fun H locs hQ zH fH hS => ?_)
      have hR0 := hQ
      have hV1 := hR0
      have hk0 := bo_fr2 hWB (fun q hz hq => fH q hz (bl_ne hq (by omega)))
      have hk1 := gg_fr2 hWG (fun q hz hq => fH q hz (bl_ne hq (by omega)))
      have hk2 := md_fr2 hWM (fun q hz hq => fH q hz (bl_ne hq (by omega)))
      have hk4 := dz_fr2 hWQ (fun q hz hq => fH q hz (bl_ne hq (by omega)))
      have hk5 := tr_fr2 hWT (fun q hz hq => fH q hz (bl_ne hq (by omega)))
      have hk6 := hy_fr2 hWY (fun q hz hq => fH q hz (bl_ne hq (by omega)))
      refine lv_istore (lv' := [(5, .int (nI 1)), (0, .ref b), (1, .ref o), (2, .ref (o + 477)), (3, .ref (o + 483)), (4, .int (nI (4*j)))]) hx hb dL_law_281 hl (by decide) rfl (fun ls hl => ?_)
      refine lv_aload_n hx hb dL_law_283 rfl (lv_at hl 3 rfl) ?_
      refine lv_aload_n hx hb dL_law_284 rfl (lv_at hl 1 rfl) ?_
      refine lv_iload hx hb dL_law_285 (lv_at hl 5 rfl) ?_
      refine lv_iconst (v := nI 1) hx hb dL_law_287 (by decide) ?_
      refine n_iadd (n := 4*j + 1) hx hb dL_law_288 (by omega) ?_
      refine va_sld hx hb hX hbl hbA hS (vp_in_nI (by omega) (by omega)) dL_law_289 ?_
      refine k_top (y := xs (4*j + 1)) (by rw [nI_clamp (by omega)]) ?_
      refine lv_aload_n hx hb dL_law_290 rfl (lv_at hl 1 rfl) ?_
      refine lv_iload hx hb dL_law_291 (lv_at hl 5 rfl) ?_
      refine lv_iconst (v := nI 2) hx hb dL_law_293 (by decide) ?_
      refine n_iadd (n := 4*j + 2) hx hb dL_law_294 (by omega) ?_
      refine va_sld hx hb hX hbl hbA hS (vp_in_nI (by omega) (by omega)) dL_law_295 ?_
      refine k_top (y := xs (4*j + 2)) (by rw [nI_clamp (by omega)]) ?_
      refine lv_if_eq (tgt := 303) hx hb dL_law_296 (by decide) (fun c296 => ?_) (fun h => absurd c269 h)
      refine lv_iconst (v := nI 0) hx hb dL_law_303 (by decide) ?_
      refine k_VM (As := [.int (xs (4*j + 1)), .int (nI 0)]) (rest := []) S hK (c_X7_recall_f1 l E (o + 477) z w (xs (4*j + 1)) (nI 0) hI g1) gL_law_X7_recall rfl hd_X7_recall ⟨rfl, rfl⟩ ⟨Nat.le_of_ble_eq_true rfl, Nat.le_of_ble_eq_true rfl⟩ (k_recv hK hk2.1 rfl) hk2 rfl hl.1 rfl (Nat.le_of_ble_eq_true rfl) dL_law_304 ⟨by show _ ≤ 601024; omega, by show _ ≤ 7293034; omega⟩ hS (fun q h => by show o ≤ q; have := h.1; omega) (fun q h => by show o ≤ q; have := h.1; omega) (fun H locs hQ zH fH hS => ?_)
      have hP := hQ
      have hV2 := hP
      have hk0 := bo_fr2 hk0 (fun q hz hq => fH q hz (bl_ne hq (by omega)))
      have hk1 := gg_fr2 hk1 (fun q hz hq => fH q hz (bl_ne hq (by omega)))
      have hk3 := la_fr2 hV1 (fun q hz hq => fH q hz (bl_ne hq (by omega)))
      have hk4 := dz_fr2 hk4 (fun q hz hq => fH q hz (bl_ne hq (by omega)))
      have hk5 := tr_fr2 hk5 (fun q hz hq => fH q hz (bl_ne hq (by omega)))
      have hk6 := hy_fr2 hk6 (fun q hz hq => fH q hz (bl_ne hq (by omega)))
      refine lv_istore (lv' := [(6, .int (nI 0)), (5, .int (nI 1)), (0, .ref b), (1, .ref o), (2, .ref (o + 477)), (3, .ref (o + 483)), (4, .int (nI (4*j)))]) hx hb dL_law_307 hl (by decide) rfl (fun ls hl => ?_)
      refine lv_aload_n hx hb dL_law_309 rfl (lv_at hl 4 rfl) ?_
      refine k_V (As := []) (rest := []) S hK (c_X7_thrown l E (o + 477) z (w_th w (nI 1))) gL_law_X7_thrown rfl hd_X7_thrown ⟨rfl, rfl⟩ ⟨Nat.le_of_ble_eq_true rfl, Nat.le_of_ble_eq_true rfl⟩ (k_recv hK hV2.1 rfl) hV2 rfl hl.1 rfl (Nat.le_of_ble_eq_true rfl) dL_law_310 ⟨by show _ ≤ 601024; omega, by show _ ≤ 7293034; omega⟩ ?_
      refine k_top (y := nI 1) rfl ?_
      refine lv_iload hx hb dL_law_313 (lv_at hl 1 rfl) ?_
      refine n_ieq (tgt := 320) hx hb dL_law_315 (by decide) (by omega) (by omega) (fun c315 => ?_) (fun h => absurd h (by decide))
      refine lv_iload hx hb dL_law_320 (lv_at hl 1 rfl) ?_
      refine lv_if_ne (tgt := 337) hx hb dL_law_322 (by decide) (fun c322 => ?_) (fun h => absurd h (by decide))
      refine lv_goto (tgt := 1824) hx hb dL_law_337 (by decide) ?_
      refine W.widen (k := 484 + (j + 1)) (n := 5828 + 6*(j + 1)) (by omega) (by omega) ?_
      exact T z (w_th w (nI 1)) sn bn _ _ _ hPI (LI_mk hk1 hk4 hk5 hk6 hk0 hV2 hk3) hS (lv_sub hl [2, 3, 4, 5, 6] rfl)
    · refine lv_iconst (v := nI 1) hx hb dL_law_272 (by decide) ?_
      refine lv_goto (tgt := 277) hx hb dL_law_273 (by decide) ?_
      refine lv_aload_n hx hb dL_law_277 rfl (lv_at hl 3 rfl) ?_
      refine l_SW (As := [.ref o, .int (xs (4*j + 1)), .int (nI 1), .ref (o + 483)]) (rest := []) S hK hX9 hXh (y_L_recall_1 l hlS E (nb o) o z (xs (4*j + 1)) (nI 1) (o + 483) x9 hI g1 (by omega)) gL_law_L_recall rfl hd_L_recall ⟨rfl, rfl⟩ ⟨Nat.le_of_ble_eq_true rfl, Nat.le_of_ble_eq_true rfl⟩ ⟨hWG, hWQ, hWO⟩ rfl hl.1 rfl (Nat.le_of_ble_eq_true rfl) dL_law_278 ⟨by show _ ≤ 601024; omega, by show _ ≤ 7293034; omega⟩ hS (fun q h => by show o ≤ q; have := h.1; omega) (fun q h => by show o ≤ q; have := h.1; omega) (fun H locs hQ zH fH hS => ?_)
      have hR0 := hQ
      have hV1 := hR0
      have hk0 := bo_fr2 hWB (fun q hz hq => fH q hz (bl_ne hq (by omega)))
      have hk1 := gg_fr2 hWG (fun q hz hq => fH q hz (bl_ne hq (by omega)))
      have hk2 := md_fr2 hWM (fun q hz hq => fH q hz (bl_ne hq (by omega)))
      have hk4 := dz_fr2 hWQ (fun q hz hq => fH q hz (bl_ne hq (by omega)))
      have hk5 := tr_fr2 hWT (fun q hz hq => fH q hz (bl_ne hq (by omega)))
      have hk6 := hy_fr2 hWY (fun q hz hq => fH q hz (bl_ne hq (by omega)))
      refine lv_istore (lv' := [(5, .int (nI 1)), (0, .ref b), (1, .ref o), (2, .ref (o + 477)), (3, .ref (o + 483)), (4, .int (nI (4*j)))]) hx hb dL_law_281 hl (by decide) rfl (fun ls hl => ?_)
      refine lv_aload_n hx hb dL_law_283 rfl (lv_at hl 3 rfl) ?_
      refine lv_aload_n hx hb dL_law_284 rfl (lv_at hl 1 rfl) ?_
      refine lv_iload hx hb dL_law_285 (lv_at hl 5 rfl) ?_
      refine lv_iconst (v := nI 1) hx hb dL_law_287 (by decide) ?_
      refine n_iadd (n := 4*j + 1) hx hb dL_law_288 (by omega) ?_
      refine va_sld hx hb hX hbl hbA hS (vp_in_nI (by omega) (by omega)) dL_law_289 ?_
      refine k_top (y := xs (4*j + 1)) (by rw [nI_clamp (by omega)]) ?_
      refine lv_aload_n hx hb dL_law_290 rfl (lv_at hl 1 rfl) ?_
      refine lv_iload hx hb dL_law_291 (lv_at hl 5 rfl) ?_
      refine lv_iconst (v := nI 2) hx hb dL_law_293 (by decide) ?_
      refine n_iadd (n := 4*j + 2) hx hb dL_law_294 (by omega) ?_
      refine va_sld hx hb hX hbl hbA hS (vp_in_nI (by omega) (by omega)) dL_law_295 ?_
      refine k_top (y := xs (4*j + 2)) (by rw [nI_clamp (by omega)]) ?_
      refine lv_if_eq (tgt := 303) hx hb dL_law_296 (by decide) (fun h => absurd h c269) (fun c296 => ?_)
      refine lv_iconst (v := nI 1) hx hb dL_law_299 (by decide) ?_
      refine lv_goto (tgt := 304) hx hb dL_law_300 (by decide) ?_
      refine k_VM (As := [.int (xs (4*j + 1)), .int (nI 1)]) (rest := []) S hK (c_X7_recall_f1 l E (o + 477) z w (xs (4*j + 1)) (nI 1) hI g1) gL_law_X7_recall rfl hd_X7_recall ⟨rfl, rfl⟩ ⟨Nat.le_of_ble_eq_true rfl, Nat.le_of_ble_eq_true rfl⟩ (k_recv hK hk2.1 rfl) hk2 rfl hl.1 rfl (Nat.le_of_ble_eq_true rfl) dL_law_304 ⟨by show _ ≤ 601024; omega, by show _ ≤ 7293034; omega⟩ hS (fun q h => by show o ≤ q; have := h.1; omega) (fun q h => by show o ≤ q; have := h.1; omega) (fun H locs hQ zH fH hS => ?_)
      have hP := hQ
      have hV2 := hP
      have hk0 := bo_fr2 hk0 (fun q hz hq => fH q hz (bl_ne hq (by omega)))
      have hk1 := gg_fr2 hk1 (fun q hz hq => fH q hz (bl_ne hq (by omega)))
      have hk3 := la_fr2 hV1 (fun q hz hq => fH q hz (bl_ne hq (by omega)))
      have hk4 := dz_fr2 hk4 (fun q hz hq => fH q hz (bl_ne hq (by omega)))
      have hk5 := tr_fr2 hk5 (fun q hz hq => fH q hz (bl_ne hq (by omega)))
      have hk6 := hy_fr2 hk6 (fun q hz hq => fH q hz (bl_ne hq (by omega)))
      refine lv_istore (lv' := [(6, .int (nI 0)), (5, .int (nI 1)), (0, .ref b), (1, .ref o), (2, .ref (o + 477)), (3, .ref (o + 483)), (4, .int (nI (4*j)))]) hx hb dL_law_307 hl (by decide) rfl (fun ls hl => ?_)
      refine lv_aload_n hx hb dL_law_309 rfl (lv_at hl 4 rfl) ?_
      refine k_V (As := []) (rest := []) S hK (c_X7_thrown l E (o + 477) z (w_th w (nI 1))) gL_law_X7_thrown rfl hd_X7_thrown ⟨rfl, rfl⟩ ⟨Nat.le_of_ble_eq_true rfl, Nat.le_of_ble_eq_true rfl⟩ (k_recv hK hV2.1 rfl) hV2 rfl hl.1 rfl (Nat.le_of_ble_eq_true rfl) dL_law_310 ⟨by show _ ≤ 601024; omega, by show _ ≤ 7293034; omega⟩ ?_
      refine k_top (y := nI 1) rfl ?_
      refine lv_iload hx hb dL_law_313 (lv_at hl 1 rfl) ?_
      refine n_ieq (tgt := 320) hx hb dL_law_315 (by decide) (by omega) (by omega) (fun c315 => ?_) (fun h => absurd h (by decide))
      refine lv_iload hx hb dL_law_320 (lv_at hl 1 rfl) ?_
      refine lv_if_ne (tgt := 337) hx hb dL_law_322 (by decide) (fun c322 => ?_) (fun h => absurd h (by decide))
      refine lv_goto (tgt := 1824) hx hb dL_law_337 (by decide) ?_
      refine W.widen (k := 484 + (j + 1)) (n := 5828 + 6*(j + 1)) (by omega) (by omega) ?_
      exact T z (w_th w (nI 1)) sn bn _ _ _ hPI (LI_mk hk1 hk4 hk5 hk6 hk0 hV2 hk3) hS (lv_sub hl [2, 3, 4, 5, 6] rfl)
set_option maxHeartbeats 4000000 in
set_option maxRecDepth 100000 in
theorem law_2 {p : Program} {l : Launch} {e : Env} {s : State} {m : MethodId} {below : List Frame} {meth : Method} {c : Code} {E : ke_E} {b o L j : Nat} {xs : Nat → Int32} {Q : State → Prop} (C : LC9 p l s m c E b o L xs) (hj : 4*j + 4 ≤ L) (T : LT9 p l e s m below meth c E b o j Q) : ∀ (z : Nat → Int32) (w : md_w) (sn bn : Nat) (H : Heap) (locs : List Loc) (ls : Array Slot), PI9 z w sn bn → LI9 E o z w sn bn H → va_S (nb o) s.heap H locs → lv_has ls 9 [(0, .ref b), (1, .ref o), (2, .ref (o + 477)), (3, .ref (o + 483)), (4, .int (nI (4*j)))] → W p l e room_1 s m #[.ref b] below meth c H locs (484 + j) (5828 + 6*j) Q (F0 m 340 ls []) := by
  intro z w sn bn H locs ls hPI hLI hS hl
  obtain ⟨S, hlS, hK, hX9, hXh, hX, hbo, hsz9, hL⟩ := C
  have hx := S.1
  have hb := S.2.1
  have hts := S.2.2.2.2
  obtain ⟨hs, hsn, hbm, hbn, hk9, hrows⟩ := id hPI
  have hI := hk9.1
  have hJ := hk9.2.1
  have hpw := hk9.2.2
  have hc20 := iv_c hI
  obtain ⟨hWG, hWQ, hWT, hWY, hWB, hWM, x9, hWO⟩ := hLI
  have hbl : b < s.heap.size := by omega
  have hbA : ¬ nb o b := by show ¬ o ≤ b; omega
  by_cases g1 : inR (xs (4*j + 1)) 4
  · obtain ⟨v, hv, ev⟩ := g1
    by_cases g2 : inR (xs (4*j + 2)) 4
    · obtain ⟨k, hk, ek⟩ := g2
      by_cases g3 : nI 0 ≤ (xs (4*j + 3)) ∧ (xs (4*j + 3)) ≤ nI 100
      · refine lv_aload_n hx hb dL_law_340 rfl (lv_at hl 1 rfl) ?_
        refine lv_aload_n hx hb dL_law_341 rfl (lv_at hl 0 rfl) ?_
        refine lv_iload hx hb dL_law_342 (lv_at hl 4 rfl) ?_
        refine lv_iconst (v := nI 1) hx hb dL_law_344 (by decide) ?_
        refine n_iadd (n := 4*j + 1) hx hb dL_law_345 (by omega) ?_
        refine va_sld hx hb hX hbl hbA hS (vp_in_nI (by omega) (by omega)) dL_law_346 ?_
        refine k_top (y := nI v) (by rw [nI_clamp (by omega)]; exact ev) ?_
        refine lv_aload_n hx hb dL_law_347 rfl (lv_at hl 0 rfl) ?_
        refine lv_iload hx hb dL_law_348 (lv_at hl 4 rfl) ?_
        refine lv_iconst (v := nI 2) hx hb dL_law_350 (by decide) ?_
        refine n_iadd (n := 4*j + 2) hx hb dL_law_351 (by omega) ?_
        refine va_sld hx hb hX hbl hbA hS (vp_in_nI (by omega) (by omega)) dL_law_352 ?_
        refine k_top (y := nI k) (by rw [nI_clamp (by omega)]; exact ek) ?_
        refine lv_aload_n hx hb dL_law_353 rfl (lv_at hl 0 rfl) ?_
        refine lv_iload hx hb dL_law_354 (lv_at hl 4 rfl) ?_
        refine lv_iconst (v := nI 3) hx hb dL_law_356 (by decide) ?_
        refine n_iadd (n := 4*j + 3) hx hb dL_law_357 (by omega) ?_
        refine va_sld hx hb hX hbl hbA hS (vp_in_nI (by omega) (by omega)) dL_law_358 ?_
        refine k_top (y := xs (4*j + 3)) (by rw [nI_clamp (by omega)]) ?_
        refine lv_aload_n hx hb dL_law_359 rfl (lv_at hl 3 rfl) ?_
        refine l_SW (As := [.ref o, .int (nI v), .int (nI k), .int (xs (4*j + 3)), .ref (o + 483)]) (rest := []) S hK hX9 hXh (c_L_agree l hlS E (nb o) o z sn (q_rows w) bn (q_buf w) v k (xs (4*j + 3)) (o + 483) x9 hI hsn hv hk g3 (by omega)) gL_law_L_agree rfl hd_L_agree ⟨rfl, rfl⟩ ⟨Nat.le_of_ble_eq_true rfl, Nat.le_of_ble_eq_true rfl⟩ ⟨hWG, hWQ, hWT, hWY, hWB, hWO⟩ rfl hl.1 rfl (Nat.le_of_ble_eq_true rfl) dL_law_360 ⟨by show _ ≤ 601024; omega, by show _ ≤ 7293034; omega⟩ hS (fun q h => h.elim (fun h => by show o ≤ q; have := h.1; omega) (fun h => by show o ≤ q; have := h.1; omega)) (fun q h => h.elim (fun h => by show o ≤ q; have := h.1; omega) (fun h => by show o ≤ q; have := h.1; omega)) (fun H locs hQ zH fH hS => ?_)
        obtain ⟨hR0, hR1, hR2, hR3, hR4, hR5⟩ := hQ
        have hV1 := hR0
        have hV2 := hR1
        have hV3 := hR2
        have hV4 := hR3
        have hV5 := hR4
        have hV6 := hR5
        have hk2 := md_fr2 hWM (fun q hz hq => fH q hz (ow_ne hq (by omega)))
        refine lv_istore (lv' := [(5, .int (nI 0)), (0, .ref b), (1, .ref o), (2, .ref (o + 477)), (3, .ref (o + 483)), (4, .int (nI (4*j)))]) hx hb dL_law_363 hl (by decide) rfl (fun ls hl => ?_)
        refine lv_aload_n hx hb dL_law_365 rfl (lv_at hl 3 rfl) ?_
        refine lv_aload_n hx hb dL_law_366 rfl (lv_at hl 1 rfl) ?_
        refine lv_iload hx hb dL_law_367 (lv_at hl 5 rfl) ?_
        refine lv_iconst (v := nI 1) hx hb dL_law_369 (by decide) ?_
        refine n_iadd (n := 4*j + 1) hx hb dL_law_370 (by omega) ?_
        refine va_sld hx hb hX hbl hbA hS (vp_in_nI (by omega) (by omega)) dL_law_371 ?_
        refine k_top (y := nI v) (by rw [nI_clamp (by omega)]; exact ev) ?_
        refine lv_aload_n hx hb dL_law_372 rfl (lv_at hl 1 rfl) ?_
        refine lv_iload hx hb dL_law_373 (lv_at hl 5 rfl) ?_
        refine lv_iconst (v := nI 2) hx hb dL_law_375 (by decide) ?_
        refine n_iadd (n := 4*j + 2) hx hb dL_law_376 (by omega) ?_
        refine va_sld hx hb hX hbl hbA hS (vp_in_nI (by omega) (by omega)) dL_law_377 ?_
        refine k_top (y := nI k) (by rw [nI_clamp (by omega)]; exact ek) ?_
        refine lv_aload_n hx hb dL_law_378 rfl (lv_at hl 1 rfl) ?_
        refine lv_iload hx hb dL_law_379 (lv_at hl 5 rfl) ?_
        refine lv_iconst (v := nI 3) hx hb dL_law_381 (by decide) ?_
        refine n_iadd (n := 4*j + 3) hx hb dL_law_382 (by omega) ?_
        refine va_sld hx hb hX hbl hbA hS (vp_in_nI (by omega) (by omega)) dL_law_383 ?_
        refine k_top (y := xs (4*j + 3)) (by rw [nI_clamp (by omega)]) ?_
        refine k_VM (As := [.int (nI v), .int (nI k), .int (xs (4*j + 3))]) (rest := []) S hK (c_X7_agree l E (o + 477) z w v k (xs (4*j + 3)) sn hI hv hk g3 hs hsn) gL_law_X7_agree rfl hd_X7_agree ⟨rfl, rfl⟩ ⟨Nat.le_of_ble_eq_true rfl, Nat.le_of_ble_eq_true rfl⟩ (k_recv hK hk2.1 rfl) hk2 rfl hl.1 rfl (Nat.le_of_ble_eq_true rfl) dL_law_384 ⟨by show _ ≤ 601024; omega, by show _ ≤ 7293034; omega⟩ hS (fun q h => by show o ≤ q; have := h.1; omega) (fun q h => by show o ≤ q; have := h.1; omega) (fun H locs hQ zH fH hS => ?_)
        have hP := hQ
        have hV7 := hP
        have hk0 := bo_fr2 hV5 (fun q hz hq => fH q hz (bl_ne hq (by omega)))
        have hk1 := gg_fr2 hV1 (fun q hz hq => fH q hz (bl_ne hq (by omega)))
        have hk3 := la_fr2 hV6 (fun q hz hq => fH q hz (bl_ne hq (by omega)))
        have hk4 := dz_fr2 hV2 (fun q hz hq => fH q hz (bl_ne hq (by omega)))
        have hk5 := tr_fr2 hV3 (fun q hz hq => fH q hz (bl_ne hq (by omega)))
        have hk6 := hy_fr2 hV4 (fun q hz hq => fH q hz (bl_ne hq (by omega)))
        refine lv_istore (lv' := [(6, .int (z (8*v + k + 34))), (5, .int (nI 0)), (0, .ref b), (1, .ref o), (2, .ref (o + 477)), (3, .ref (o + 483)), (4, .int (nI (4*j)))]) hx hb dL_law_387 hl (by decide) rfl (fun ls hl => ?_)
        refine lv_aload_n hx hb dL_law_389 rfl (lv_at hl 4 rfl) ?_
        refine k_V (As := []) (rest := []) S hK (c_X7_thrown l E (o + 477) (agZ z v k (xs (4*j + 3))) (svW z (w_th w (nI 0)) sn)) gL_law_X7_thrown rfl hd_X7_thrown ⟨rfl, rfl⟩ ⟨Nat.le_of_ble_eq_true rfl, Nat.le_of_ble_eq_true rfl⟩ (k_recv hK hV7.1 rfl) hV7 rfl hl.1 rfl (Nat.le_of_ble_eq_true rfl) dL_law_390 ⟨by show _ ≤ 601024; omega, by show _ ≤ 7293034; omega⟩ ?_
        refine k_top (y := nI 0) rfl ?_
        refine lv_iload hx hb dL_law_393 (lv_at hl 1 rfl) ?_
        refine n_ieq (tgt := 400) hx hb dL_law_395 (by decide) (by omega) (by omega) (fun c395 => ?_) (fun h => absurd h (by decide))
        refine lv_iload hx hb dL_law_400 (lv_at hl 1 rfl) ?_
        refine lv_if_ne (tgt := 417) hx hb dL_law_402 (by decide) (fun h => absurd h (by decide)) (fun c402 => ?_)
        refine lv_aload_n hx hb dL_law_405 rfl (lv_at hl 5 rfl) ?_
        refine lv_iconst (v := nI 0) hx hb dL_law_406 (by decide) ?_
        refine l_lald hx hb hK hk3 dL_law_407 ?_
        refine lv_iload hx hb dL_law_408 (lv_at hl 0 rfl) ?_
        refine lv_i2l hx hb dL_law_410 rfl ?_
        refine l_lcmp hx hb dL_law_411 ?_
        refine lv_if_eq (tgt := 417) hx hb dL_law_412 (by decide) (fun c412 => ?_) (fun h => absurd h (by decide))
        refine lv_goto (tgt := 1824) hx hb dL_law_417 (by decide) ?_
        refine W.widen (k := 484 + (j + 1)) (n := 5828 + 6*(j + 1)) (by omega) (by omega) ?_
        exact T (agZ z v k (xs (4*j + 3))) (svW z (w_th w (nI 0)) sn) (svN sn) bn _ _ _ (PI_sv hPI ⟨iv_ag9 hI hv hk g3, kw_ag hv hk hk9.2⟩ rfl rfl hbm hbn) (LI_mk hk1 hk4 hk5 hk6 hk0 hV7 hk3) hS (lv_sub hl [2, 3, 4, 5, 6] rfl)
      · refine lv_aload_n hx hb dL_law_340 rfl (lv_at hl 1 rfl) ?_
        refine lv_aload_n hx hb dL_law_341 rfl (lv_at hl 0 rfl) ?_
        refine lv_iload hx hb dL_law_342 (lv_at hl 4 rfl) ?_
        refine lv_iconst (v := nI 1) hx hb dL_law_344 (by decide) ?_
        refine n_iadd (n := 4*j + 1) hx hb dL_law_345 (by omega) ?_
        refine va_sld hx hb hX hbl hbA hS (vp_in_nI (by omega) (by omega)) dL_law_346 ?_
        refine k_top (y := nI v) (by rw [nI_clamp (by omega)]; exact ev) ?_
        refine lv_aload_n hx hb dL_law_347 rfl (lv_at hl 0 rfl) ?_
        refine lv_iload hx hb dL_law_348 (lv_at hl 4 rfl) ?_
        refine lv_iconst (v := nI 2) hx hb dL_law_350 (by decide) ?_
        refine n_iadd (n := 4*j + 2) hx hb dL_law_351 (by omega) ?_
        refine va_sld hx hb hX hbl hbA hS (vp_in_nI (by omega) (by omega)) dL_law_352 ?_
        refine k_top (y := nI k) (by rw [nI_clamp (by omega)]; exact ek) ?_
        refine lv_aload_n hx hb dL_law_353 rfl (lv_at hl 0 rfl) ?_
        refine lv_iload hx hb dL_law_354 (lv_at hl 4 rfl) ?_
        refine lv_iconst (v := nI 3) hx hb dL_law_356 (by decide) ?_
        refine n_iadd (n := 4*j + 3) hx hb dL_law_357 (by omega) ?_
        refine va_sld hx hb hX hbl hbA hS (vp_in_nI (by omega) (by omega)) dL_law_358 ?_
        refine k_top (y := xs (4*j + 3)) (by rw [nI_clamp (by omega)]) ?_
        refine lv_aload_n hx hb dL_law_359 rfl (lv_at hl 3 rfl) ?_
        refine l_SW (As := [.ref o, .int (nI v), .int (nI k), .int (xs (4*j + 3)), .ref (o + 483)]) (rest := []) S hK hX9 hXh (y_L_agree_3 l hlS E (nb o) o z v k (xs (4*j + 3)) (o + 483) x9 hI hv hk g3 (by omega)) gL_law_L_agree rfl hd_L_agree ⟨rfl, rfl⟩ ⟨Nat.le_of_ble_eq_true rfl, Nat.le_of_ble_eq_true rfl⟩ ⟨hWG, hWQ, hWO⟩ rfl hl.1 rfl (Nat.le_of_ble_eq_true rfl) dL_law_360 ⟨by show _ ≤ 601024; omega, by show _ ≤ 7293034; omega⟩ hS (fun q h => by show o ≤ q; have := h.1; omega) (fun q h => by show o ≤ q; have := h.1; omega) (fun H locs hQ zH fH hS => ?_)
        have hR0 := hQ
        have hV1 := hR0
        have hk0 := bo_fr2 hWB (fun q hz hq => fH q hz (bl_ne hq (by omega)))
        have hk1 := gg_fr2 hWG (fun q hz hq => fH q hz (bl_ne hq (by omega)))
        have hk2 := md_fr2 hWM (fun q hz hq => fH q hz (bl_ne hq (by omega)))
        have hk4 := dz_fr2 hWQ (fun q hz hq => fH q hz (bl_ne hq (by omega)))
        have hk5 := tr_fr2 hWT (fun q hz hq => fH q hz (bl_ne hq (by omega)))
        have hk6 := hy_fr2 hWY (fun q hz hq => fH q hz (bl_ne hq (by omega)))
        refine lv_istore (lv' := [(5, .int (nI 2)), (0, .ref b), (1, .ref o), (2, .ref (o + 477)), (3, .ref (o + 483)), (4, .int (nI (4*j)))]) hx hb dL_law_363 hl (by decide) rfl (fun ls hl => ?_)
        refine lv_aload_n hx hb dL_law_365 rfl (lv_at hl 3 rfl) ?_
        refine lv_aload_n hx hb dL_law_366 rfl (lv_at hl 1 rfl) ?_
        refine lv_iload hx hb dL_law_367 (lv_at hl 5 rfl) ?_
        refine lv_iconst (v := nI 1) hx hb dL_law_369 (by decide) ?_
        refine n_iadd (n := 4*j + 1) hx hb dL_law_370 (by omega) ?_
        refine va_sld hx hb hX hbl hbA hS (vp_in_nI (by omega) (by omega)) dL_law_371 ?_
        refine k_top (y := nI v) (by rw [nI_clamp (by omega)]; exact ev) ?_
        refine lv_aload_n hx hb dL_law_372 rfl (lv_at hl 1 rfl) ?_
        refine lv_iload hx hb dL_law_373 (lv_at hl 5 rfl) ?_
        refine lv_iconst (v := nI 2) hx hb dL_law_375 (by decide) ?_
        refine n_iadd (n := 4*j + 2) hx hb dL_law_376 (by omega) ?_
        refine va_sld hx hb hX hbl hbA hS (vp_in_nI (by omega) (by omega)) dL_law_377 ?_
        refine k_top (y := nI k) (by rw [nI_clamp (by omega)]; exact ek) ?_
        refine lv_aload_n hx hb dL_law_378 rfl (lv_at hl 1 rfl) ?_
        refine lv_iload hx hb dL_law_379 (lv_at hl 5 rfl) ?_
        refine lv_iconst (v := nI 3) hx hb dL_law_381 (by decide) ?_
        refine n_iadd (n := 4*j + 3) hx hb dL_law_382 (by omega) ?_
        refine va_sld hx hb hX hbl hbA hS (vp_in_nI (by omega) (by omega)) dL_law_383 ?_
        refine k_top (y := xs (4*j + 3)) (by rw [nI_clamp (by omega)]) ?_
        refine k_VM (As := [.int (nI v), .int (nI k), .int (xs (4*j + 3))]) (rest := []) S hK (c_X7_agree_f3 l E (o + 477) z w v k (xs (4*j + 3)) hI hv hk g3) gL_law_X7_agree rfl hd_X7_agree ⟨rfl, rfl⟩ ⟨Nat.le_of_ble_eq_true rfl, Nat.le_of_ble_eq_true rfl⟩ (k_recv hK hk2.1 rfl) hk2 rfl hl.1 rfl (Nat.le_of_ble_eq_true rfl) dL_law_384 ⟨by show _ ≤ 601024; omega, by show _ ≤ 7293034; omega⟩ hS (fun q h => by show o ≤ q; have := h.1; omega) (fun q h => by show o ≤ q; have := h.1; omega) (fun H locs hQ zH fH hS => ?_)
        have hP := hQ
        have hV2 := hP
        have hk0 := bo_fr2 hk0 (fun q hz hq => fH q hz (bl_ne hq (by omega)))
        have hk1 := gg_fr2 hk1 (fun q hz hq => fH q hz (bl_ne hq (by omega)))
        have hk3 := la_fr2 hV1 (fun q hz hq => fH q hz (bl_ne hq (by omega)))
        have hk4 := dz_fr2 hk4 (fun q hz hq => fH q hz (bl_ne hq (by omega)))
        have hk5 := tr_fr2 hk5 (fun q hz hq => fH q hz (bl_ne hq (by omega)))
        have hk6 := hy_fr2 hk6 (fun q hz hq => fH q hz (bl_ne hq (by omega)))
        refine lv_istore (lv' := [(6, .int (nI 0)), (5, .int (nI 2)), (0, .ref b), (1, .ref o), (2, .ref (o + 477)), (3, .ref (o + 483)), (4, .int (nI (4*j)))]) hx hb dL_law_387 hl (by decide) rfl (fun ls hl => ?_)
        refine lv_aload_n hx hb dL_law_389 rfl (lv_at hl 4 rfl) ?_
        refine k_V (As := []) (rest := []) S hK (c_X7_thrown l E (o + 477) z (w_th w (nI 2))) gL_law_X7_thrown rfl hd_X7_thrown ⟨rfl, rfl⟩ ⟨Nat.le_of_ble_eq_true rfl, Nat.le_of_ble_eq_true rfl⟩ (k_recv hK hV2.1 rfl) hV2 rfl hl.1 rfl (Nat.le_of_ble_eq_true rfl) dL_law_390 ⟨by show _ ≤ 601024; omega, by show _ ≤ 7293034; omega⟩ ?_
        refine k_top (y := nI 2) rfl ?_
        refine lv_iload hx hb dL_law_393 (lv_at hl 1 rfl) ?_
        refine n_ieq (tgt := 400) hx hb dL_law_395 (by decide) (by omega) (by omega) (fun c395 => ?_) (fun h => absurd h (by decide))
        refine lv_iload hx hb dL_law_400 (lv_at hl 1 rfl) ?_
        refine lv_if_ne (tgt := 417) hx hb dL_law_402 (by decide) (fun c402 => ?_) (fun h => absurd h (by decide))
        refine lv_goto (tgt := 1824) hx hb dL_law_417 (by decide) ?_
        refine W.widen (k := 484 + (j + 1)) (n := 5828 + 6*(j + 1)) (by omega) (by omega) ?_
        exact T z (w_th w (nI 2)) sn bn _ _ _ hPI (LI_mk hk1 hk4 hk5 hk6 hk0 hV2 hk3) hS (lv_sub hl [2, 3, 4, 5, 6] rfl)
    · refine lv_aload_n hx hb dL_law_340 rfl (lv_at hl 1 rfl) ?_
      refine lv_aload_n hx hb dL_law_341 rfl (lv_at hl 0 rfl) ?_
      refine lv_iload hx hb dL_law_342 (lv_at hl 4 rfl) ?_
      refine lv_iconst (v := nI 1) hx hb dL_law_344 (by decide) ?_
      refine n_iadd (n := 4*j + 1) hx hb dL_law_345 (by omega) ?_
      refine va_sld hx hb hX hbl hbA hS (vp_in_nI (by omega) (by omega)) dL_law_346 ?_
      refine k_top (y := nI v) (by rw [nI_clamp (by omega)]; exact ev) ?_
      refine lv_aload_n hx hb dL_law_347 rfl (lv_at hl 0 rfl) ?_
      refine lv_iload hx hb dL_law_348 (lv_at hl 4 rfl) ?_
      refine lv_iconst (v := nI 2) hx hb dL_law_350 (by decide) ?_
      refine n_iadd (n := 4*j + 2) hx hb dL_law_351 (by omega) ?_
      refine va_sld hx hb hX hbl hbA hS (vp_in_nI (by omega) (by omega)) dL_law_352 ?_
      refine k_top (y := xs (4*j + 2)) (by rw [nI_clamp (by omega)]) ?_
      refine lv_aload_n hx hb dL_law_353 rfl (lv_at hl 0 rfl) ?_
      refine lv_iload hx hb dL_law_354 (lv_at hl 4 rfl) ?_
      refine lv_iconst (v := nI 3) hx hb dL_law_356 (by decide) ?_
      refine n_iadd (n := 4*j + 3) hx hb dL_law_357 (by omega) ?_
      refine va_sld hx hb hX hbl hbA hS (vp_in_nI (by omega) (by omega)) dL_law_358 ?_
      refine k_top (y := xs (4*j + 3)) (by rw [nI_clamp (by omega)]) ?_
      refine lv_aload_n hx hb dL_law_359 rfl (lv_at hl 3 rfl) ?_
      refine l_SW (As := [.ref o, .int (nI v), .int (xs (4*j + 2)), .int (xs (4*j + 3)), .ref (o + 483)]) (rest := []) S hK hX9 hXh (y_L_agree_2 l hlS E (nb o) o z v (xs (4*j + 2)) (xs (4*j + 3)) (o + 483) x9 hI hv g2 (by omega)) gL_law_L_agree rfl hd_L_agree ⟨rfl, rfl⟩ ⟨Nat.le_of_ble_eq_true rfl, Nat.le_of_ble_eq_true rfl⟩ ⟨hWG, hWQ, hWO⟩ rfl hl.1 rfl (Nat.le_of_ble_eq_true rfl) dL_law_360 ⟨by show _ ≤ 601024; omega, by show _ ≤ 7293034; omega⟩ hS (fun q h => by show o ≤ q; have := h.1; omega) (fun q h => by show o ≤ q; have := h.1; omega) (fun H locs hQ zH fH hS => ?_)
      have hR0 := hQ
      have hV1 := hR0
      have hk0 := bo_fr2 hWB (fun q hz hq => fH q hz (bl_ne hq (by omega)))
      have hk1 := gg_fr2 hWG (fun q hz hq => fH q hz (bl_ne hq (by omega)))
      have hk2 := md_fr2 hWM (fun q hz hq => fH q hz (bl_ne hq (by omega)))
      have hk4 := dz_fr2 hWQ (fun q hz hq => fH q hz (bl_ne hq (by omega)))
      have hk5 := tr_fr2 hWT (fun q hz hq => fH q hz (bl_ne hq (by omega)))
      have hk6 := hy_fr2 hWY (fun q hz hq => fH q hz (bl_ne hq (by omega)))
      refine lv_istore (lv' := [(5, .int (nI 1)), (0, .ref b), (1, .ref o), (2, .ref (o + 477)), (3, .ref (o + 483)), (4, .int (nI (4*j)))]) hx hb dL_law_363 hl (by decide) rfl (fun ls hl => ?_)
      refine lv_aload_n hx hb dL_law_365 rfl (lv_at hl 3 rfl) ?_
      refine lv_aload_n hx hb dL_law_366 rfl (lv_at hl 1 rfl) ?_
      refine lv_iload hx hb dL_law_367 (lv_at hl 5 rfl) ?_
      refine lv_iconst (v := nI 1) hx hb dL_law_369 (by decide) ?_
      refine n_iadd (n := 4*j + 1) hx hb dL_law_370 (by omega) ?_
      refine va_sld hx hb hX hbl hbA hS (vp_in_nI (by omega) (by omega)) dL_law_371 ?_
      refine k_top (y := nI v) (by rw [nI_clamp (by omega)]; exact ev) ?_
      refine lv_aload_n hx hb dL_law_372 rfl (lv_at hl 1 rfl) ?_
      refine lv_iload hx hb dL_law_373 (lv_at hl 5 rfl) ?_
      refine lv_iconst (v := nI 2) hx hb dL_law_375 (by decide) ?_
      refine n_iadd (n := 4*j + 2) hx hb dL_law_376 (by omega) ?_
      refine va_sld hx hb hX hbl hbA hS (vp_in_nI (by omega) (by omega)) dL_law_377 ?_
      refine k_top (y := xs (4*j + 2)) (by rw [nI_clamp (by omega)]) ?_
      refine lv_aload_n hx hb dL_law_378 rfl (lv_at hl 1 rfl) ?_
      refine lv_iload hx hb dL_law_379 (lv_at hl 5 rfl) ?_
      refine lv_iconst (v := nI 3) hx hb dL_law_381 (by decide) ?_
      refine n_iadd (n := 4*j + 3) hx hb dL_law_382 (by omega) ?_
      refine va_sld hx hb hX hbl hbA hS (vp_in_nI (by omega) (by omega)) dL_law_383 ?_
      refine k_top (y := xs (4*j + 3)) (by rw [nI_clamp (by omega)]) ?_
      refine k_VM (As := [.int (nI v), .int (xs (4*j + 2)), .int (xs (4*j + 3))]) (rest := []) S hK (c_X7_agree_f2 l E (o + 477) z w v (xs (4*j + 2)) (xs (4*j + 3)) hI hv g2) gL_law_X7_agree rfl hd_X7_agree ⟨rfl, rfl⟩ ⟨Nat.le_of_ble_eq_true rfl, Nat.le_of_ble_eq_true rfl⟩ (k_recv hK hk2.1 rfl) hk2 rfl hl.1 rfl (Nat.le_of_ble_eq_true rfl) dL_law_384 ⟨by show _ ≤ 601024; omega, by show _ ≤ 7293034; omega⟩ hS (fun q h => by show o ≤ q; have := h.1; omega) (fun q h => by show o ≤ q; have := h.1; omega) (fun H locs hQ zH fH hS => ?_)
      have hP := hQ
      have hV2 := hP
      have hk0 := bo_fr2 hk0 (fun q hz hq => fH q hz (bl_ne hq (by omega)))
      have hk1 := gg_fr2 hk1 (fun q hz hq => fH q hz (bl_ne hq (by omega)))
      have hk3 := la_fr2 hV1 (fun q hz hq => fH q hz (bl_ne hq (by omega)))
      have hk4 := dz_fr2 hk4 (fun q hz hq => fH q hz (bl_ne hq (by omega)))
      have hk5 := tr_fr2 hk5 (fun q hz hq => fH q hz (bl_ne hq (by omega)))
      have hk6 := hy_fr2 hk6 (fun q hz hq => fH q hz (bl_ne hq (by omega)))
      refine lv_istore (lv' := [(6, .int (nI 0)), (5, .int (nI 1)), (0, .ref b), (1, .ref o), (2, .ref (o + 477)), (3, .ref (o + 483)), (4, .int (nI (4*j)))]) hx hb dL_law_387 hl (by decide) rfl (fun ls hl => ?_)
      refine lv_aload_n hx hb dL_law_389 rfl (lv_at hl 4 rfl) ?_
      refine k_V (As := []) (rest := []) S hK (c_X7_thrown l E (o + 477) z (w_th w (nI 1))) gL_law_X7_thrown rfl hd_X7_thrown ⟨rfl, rfl⟩ ⟨Nat.le_of_ble_eq_true rfl, Nat.le_of_ble_eq_true rfl⟩ (k_recv hK hV2.1 rfl) hV2 rfl hl.1 rfl (Nat.le_of_ble_eq_true rfl) dL_law_390 ⟨by show _ ≤ 601024; omega, by show _ ≤ 7293034; omega⟩ ?_
      refine k_top (y := nI 1) rfl ?_
      refine lv_iload hx hb dL_law_393 (lv_at hl 1 rfl) ?_
      refine n_ieq (tgt := 400) hx hb dL_law_395 (by decide) (by omega) (by omega) (fun c395 => ?_) (fun h => absurd h (by decide))
      refine lv_iload hx hb dL_law_400 (lv_at hl 1 rfl) ?_
      refine lv_if_ne (tgt := 417) hx hb dL_law_402 (by decide) (fun c402 => ?_) (fun h => absurd h (by decide))
      refine lv_goto (tgt := 1824) hx hb dL_law_417 (by decide) ?_
      refine W.widen (k := 484 + (j + 1)) (n := 5828 + 6*(j + 1)) (by omega) (by omega) ?_
      exact T z (w_th w (nI 1)) sn bn _ _ _ hPI (LI_mk hk1 hk4 hk5 hk6 hk0 hV2 hk3) hS (lv_sub hl [2, 3, 4, 5, 6] rfl)
  · refine lv_aload_n hx hb dL_law_340 rfl (lv_at hl 1 rfl) ?_
    refine lv_aload_n hx hb dL_law_341 rfl (lv_at hl 0 rfl) ?_
    refine lv_iload hx hb dL_law_342 (lv_at hl 4 rfl) ?_
    refine lv_iconst (v := nI 1) hx hb dL_law_344 (by decide) ?_
    refine n_iadd (n := 4*j + 1) hx hb dL_law_345 (by omega) ?_
    refine va_sld hx hb hX hbl hbA hS (vp_in_nI (by omega) (by omega)) dL_law_346 ?_
    refine k_top (y := xs (4*j + 1)) (by rw [nI_clamp (by omega)]) ?_
    refine lv_aload_n hx hb dL_law_347 rfl (lv_at hl 0 rfl) ?_
    refine lv_iload hx hb dL_law_348 (lv_at hl 4 rfl) ?_
    refine lv_iconst (v := nI 2) hx hb dL_law_350 (by decide) ?_
    refine n_iadd (n := 4*j + 2) hx hb dL_law_351 (by omega) ?_
    refine va_sld hx hb hX hbl hbA hS (vp_in_nI (by omega) (by omega)) dL_law_352 ?_
    refine k_top (y := xs (4*j + 2)) (by rw [nI_clamp (by omega)]) ?_
    refine lv_aload_n hx hb dL_law_353 rfl (lv_at hl 0 rfl) ?_
    refine lv_iload hx hb dL_law_354 (lv_at hl 4 rfl) ?_
    refine lv_iconst (v := nI 3) hx hb dL_law_356 (by decide) ?_
    refine n_iadd (n := 4*j + 3) hx hb dL_law_357 (by omega) ?_
    refine va_sld hx hb hX hbl hbA hS (vp_in_nI (by omega) (by omega)) dL_law_358 ?_
    refine k_top (y := xs (4*j + 3)) (by rw [nI_clamp (by omega)]) ?_
    refine lv_aload_n hx hb dL_law_359 rfl (lv_at hl 3 rfl) ?_
    refine l_SW (As := [.ref o, .int (xs (4*j + 1)), .int (xs (4*j + 2)), .int (xs (4*j + 3)), .ref (o + 483)]) (rest := []) S hK hX9 hXh (y_L_agree_1 l hlS E (nb o) o z (xs (4*j + 1)) (xs (4*j + 2)) (xs (4*j + 3)) (o + 483) x9 hI g1 (by omega)) gL_law_L_agree rfl hd_L_agree ⟨rfl, rfl⟩ ⟨Nat.le_of_ble_eq_true rfl, Nat.le_of_ble_eq_true rfl⟩ ⟨hWG, hWQ, hWO⟩ rfl hl.1 rfl (Nat.le_of_ble_eq_true rfl) dL_law_360 ⟨by show _ ≤ 601024; omega, by show _ ≤ 7293034; omega⟩ hS (fun q h => by show o ≤ q; have := h.1; omega) (fun q h => by show o ≤ q; have := h.1; omega) (fun H locs hQ zH fH hS => ?_)
    have hR0 := hQ
    have hV1 := hR0
    have hk0 := bo_fr2 hWB (fun q hz hq => fH q hz (bl_ne hq (by omega)))
    have hk1 := gg_fr2 hWG (fun q hz hq => fH q hz (bl_ne hq (by omega)))
    have hk2 := md_fr2 hWM (fun q hz hq => fH q hz (bl_ne hq (by omega)))
    have hk4 := dz_fr2 hWQ (fun q hz hq => fH q hz (bl_ne hq (by omega)))
    have hk5 := tr_fr2 hWT (fun q hz hq => fH q hz (bl_ne hq (by omega)))
    have hk6 := hy_fr2 hWY (fun q hz hq => fH q hz (bl_ne hq (by omega)))
    refine lv_istore (lv' := [(5, .int (nI 1)), (0, .ref b), (1, .ref o), (2, .ref (o + 477)), (3, .ref (o + 483)), (4, .int (nI (4*j)))]) hx hb dL_law_363 hl (by decide) rfl (fun ls hl => ?_)
    refine lv_aload_n hx hb dL_law_365 rfl (lv_at hl 3 rfl) ?_
    refine lv_aload_n hx hb dL_law_366 rfl (lv_at hl 1 rfl) ?_
    refine lv_iload hx hb dL_law_367 (lv_at hl 5 rfl) ?_
    refine lv_iconst (v := nI 1) hx hb dL_law_369 (by decide) ?_
    refine n_iadd (n := 4*j + 1) hx hb dL_law_370 (by omega) ?_
    refine va_sld hx hb hX hbl hbA hS (vp_in_nI (by omega) (by omega)) dL_law_371 ?_
    refine k_top (y := xs (4*j + 1)) (by rw [nI_clamp (by omega)]) ?_
    refine lv_aload_n hx hb dL_law_372 rfl (lv_at hl 1 rfl) ?_
    refine lv_iload hx hb dL_law_373 (lv_at hl 5 rfl) ?_
    refine lv_iconst (v := nI 2) hx hb dL_law_375 (by decide) ?_
    refine n_iadd (n := 4*j + 2) hx hb dL_law_376 (by omega) ?_
    refine va_sld hx hb hX hbl hbA hS (vp_in_nI (by omega) (by omega)) dL_law_377 ?_
    refine k_top (y := xs (4*j + 2)) (by rw [nI_clamp (by omega)]) ?_
    refine lv_aload_n hx hb dL_law_378 rfl (lv_at hl 1 rfl) ?_
    refine lv_iload hx hb dL_law_379 (lv_at hl 5 rfl) ?_
    refine lv_iconst (v := nI 3) hx hb dL_law_381 (by decide) ?_
    refine n_iadd (n := 4*j + 3) hx hb dL_law_382 (by omega) ?_
    refine va_sld hx hb hX hbl hbA hS (vp_in_nI (by omega) (by omega)) dL_law_383 ?_
    refine k_top (y := xs (4*j + 3)) (by rw [nI_clamp (by omega)]) ?_
    refine k_VM (As := [.int (xs (4*j + 1)), .int (xs (4*j + 2)), .int (xs (4*j + 3))]) (rest := []) S hK (c_X7_agree_f1 l E (o + 477) z w (xs (4*j + 1)) (xs (4*j + 2)) (xs (4*j + 3)) hI g1) gL_law_X7_agree rfl hd_X7_agree ⟨rfl, rfl⟩ ⟨Nat.le_of_ble_eq_true rfl, Nat.le_of_ble_eq_true rfl⟩ (k_recv hK hk2.1 rfl) hk2 rfl hl.1 rfl (Nat.le_of_ble_eq_true rfl) dL_law_384 ⟨by show _ ≤ 601024; omega, by show _ ≤ 7293034; omega⟩ hS (fun q h => by show o ≤ q; have := h.1; omega) (fun q h => by show o ≤ q; have := h.1; omega) (fun H locs hQ zH fH hS => ?_)
    have hP := hQ
    have hV2 := hP
    have hk0 := bo_fr2 hk0 (fun q hz hq => fH q hz (bl_ne hq (by omega)))
    have hk1 := gg_fr2 hk1 (fun q hz hq => fH q hz (bl_ne hq (by omega)))
    have hk3 := la_fr2 hV1 (fun q hz hq => fH q hz (bl_ne hq (by omega)))
    have hk4 := dz_fr2 hk4 (fun q hz hq => fH q hz (bl_ne hq (by omega)))
    have hk5 := tr_fr2 hk5 (fun q hz hq => fH q hz (bl_ne hq (by omega)))
    have hk6 := hy_fr2 hk6 (fun q hz hq => fH q hz (bl_ne hq (by omega)))
    refine lv_istore (lv' := [(6, .int (nI 0)), (5, .int (nI 1)), (0, .ref b), (1, .ref o), (2, .ref (o + 477)), (3, .ref (o + 483)), (4, .int (nI (4*j)))]) hx hb dL_law_387 hl (by decide) rfl (fun ls hl => ?_)
    refine lv_aload_n hx hb dL_law_389 rfl (lv_at hl 4 rfl) ?_
    refine k_V (As := []) (rest := []) S hK (c_X7_thrown l E (o + 477) z (w_th w (nI 1))) gL_law_X7_thrown rfl hd_X7_thrown ⟨rfl, rfl⟩ ⟨Nat.le_of_ble_eq_true rfl, Nat.le_of_ble_eq_true rfl⟩ (k_recv hK hV2.1 rfl) hV2 rfl hl.1 rfl (Nat.le_of_ble_eq_true rfl) dL_law_390 ⟨by show _ ≤ 601024; omega, by show _ ≤ 7293034; omega⟩ ?_
    refine k_top (y := nI 1) rfl ?_
    refine lv_iload hx hb dL_law_393 (lv_at hl 1 rfl) ?_
    refine n_ieq (tgt := 400) hx hb dL_law_395 (by decide) (by omega) (by omega) (fun c395 => ?_) (fun h => absurd h (by decide))
    refine lv_iload hx hb dL_law_400 (lv_at hl 1 rfl) ?_
    refine lv_if_ne (tgt := 417) hx hb dL_law_402 (by decide) (fun c402 => ?_) (fun h => absurd h (by decide))
    refine lv_goto (tgt := 1824) hx hb dL_law_417 (by decide) ?_
    refine W.widen (k := 484 + (j + 1)) (n := 5828 + 6*(j + 1)) (by omega) (by omega) ?_
    exact T z (w_th w (nI 1)) sn bn _ _ _ hPI (LI_mk hk1 hk4 hk5 hk6 hk0 hV2 hk3) hS (lv_sub hl [2, 3, 4, 5, 6] rfl)
set_option maxHeartbeats 4000000 in
set_option maxRecDepth 100000 in
theorem law_3 {p : Program} {l : Launch} {e : Env} {s : State} {m : MethodId} {below : List Frame} {meth : Method} {c : Code} {E : ke_E} {b o L j : Nat} {xs : Nat → Int32} {Q : State → Prop} (C : LC9 p l s m c E b o L xs) (hj : 4*j + 4 ≤ L) (T : LT9 p l e s m below meth c E b o j Q) : ∀ (z : Nat → Int32) (w : md_w) (sn bn : Nat) (H : Heap) (locs : List Loc) (ls : Array Slot), PI9 z w sn bn → LI9 E o z w sn bn H → va_S (nb o) s.heap H locs → lv_has ls 9 [(0, .ref b), (1, .ref o), (2, .ref (o + 477)), (3, .ref (o + 483)), (4, .int (nI (4*j)))] → W p l e room_1 s m #[.ref b] below meth c H locs (484 + j) (5828 + 6*j) Q (F0 m 420 ls []) := by
  intro z w sn bn H locs ls hPI hLI hS hl
  obtain ⟨S, hlS, hK, hX9, hXh, hX, hbo, hsz9, hL⟩ := C
  have hx := S.1
  have hb := S.2.1
  have hts := S.2.2.2.2
  obtain ⟨hs, hsn, hbm, hbn, hk9, hrows⟩ := id hPI
  have hI := hk9.1
  have hJ := hk9.2.1
  have hpw := hk9.2.2
  have hc20 := iv_c hI
  obtain ⟨hWG, hWQ, hWT, hWY, hWB, hWM, x9, hWO⟩ := hLI
  have hbl : b < s.heap.size := by omega
  have hbA : ¬ nb o b := by show ¬ o ≤ b; omega
  by_cases g1 : inR (xs (4*j + 1)) 4
  · obtain ⟨v, hv, ev⟩ := g1
    by_cases g2 : nI 0 ≤ (xs (4*j + 2)) ∧ (xs (4*j + 2)) ≤ nI 99999
    · refine lv_aload_n hx hb dL_law_420 rfl (lv_at hl 1 rfl) ?_
      refine lv_aload_n hx hb dL_law_421 rfl (lv_at hl 0 rfl) ?_
      refine lv_iload hx hb dL_law_422 (lv_at hl 4 rfl) ?_
      refine lv_iconst (v := nI 1) hx hb dL_law_424 (by decide) ?_
      refine n_iadd (n := 4*j + 1) hx hb dL_law_425 (by omega) ?_
      refine va_sld hx hb hX hbl hbA hS (vp_in_nI (by omega) (by omega)) dL_law_426 ?_
      refine k_top (y := nI v) (by rw [nI_clamp (by omega)]; exact ev) ?_
      refine lv_aload_n hx hb dL_law_427 rfl (lv_at hl 0 rfl) ?_
      refine lv_iload hx hb dL_law_428 (lv_at hl 4 rfl) ?_
      refine lv_iconst (v := nI 2) hx hb dL_law_430 (by decide) ?_
      refine n_iadd (n := 4*j + 2) hx hb dL_law_431 (by omega) ?_
      refine va_sld hx hb hX hbl hbA hS (vp_in_nI (by omega) (by omega)) dL_law_432 ?_
      refine k_top (y := xs (4*j + 2)) (by rw [nI_clamp (by omega)]) ?_
      refine lv_aload_n hx hb dL_law_433 rfl (lv_at hl 3 rfl) ?_
      refine l_SW (As := [.ref o, .int (nI v), .int (xs (4*j + 2)), .ref (o + 483)]) (rest := []) S hK hX9 hXh (c_L_limit l hlS E (nb o) o z sn (q_rows w) bn (q_buf w) v (xs (4*j + 2)) (o + 483) x9 hI hsn hv g2 (by omega)) gL_law_L_limit rfl hd_L_limit ⟨rfl, rfl⟩ ⟨Nat.le_of_ble_eq_true rfl, Nat.le_of_ble_eq_true rfl⟩ ⟨hWG, hWQ, hWT, hWY, hWB, hWO⟩ rfl hl.1 rfl (Nat.le_of_ble_eq_true rfl) dL_law_434 ⟨by show _ ≤ 601024; omega, by show _ ≤ 7293034; omega⟩ hS (fun q h => h.elim (fun h => by show o ≤ q; have := h.1; omega) (fun h => by show o ≤ q; have := h.1; omega)) (fun q h => h.elim (fun h => by show o ≤ q; have := h.1; omega) (fun h => by show o ≤ q; have := h.1; omega)) (fun H locs hQ zH fH hS => ?_)
      obtain ⟨hR0, hR1, hR2, hR3, hR4, hR5⟩ := hQ
      have hV1 := hR0
      have hV2 := hR1
      have hV3 := hR2
      have hV4 := hR3
      have hV5 := hR4
      have hV6 := hR5
      have hk2 := md_fr2 hWM (fun q hz hq => fH q hz (ow_ne hq (by omega)))
      refine lv_istore (lv' := [(5, .int (nI 0)), (0, .ref b), (1, .ref o), (2, .ref (o + 477)), (3, .ref (o + 483)), (4, .int (nI (4*j)))]) hx hb dL_law_437 hl (by decide) rfl (fun ls hl => ?_)
      refine lv_aload_n hx hb dL_law_439 rfl (lv_at hl 3 rfl) ?_
      refine lv_aload_n hx hb dL_law_440 rfl (lv_at hl 1 rfl) ?_
      refine lv_iload hx hb dL_law_441 (lv_at hl 5 rfl) ?_
      refine lv_iconst (v := nI 1) hx hb dL_law_443 (by decide) ?_
      refine n_iadd (n := 4*j + 1) hx hb dL_law_444 (by omega) ?_
      refine va_sld hx hb hX hbl hbA hS (vp_in_nI (by omega) (by omega)) dL_law_445 ?_
      refine k_top (y := nI v) (by rw [nI_clamp (by omega)]; exact ev) ?_
      refine lv_aload_n hx hb dL_law_446 rfl (lv_at hl 1 rfl) ?_
      refine lv_iload hx hb dL_law_447 (lv_at hl 5 rfl) ?_
      refine lv_iconst (v := nI 2) hx hb dL_law_449 (by decide) ?_
      refine n_iadd (n := 4*j + 2) hx hb dL_law_450 (by omega) ?_
      refine va_sld hx hb hX hbl hbA hS (vp_in_nI (by omega) (by omega)) dL_law_451 ?_
      refine k_top (y := xs (4*j + 2)) (by rw [nI_clamp (by omega)]) ?_
      refine k_VM (As := [.int (nI v), .int (xs (4*j + 2))]) (rest := []) S hK (c_X7_limit l E (o + 477) z w v (xs (4*j + 2)) sn hI hv g2 hs hsn) gL_law_X7_limit rfl hd_X7_limit ⟨rfl, rfl⟩ ⟨Nat.le_of_ble_eq_true rfl, Nat.le_of_ble_eq_true rfl⟩ (k_recv hK hk2.1 rfl) hk2 rfl hl.1 rfl (Nat.le_of_ble_eq_true rfl) dL_law_452 ⟨by show _ ≤ 601024; omega, by show _ ≤ 7293034; omega⟩ hS (fun q h => by show o ≤ q; have := h.1; omega) (fun q h => by show o ≤ q; have := h.1; omega) (fun H locs hQ zH fH hS => ?_)
      have hP := hQ
      have hV7 := hP
      have hk0 := bo_fr2 hV5 (fun q hz hq => fH q hz (bl_ne hq (by omega)))
      have hk1 := gg_fr2 hV1 (fun q hz hq => fH q hz (bl_ne hq (by omega)))
      have hk3 := la_fr2 hV6 (fun q hz hq => fH q hz (bl_ne hq (by omega)))
      have hk4 := dz_fr2 hV2 (fun q hz hq => fH q hz (bl_ne hq (by omega)))
      have hk5 := tr_fr2 hV3 (fun q hz hq => fH q hz (bl_ne hq (by omega)))
      have hk6 := hy_fr2 hV4 (fun q hz hq => fH q hz (bl_ne hq (by omega)))
      refine lv_istore (lv' := [(6, .int (z (8*v + 30))), (5, .int (nI 0)), (0, .ref b), (1, .ref o), (2, .ref (o + 477)), (3, .ref (o + 483)), (4, .int (nI (4*j)))]) hx hb dL_law_455 hl (by decide) rfl (fun ls hl => ?_)
      refine lv_aload_n hx hb dL_law_457 rfl (lv_at hl 4 rfl) ?_
      refine k_V (As := []) (rest := []) S hK (c_X7_thrown l E (o + 477) (liZ z v (xs (4*j + 2))) (svW z (w_th w (nI 0)) sn)) gL_law_X7_thrown rfl hd_X7_thrown ⟨rfl, rfl⟩ ⟨Nat.le_of_ble_eq_true rfl, Nat.le_of_ble_eq_true rfl⟩ (k_recv hK hV7.1 rfl) hV7 rfl hl.1 rfl (Nat.le_of_ble_eq_true rfl) dL_law_458 ⟨by show _ ≤ 601024; omega, by show _ ≤ 7293034; omega⟩ ?_
      refine k_top (y := nI 0) rfl ?_
      refine lv_iload hx hb dL_law_461 (lv_at hl 1 rfl) ?_
      refine n_ieq (tgt := 468) hx hb dL_law_463 (by decide) (by omega) (by omega) (fun c463 => ?_) (fun h => absurd h (by decide))
      refine lv_iload hx hb dL_law_468 (lv_at hl 1 rfl) ?_
      refine lv_if_ne (tgt := 485) hx hb dL_law_470 (by decide) (fun h => absurd h (by decide)) (fun c470 => ?_)
      refine lv_aload_n hx hb dL_law_473 rfl (lv_at hl 5 rfl) ?_
      refine lv_iconst (v := nI 0) hx hb dL_law_474 (by decide) ?_
      refine l_lald hx hb hK hk3 dL_law_475 ?_
      refine lv_iload hx hb dL_law_476 (lv_at hl 0 rfl) ?_
      refine lv_i2l hx hb dL_law_478 rfl ?_
      refine l_lcmp hx hb dL_law_479 ?_
      refine lv_if_eq (tgt := 485) hx hb dL_law_480 (by decide) (fun c480 => ?_) (fun h => absurd h (by decide))
      refine lv_goto (tgt := 1824) hx hb dL_law_485 (by decide) ?_
      refine W.widen (k := 484 + (j + 1)) (n := 5828 + 6*(j + 1)) (by omega) (by omega) ?_
      exact T (liZ z v (xs (4*j + 2))) (svW z (w_th w (nI 0)) sn) (svN sn) bn _ _ _ (PI_sv hPI ⟨iv_li9 hI hv, kw_li hv hk9.2⟩ rfl rfl hbm hbn) (LI_mk hk1 hk4 hk5 hk6 hk0 hV7 hk3) hS (lv_sub hl [2, 3, 4, 5, 6] rfl)
    · refine lv_aload_n hx hb dL_law_420 rfl (lv_at hl 1 rfl) ?_
      refine lv_aload_n hx hb dL_law_421 rfl (lv_at hl 0 rfl) ?_
      refine lv_iload hx hb dL_law_422 (lv_at hl 4 rfl) ?_
      refine lv_iconst (v := nI 1) hx hb dL_law_424 (by decide) ?_
      refine n_iadd (n := 4*j + 1) hx hb dL_law_425 (by omega) ?_
      refine va_sld hx hb hX hbl hbA hS (vp_in_nI (by omega) (by omega)) dL_law_426 ?_
      refine k_top (y := nI v) (by rw [nI_clamp (by omega)]; exact ev) ?_
      refine lv_aload_n hx hb dL_law_427 rfl (lv_at hl 0 rfl) ?_
      refine lv_iload hx hb dL_law_428 (lv_at hl 4 rfl) ?_
      refine lv_iconst (v := nI 2) hx hb dL_law_430 (by decide) ?_
      refine n_iadd (n := 4*j + 2) hx hb dL_law_431 (by omega) ?_
      refine va_sld hx hb hX hbl hbA hS (vp_in_nI (by omega) (by omega)) dL_law_432 ?_
      refine k_top (y := xs (4*j + 2)) (by rw [nI_clamp (by omega)]) ?_
      refine lv_aload_n hx hb dL_law_433 rfl (lv_at hl 3 rfl) ?_
      refine l_SW (As := [.ref o, .int (nI v), .int (xs (4*j + 2)), .ref (o + 483)]) (rest := []) S hK hX9 hXh (y_L_limit_2 l hlS E (nb o) o z v (xs (4*j + 2)) (o + 483) x9 hI hv g2 (by omega)) gL_law_L_limit rfl hd_L_limit ⟨rfl, rfl⟩ ⟨Nat.le_of_ble_eq_true rfl, Nat.le_of_ble_eq_true rfl⟩ ⟨hWG, hWQ, hWO⟩ rfl hl.1 rfl (Nat.le_of_ble_eq_true rfl) dL_law_434 ⟨by show _ ≤ 601024; omega, by show _ ≤ 7293034; omega⟩ hS (fun q h => by show o ≤ q; have := h.1; omega) (fun q h => by show o ≤ q; have := h.1; omega) (fun H locs hQ zH fH hS => ?_)
      have hR0 := hQ
      have hV1 := hR0
      have hk0 := bo_fr2 hWB (fun q hz hq => fH q hz (bl_ne hq (by omega)))
      have hk1 := gg_fr2 hWG (fun q hz hq => fH q hz (bl_ne hq (by omega)))
      have hk2 := md_fr2 hWM (fun q hz hq => fH q hz (bl_ne hq (by omega)))
      have hk4 := dz_fr2 hWQ (fun q hz hq => fH q hz (bl_ne hq (by omega)))
      have hk5 := tr_fr2 hWT (fun q hz hq => fH q hz (bl_ne hq (by omega)))
      have hk6 := hy_fr2 hWY (fun q hz hq => fH q hz (bl_ne hq (by omega)))
      refine lv_istore (lv' := [(5, .int (nI 2)), (0, .ref b), (1, .ref o), (2, .ref (o + 477)), (3, .ref (o + 483)), (4, .int (nI (4*j)))]) hx hb dL_law_437 hl (by decide) rfl (fun ls hl => ?_)
      refine lv_aload_n hx hb dL_law_439 rfl (lv_at hl 3 rfl) ?_
      refine lv_aload_n hx hb dL_law_440 rfl (lv_at hl 1 rfl) ?_
      refine lv_iload hx hb dL_law_441 (lv_at hl 5 rfl) ?_
      refine lv_iconst (v := nI 1) hx hb dL_law_443 (by decide) ?_
      refine n_iadd (n := 4*j + 1) hx hb dL_law_444 (by omega) ?_
      refine va_sld hx hb hX hbl hbA hS (vp_in_nI (by omega) (by omega)) dL_law_445 ?_
      refine k_top (y := nI v) (by rw [nI_clamp (by omega)]; exact ev) ?_
      refine lv_aload_n hx hb dL_law_446 rfl (lv_at hl 1 rfl) ?_
      refine lv_iload hx hb dL_law_447 (lv_at hl 5 rfl) ?_
      refine lv_iconst (v := nI 2) hx hb dL_law_449 (by decide) ?_
      refine n_iadd (n := 4*j + 2) hx hb dL_law_450 (by omega) ?_
      refine va_sld hx hb hX hbl hbA hS (vp_in_nI (by omega) (by omega)) dL_law_451 ?_
      refine k_top (y := xs (4*j + 2)) (by rw [nI_clamp (by omega)]) ?_
      refine k_VM (As := [.int (nI v), .int (xs (4*j + 2))]) (rest := []) S hK (c_X7_limit_f2 l E (o + 477) z w v (xs (4*j + 2)) hI hv g2) gL_law_X7_limit rfl hd_X7_limit ⟨rfl, rfl⟩ ⟨Nat.le_of_ble_eq_true rfl, Nat.le_of_ble_eq_true rfl⟩ (k_recv hK hk2.1 rfl) hk2 rfl hl.1 rfl (Nat.le_of_ble_eq_true rfl) dL_law_452 ⟨by show _ ≤ 601024; omega, by show _ ≤ 7293034; omega⟩ hS (fun q h => by show o ≤ q; have := h.1; omega) (fun q h => by show o ≤ q; have := h.1; omega) (fun H locs hQ zH fH hS => ?_)
      have hP := hQ
      have hV2 := hP
      have hk0 := bo_fr2 hk0 (fun q hz hq => fH q hz (bl_ne hq (by omega)))
      have hk1 := gg_fr2 hk1 (fun q hz hq => fH q hz (bl_ne hq (by omega)))
      have hk3 := la_fr2 hV1 (fun q hz hq => fH q hz (bl_ne hq (by omega)))
      have hk4 := dz_fr2 hk4 (fun q hz hq => fH q hz (bl_ne hq (by omega)))
      have hk5 := tr_fr2 hk5 (fun q hz hq => fH q hz (bl_ne hq (by omega)))
      have hk6 := hy_fr2 hk6 (fun q hz hq => fH q hz (bl_ne hq (by omega)))
      refine lv_istore (lv' := [(6, .int (nI 0)), (5, .int (nI 2)), (0, .ref b), (1, .ref o), (2, .ref (o + 477)), (3, .ref (o + 483)), (4, .int (nI (4*j)))]) hx hb dL_law_455 hl (by decide) rfl (fun ls hl => ?_)
      refine lv_aload_n hx hb dL_law_457 rfl (lv_at hl 4 rfl) ?_
      refine k_V (As := []) (rest := []) S hK (c_X7_thrown l E (o + 477) z (w_th w (nI 2))) gL_law_X7_thrown rfl hd_X7_thrown ⟨rfl, rfl⟩ ⟨Nat.le_of_ble_eq_true rfl, Nat.le_of_ble_eq_true rfl⟩ (k_recv hK hV2.1 rfl) hV2 rfl hl.1 rfl (Nat.le_of_ble_eq_true rfl) dL_law_458 ⟨by show _ ≤ 601024; omega, by show _ ≤ 7293034; omega⟩ ?_
      refine k_top (y := nI 2) rfl ?_
      refine lv_iload hx hb dL_law_461 (lv_at hl 1 rfl) ?_
      refine n_ieq (tgt := 468) hx hb dL_law_463 (by decide) (by omega) (by omega) (fun c463 => ?_) (fun h => absurd h (by decide))
      refine lv_iload hx hb dL_law_468 (lv_at hl 1 rfl) ?_
      refine lv_if_ne (tgt := 485) hx hb dL_law_470 (by decide) (fun c470 => ?_) (fun h => absurd h (by decide))
      refine lv_goto (tgt := 1824) hx hb dL_law_485 (by decide) ?_
      refine W.widen (k := 484 + (j + 1)) (n := 5828 + 6*(j + 1)) (by omega) (by omega) ?_
      exact T z (w_th w (nI 2)) sn bn _ _ _ hPI (LI_mk hk1 hk4 hk5 hk6 hk0 hV2 hk3) hS (lv_sub hl [2, 3, 4, 5, 6] rfl)
  · refine lv_aload_n hx hb dL_law_420 rfl (lv_at hl 1 rfl) ?_
    refine lv_aload_n hx hb dL_law_421 rfl (lv_at hl 0 rfl) ?_
    refine lv_iload hx hb dL_law_422 (lv_at hl 4 rfl) ?_
    refine lv_iconst (v := nI 1) hx hb dL_law_424 (by decide) ?_
    refine n_iadd (n := 4*j + 1) hx hb dL_law_425 (by omega) ?_
    refine va_sld hx hb hX hbl hbA hS (vp_in_nI (by omega) (by omega)) dL_law_426 ?_
    refine k_top (y := xs (4*j + 1)) (by rw [nI_clamp (by omega)]) ?_
    refine lv_aload_n hx hb dL_law_427 rfl (lv_at hl 0 rfl) ?_
    refine lv_iload hx hb dL_law_428 (lv_at hl 4 rfl) ?_
    refine lv_iconst (v := nI 2) hx hb dL_law_430 (by decide) ?_
    refine n_iadd (n := 4*j + 2) hx hb dL_law_431 (by omega) ?_
    refine va_sld hx hb hX hbl hbA hS (vp_in_nI (by omega) (by omega)) dL_law_432 ?_
    refine k_top (y := xs (4*j + 2)) (by rw [nI_clamp (by omega)]) ?_
    refine lv_aload_n hx hb dL_law_433 rfl (lv_at hl 3 rfl) ?_
    refine l_SW (As := [.ref o, .int (xs (4*j + 1)), .int (xs (4*j + 2)), .ref (o + 483)]) (rest := []) S hK hX9 hXh (y_L_limit_1 l hlS E (nb o) o z (xs (4*j + 1)) (xs (4*j + 2)) (o + 483) x9 hI g1 (by omega)) gL_law_L_limit rfl hd_L_limit ⟨rfl, rfl⟩ ⟨Nat.le_of_ble_eq_true rfl, Nat.le_of_ble_eq_true rfl⟩ ⟨hWG, hWQ, hWO⟩ rfl hl.1 rfl (Nat.le_of_ble_eq_true rfl) dL_law_434 ⟨by show _ ≤ 601024; omega, by show _ ≤ 7293034; omega⟩ hS (fun q h => by show o ≤ q; have := h.1; omega) (fun q h => by show o ≤ q; have := h.1; omega) (fun H locs hQ zH fH hS => ?_)
    have hR0 := hQ
    have hV1 := hR0
    have hk0 := bo_fr2 hWB (fun q hz hq => fH q hz (bl_ne hq (by omega)))
    have hk1 := gg_fr2 hWG (fun q hz hq => fH q hz (bl_ne hq (by omega)))
    have hk2 := md_fr2 hWM (fun q hz hq => fH q hz (bl_ne hq (by omega)))
    have hk4 := dz_fr2 hWQ (fun q hz hq => fH q hz (bl_ne hq (by omega)))
    have hk5 := tr_fr2 hWT (fun q hz hq => fH q hz (bl_ne hq (by omega)))
    have hk6 := hy_fr2 hWY (fun q hz hq => fH q hz (bl_ne hq (by omega)))
    refine lv_istore (lv' := [(5, .int (nI 1)), (0, .ref b), (1, .ref o), (2, .ref (o + 477)), (3, .ref (o + 483)), (4, .int (nI (4*j)))]) hx hb dL_law_437 hl (by decide) rfl (fun ls hl => ?_)
    refine lv_aload_n hx hb dL_law_439 rfl (lv_at hl 3 rfl) ?_
    refine lv_aload_n hx hb dL_law_440 rfl (lv_at hl 1 rfl) ?_
    refine lv_iload hx hb dL_law_441 (lv_at hl 5 rfl) ?_
    refine lv_iconst (v := nI 1) hx hb dL_law_443 (by decide) ?_
    refine n_iadd (n := 4*j + 1) hx hb dL_law_444 (by omega) ?_
    refine va_sld hx hb hX hbl hbA hS (vp_in_nI (by omega) (by omega)) dL_law_445 ?_
    refine k_top (y := xs (4*j + 1)) (by rw [nI_clamp (by omega)]) ?_
    refine lv_aload_n hx hb dL_law_446 rfl (lv_at hl 1 rfl) ?_
    refine lv_iload hx hb dL_law_447 (lv_at hl 5 rfl) ?_
    refine lv_iconst (v := nI 2) hx hb dL_law_449 (by decide) ?_
    refine n_iadd (n := 4*j + 2) hx hb dL_law_450 (by omega) ?_
    refine va_sld hx hb hX hbl hbA hS (vp_in_nI (by omega) (by omega)) dL_law_451 ?_
    refine k_top (y := xs (4*j + 2)) (by rw [nI_clamp (by omega)]) ?_
    refine k_VM (As := [.int (xs (4*j + 1)), .int (xs (4*j + 2))]) (rest := []) S hK (c_X7_limit_f1 l E (o + 477) z w (xs (4*j + 1)) (xs (4*j + 2)) hI g1) gL_law_X7_limit rfl hd_X7_limit ⟨rfl, rfl⟩ ⟨Nat.le_of_ble_eq_true rfl, Nat.le_of_ble_eq_true rfl⟩ (k_recv hK hk2.1 rfl) hk2 rfl hl.1 rfl (Nat.le_of_ble_eq_true rfl) dL_law_452 ⟨by show _ ≤ 601024; omega, by show _ ≤ 7293034; omega⟩ hS (fun q h => by show o ≤ q; have := h.1; omega) (fun q h => by show o ≤ q; have := h.1; omega) (fun H locs hQ zH fH hS => ?_)
    have hP := hQ
    have hV2 := hP
    have hk0 := bo_fr2 hk0 (fun q hz hq => fH q hz (bl_ne hq (by omega)))
    have hk1 := gg_fr2 hk1 (fun q hz hq => fH q hz (bl_ne hq (by omega)))
    have hk3 := la_fr2 hV1 (fun q hz hq => fH q hz (bl_ne hq (by omega)))
    have hk4 := dz_fr2 hk4 (fun q hz hq => fH q hz (bl_ne hq (by omega)))
    have hk5 := tr_fr2 hk5 (fun q hz hq => fH q hz (bl_ne hq (by omega)))
    have hk6 := hy_fr2 hk6 (fun q hz hq => fH q hz (bl_ne hq (by omega)))
    refine lv_istore (lv' := [(6, .int (nI 0)), (5, .int (nI 1)), (0, .ref b), (1, .ref o), (2, .ref (o + 477)), (3, .ref (o + 483)), (4, .int (nI (4*j)))]) hx hb dL_law_455 hl (by decide) rfl (fun ls hl => ?_)
    refine lv_aload_n hx hb dL_law_457 rfl (lv_at hl 4 rfl) ?_
    refine k_V (As := []) (rest := []) S hK (c_X7_thrown l E (o + 477) z (w_th w (nI 1))) gL_law_X7_thrown rfl hd_X7_thrown ⟨rfl, rfl⟩ ⟨Nat.le_of_ble_eq_true rfl, Nat.le_of_ble_eq_true rfl⟩ (k_recv hK hV2.1 rfl) hV2 rfl hl.1 rfl (Nat.le_of_ble_eq_true rfl) dL_law_458 ⟨by show _ ≤ 601024; omega, by show _ ≤ 7293034; omega⟩ ?_
    refine k_top (y := nI 1) rfl ?_
    refine lv_iload hx hb dL_law_461 (lv_at hl 1 rfl) ?_
    refine n_ieq (tgt := 468) hx hb dL_law_463 (by decide) (by omega) (by omega) (fun c463 => ?_) (fun h => absurd h (by decide))
    refine lv_iload hx hb dL_law_468 (lv_at hl 1 rfl) ?_
    refine lv_if_ne (tgt := 485) hx hb dL_law_470 (by decide) (fun c470 => ?_) (fun h => absurd h (by decide))
    refine lv_goto (tgt := 1824) hx hb dL_law_485 (by decide) ?_
    refine W.widen (k := 484 + (j + 1)) (n := 5828 + 6*(j + 1)) (by omega) (by omega) ?_
    exact T z (w_th w (nI 1)) sn bn _ _ _ hPI (LI_mk hk1 hk4 hk5 hk6 hk0 hV2 hk3) hS (lv_sub hl [2, 3, 4, 5, 6] rfl)
set_option maxHeartbeats 4000000 in
set_option maxRecDepth 100000 in
theorem law_4 {p : Program} {l : Launch} {e : Env} {s : State} {m : MethodId} {below : List Frame} {meth : Method} {c : Code} {E : ke_E} {b o L j : Nat} {xs : Nat → Int32} {Q : State → Prop} (C : LC9 p l s m c E b o L xs) (hj : 4*j + 4 ≤ L) (T : LT9 p l e s m below meth c E b o j Q) : ∀ (z : Nat → Int32) (w : md_w) (sn bn : Nat) (H : Heap) (locs : List Loc) (ls : Array Slot), PI9 z w sn bn → LI9 E o z w sn bn H → va_S (nb o) s.heap H locs → lv_has ls 9 [(0, .ref b), (1, .ref o), (2, .ref (o + 477)), (3, .ref (o + 483)), (4, .int (nI (4*j)))] → W p l e room_1 s m #[.ref b] below meth c H locs (484 + j) (5828 + 6*j) Q (F0 m 488 ls []) := by
  intro z w sn bn H locs ls hPI hLI hS hl
  obtain ⟨S, hlS, hK, hX9, hXh, hX, hbo, hsz9, hL⟩ := C
  have hx := S.1
  have hb := S.2.1
  have hts := S.2.2.2.2
  obtain ⟨hs, hsn, hbm, hbn, hk9, hrows⟩ := id hPI
  have hI := hk9.1
  have hJ := hk9.2.1
  have hpw := hk9.2.2
  have hc20 := iv_c hI
  obtain ⟨hWG, hWQ, hWT, hWY, hWB, hWM, x9, hWO⟩ := hLI
  have hbl : b < s.heap.size := by omega
  have hbA : ¬ nb o b := by show ¬ o ≤ b; omega
  by_cases g1 : inR (xs (4*j + 1)) 5
  · obtain ⟨k, hk, ek⟩ := g1
    by_cases g2 : ms k (xs (4*j + 2))
    · refine lv_aload_n hx hb dL_law_488 rfl (lv_at hl 1 rfl) ?_
      refine lv_aload_n hx hb dL_law_489 rfl (lv_at hl 0 rfl) ?_
      refine lv_iload hx hb dL_law_490 (lv_at hl 4 rfl) ?_
      refine lv_iconst (v := nI 1) hx hb dL_law_492 (by decide) ?_
      refine n_iadd (n := 4*j + 1) hx hb dL_law_493 (by omega) ?_
      refine va_sld hx hb hX hbl hbA hS (vp_in_nI (by omega) (by omega)) dL_law_494 ?_
      refine k_top (y := nI k) (by rw [nI_clamp (by omega)]; exact ek) ?_
      refine lv_aload_n hx hb dL_law_495 rfl (lv_at hl 0 rfl) ?_
      refine lv_iload hx hb dL_law_496 (lv_at hl 4 rfl) ?_
      refine lv_iconst (v := nI 2) hx hb dL_law_498 (by decide) ?_
      refine n_iadd (n := 4*j + 2) hx hb dL_law_499 (by omega) ?_
      refine va_sld hx hb hX hbl hbA hS (vp_in_nI (by omega) (by omega)) dL_law_500 ?_
      refine k_top (y := xs (4*j + 2)) (by rw [nI_clamp (by omega)]) ?_
      refine lv_aload_n hx hb dL_law_501 rfl (lv_at hl 3 rfl) ?_
      refine l_SW (As := [.ref o, .int (nI k), .int (xs (4*j + 2)), .ref (o + 483)]) (rest := []) S hK hX9 hXh (c_L_set l hlS E (nb o) o z sn (q_rows w) bn (q_buf w) k (xs (4*j + 2)) (o + 483) x9 hI hsn hk g2 (by omega)) gL_law_L_set rfl hd_L_set ⟨rfl, rfl⟩ ⟨Nat.le_of_ble_eq_true rfl, Nat.le_of_ble_eq_true rfl⟩ ⟨hWG, hWQ, hWT, hWY, hWB, hWO⟩ rfl hl.1 rfl (Nat.le_of_ble_eq_true rfl) dL_law_502 ⟨by show _ ≤ 601024; omega, by show _ ≤ 7293034; omega⟩ hS (fun q h => h.elim (fun h => by show o ≤ q; have := h.1; omega) (fun h => by show o ≤ q; have := h.1; omega)) (fun q h => h.elim (fun h => by show o ≤ q; have := h.1; omega) (fun h => by show o ≤ q; have := h.1; omega)) (fun H locs hQ zH fH hS => ?_)
      obtain ⟨hR0, hR1, hR2, hR3, hR4, hR5⟩ := hQ
      have hV1 := hR0
      have hV2 := hR1
      have hV3 := hR2
      have hV4 := hR3
      have hV5 := hR4
      have hV6 := hR5
      have hk2 := md_fr2 hWM (fun q hz hq => fH q hz (ow_ne hq (by omega)))
      refine lv_istore (lv' := [(5, .int (nI 0)), (0, .ref b), (1, .ref o), (2, .ref (o + 477)), (3, .ref (o + 483)), (4, .int (nI (4*j)))]) hx hb dL_law_505 hl (by decide) rfl (fun ls hl => ?_)
      refine lv_aload_n hx hb dL_law_507 rfl (lv_at hl 3 rfl) ?_
      refine lv_aload_n hx hb dL_law_508 rfl (lv_at hl 1 rfl) ?_
      refine lv_iload hx hb dL_law_509 (lv_at hl 5 rfl) ?_
      refine lv_iconst (v := nI 1) hx hb dL_law_511 (by decide) ?_
      refine n_iadd (n := 4*j + 1) hx hb dL_law_512 (by omega) ?_
      refine va_sld hx hb hX hbl hbA hS (vp_in_nI (by omega) (by omega)) dL_law_513 ?_
      refine k_top (y := nI k) (by rw [nI_clamp (by omega)]; exact ek) ?_
      refine lv_aload_n hx hb dL_law_514 rfl (lv_at hl 1 rfl) ?_
      refine lv_iload hx hb dL_law_515 (lv_at hl 5 rfl) ?_
      refine lv_iconst (v := nI 2) hx hb dL_law_517 (by decide) ?_
      refine n_iadd (n := 4*j + 2) hx hb dL_law_518 (by omega) ?_
      refine va_sld hx hb hX hbl hbA hS (vp_in_nI (by omega) (by omega)) dL_law_519 ?_
      refine k_top (y := xs (4*j + 2)) (by rw [nI_clamp (by omega)]) ?_
      refine k_VM (As := [.int (nI k), .int (xs (4*j + 2))]) (rest := []) S hK (c_X7_set l E (o + 477) z w k (xs (4*j + 2)) sn hI hk g2 hs hsn) gL_law_X7_set rfl hd_X7_set ⟨rfl, rfl⟩ ⟨Nat.le_of_ble_eq_true rfl, Nat.le_of_ble_eq_true rfl⟩ (k_recv hK hk2.1 rfl) hk2 rfl hl.1 rfl (Nat.le_of_ble_eq_true rfl) dL_law_520 ⟨by show _ ≤ 601024; omega, by show _ ≤ 7293034; omega⟩ hS (fun q h => by show o ≤ q; have := h.1; omega) (fun q h => by show o ≤ q; have := h.1; omega) (fun H locs hQ zH fH hS => ?_)
      have hP := hQ
      have hV7 := hP
      have hk0 := bo_fr2 hV5 (fun q hz hq => fH q hz (bl_ne hq (by omega)))
      have hk1 := gg_fr2 hV1 (fun q hz hq => fH q hz (bl_ne hq (by omega)))
      have hk3 := la_fr2 hV6 (fun q hz hq => fH q hz (bl_ne hq (by omega)))
      have hk4 := dz_fr2 hV2 (fun q hz hq => fH q hz (bl_ne hq (by omega)))
      have hk5 := tr_fr2 hV3 (fun q hz hq => fH q hz (bl_ne hq (by omega)))
      have hk6 := hy_fr2 hV4 (fun q hz hq => fH q hz (bl_ne hq (by omega)))
      refine lv_istore (lv' := [(6, .int (z (k + 7))), (5, .int (nI 0)), (0, .ref b), (1, .ref o), (2, .ref (o + 477)), (3, .ref (o + 483)), (4, .int (nI (4*j)))]) hx hb dL_law_523 hl (by decide) rfl (fun ls hl => ?_)
      refine lv_aload_n hx hb dL_law_525 rfl (lv_at hl 4 rfl) ?_
      refine k_V (As := []) (rest := []) S hK (c_X7_thrown l E (o + 477) (seZ z k (xs (4*j + 2))) (svW z (w_th w (nI 0)) sn)) gL_law_X7_thrown rfl hd_X7_thrown ⟨rfl, rfl⟩ ⟨Nat.le_of_ble_eq_true rfl, Nat.le_of_ble_eq_true rfl⟩ (k_recv hK hV7.1 rfl) hV7 rfl hl.1 rfl (Nat.le_of_ble_eq_true rfl) dL_law_526 ⟨by show _ ≤ 601024; omega, by show _ ≤ 7293034; omega⟩ ?_
      refine k_top (y := nI 0) rfl ?_
      refine lv_iload hx hb dL_law_529 (lv_at hl 1 rfl) ?_
      refine n_ieq (tgt := 536) hx hb dL_law_531 (by decide) (by omega) (by omega) (fun c531 => ?_) (fun h => absurd h (by decide))
      refine lv_iload hx hb dL_law_536 (lv_at hl 1 rfl) ?_
      refine lv_if_ne (tgt := 553) hx hb dL_law_538 (by decide) (fun h => absurd h (by decide)) (fun c538 => ?_)
      refine lv_aload_n hx hb dL_law_541 rfl (lv_at hl 5 rfl) ?_
      refine lv_iconst (v := nI 0) hx hb dL_law_542 (by decide) ?_
      refine l_lald hx hb hK hk3 dL_law_543 ?_
      refine lv_iload hx hb dL_law_544 (lv_at hl 0 rfl) ?_
      refine lv_i2l hx hb dL_law_546 rfl ?_
      refine l_lcmp hx hb dL_law_547 ?_
      refine lv_if_eq (tgt := 553) hx hb dL_law_548 (by decide) (fun c548 => ?_) (fun h => absurd h (by decide))
      refine lv_goto (tgt := 1824) hx hb dL_law_553 (by decide) ?_
      refine W.widen (k := 484 + (j + 1)) (n := 5828 + 6*(j + 1)) (by omega) (by omega) ?_
      exact T (seZ z k (xs (4*j + 2))) (svW z (w_th w (nI 0)) sn) (svN sn) bn _ _ _ (PI_sv hPI ⟨iv_se9 hI hk g2, kw_se hk hk9.2⟩ rfl rfl hbm hbn) (LI_mk hk1 hk4 hk5 hk6 hk0 hV7 hk3) hS (lv_sub hl [2, 3, 4, 5, 6] rfl)
    · refine lv_aload_n hx hb dL_law_488 rfl (lv_at hl 1 rfl) ?_
      refine lv_aload_n hx hb dL_law_489 rfl (lv_at hl 0 rfl) ?_
      refine lv_iload hx hb dL_law_490 (lv_at hl 4 rfl) ?_
      refine lv_iconst (v := nI 1) hx hb dL_law_492 (by decide) ?_
      refine n_iadd (n := 4*j + 1) hx hb dL_law_493 (by omega) ?_
      refine va_sld hx hb hX hbl hbA hS (vp_in_nI (by omega) (by omega)) dL_law_494 ?_
      refine k_top (y := nI k) (by rw [nI_clamp (by omega)]; exact ek) ?_
      refine lv_aload_n hx hb dL_law_495 rfl (lv_at hl 0 rfl) ?_
      refine lv_iload hx hb dL_law_496 (lv_at hl 4 rfl) ?_
      refine lv_iconst (v := nI 2) hx hb dL_law_498 (by decide) ?_
      refine n_iadd (n := 4*j + 2) hx hb dL_law_499 (by omega) ?_
      refine va_sld hx hb hX hbl hbA hS (vp_in_nI (by omega) (by omega)) dL_law_500 ?_
      refine k_top (y := xs (4*j + 2)) (by rw [nI_clamp (by omega)]) ?_
      refine lv_aload_n hx hb dL_law_501 rfl (lv_at hl 3 rfl) ?_
      refine l_SW (As := [.ref o, .int (nI k), .int (xs (4*j + 2)), .ref (o + 483)]) (rest := []) S hK hX9 hXh (y_L_set_2 l hlS E (nb o) o z k (xs (4*j + 2)) (o + 483) x9 hI hk g2 (by omega)) gL_law_L_set rfl hd_L_set ⟨rfl, rfl⟩ ⟨Nat.le_of_ble_eq_true rfl, Nat.le_of_ble_eq_true rfl⟩ ⟨hWG, hWQ, hWO⟩ rfl hl.1 rfl (Nat.le_of_ble_eq_true rfl) dL_law_502 ⟨by show _ ≤ 601024; omega, by show _ ≤ 7293034; omega⟩ hS (fun q h => by show o ≤ q; have := h.1; omega) (fun q h => by show o ≤ q; have := h.1; omega) (fun H locs hQ zH fH hS => ?_)
      have hR0 := hQ
      have hV1 := hR0
      have hk0 := bo_fr2 hWB (fun q hz hq => fH q hz (bl_ne hq (by omega)))
      have hk1 := gg_fr2 hWG (fun q hz hq => fH q hz (bl_ne hq (by omega)))
      have hk2 := md_fr2 hWM (fun q hz hq => fH q hz (bl_ne hq (by omega)))
      have hk4 := dz_fr2 hWQ (fun q hz hq => fH q hz (bl_ne hq (by omega)))
      have hk5 := tr_fr2 hWT (fun q hz hq => fH q hz (bl_ne hq (by omega)))
      have hk6 := hy_fr2 hWY (fun q hz hq => fH q hz (bl_ne hq (by omega)))
      refine lv_istore (lv' := [(5, .int (nI 2)), (0, .ref b), (1, .ref o), (2, .ref (o + 477)), (3, .ref (o + 483)), (4, .int (nI (4*j)))]) hx hb dL_law_505 hl (by decide) rfl (fun ls hl => ?_)
      refine lv_aload_n hx hb dL_law_507 rfl (lv_at hl 3 rfl) ?_
      refine lv_aload_n hx hb dL_law_508 rfl (lv_at hl 1 rfl) ?_
      refine lv_iload hx hb dL_law_509 (lv_at hl 5 rfl) ?_
      refine lv_iconst (v := nI 1) hx hb dL_law_511 (by decide) ?_
      refine n_iadd (n := 4*j + 1) hx hb dL_law_512 (by omega) ?_
      refine va_sld hx hb hX hbl hbA hS (vp_in_nI (by omega) (by omega)) dL_law_513 ?_
      refine k_top (y := nI k) (by rw [nI_clamp (by omega)]; exact ek) ?_
      refine lv_aload_n hx hb dL_law_514 rfl (lv_at hl 1 rfl) ?_
      refine lv_iload hx hb dL_law_515 (lv_at hl 5 rfl) ?_
      refine lv_iconst (v := nI 2) hx hb dL_law_517 (by decide) ?_
      refine n_iadd (n := 4*j + 2) hx hb dL_law_518 (by omega) ?_
      refine va_sld hx hb hX hbl hbA hS (vp_in_nI (by omega) (by omega)) dL_law_519 ?_
      refine k_top (y := xs (4*j + 2)) (by rw [nI_clamp (by omega)]) ?_
      refine k_VM (As := [.int (nI k), .int (xs (4*j + 2))]) (rest := []) S hK (c_X7_set_f2 l E (o + 477) z w k (xs (4*j + 2)) hI hk g2) gL_law_X7_set rfl hd_X7_set ⟨rfl, rfl⟩ ⟨Nat.le_of_ble_eq_true rfl, Nat.le_of_ble_eq_true rfl⟩ (k_recv hK hk2.1 rfl) hk2 rfl hl.1 rfl (Nat.le_of_ble_eq_true rfl) dL_law_520 ⟨by show _ ≤ 601024; omega, by show _ ≤ 7293034; omega⟩ hS (fun q h => by show o ≤ q; have := h.1; omega) (fun q h => by show o ≤ q; have := h.1; omega) (fun H locs hQ zH fH hS => ?_)
      have hP := hQ
      have hV2 := hP
      have hk0 := bo_fr2 hk0 (fun q hz hq => fH q hz (bl_ne hq (by omega)))
      have hk1 := gg_fr2 hk1 (fun q hz hq => fH q hz (bl_ne hq (by omega)))
      have hk3 := la_fr2 hV1 (fun q hz hq => fH q hz (bl_ne hq (by omega)))
      have hk4 := dz_fr2 hk4 (fun q hz hq => fH q hz (bl_ne hq (by omega)))
      have hk5 := tr_fr2 hk5 (fun q hz hq => fH q hz (bl_ne hq (by omega)))
      have hk6 := hy_fr2 hk6 (fun q hz hq => fH q hz (bl_ne hq (by omega)))
      refine lv_istore (lv' := [(6, .int (nI 0)), (5, .int (nI 2)), (0, .ref b), (1, .ref o), (2, .ref (o + 477)), (3, .ref (o + 483)), (4, .int (nI (4*j)))]) hx hb dL_law_523 hl (by decide) rfl (fun ls hl => ?_)
      refine lv_aload_n hx hb dL_law_525 rfl (lv_at hl 4 rfl) ?_
      refine k_V (As := []) (rest := []) S hK (c_X7_thrown l E (o + 477) z (w_th w (nI 2))) gL_law_X7_thrown rfl hd_X7_thrown ⟨rfl, rfl⟩ ⟨Nat.le_of_ble_eq_true rfl, Nat.le_of_ble_eq_true rfl⟩ (k_recv hK hV2.1 rfl) hV2 rfl hl.1 rfl (Nat.le_of_ble_eq_true rfl) dL_law_526 ⟨by show _ ≤ 601024; omega, by show _ ≤ 7293034; omega⟩ ?_
      refine k_top (y := nI 2) rfl ?_
      refine lv_iload hx hb dL_law_529 (lv_at hl 1 rfl) ?_
      refine n_ieq (tgt := 536) hx hb dL_law_531 (by decide) (by omega) (by omega) (fun c531 => ?_) (fun h => absurd h (by decide))
      refine lv_iload hx hb dL_law_536 (lv_at hl 1 rfl) ?_
      refine lv_if_ne (tgt := 553) hx hb dL_law_538 (by decide) (fun c538 => ?_) (fun h => absurd h (by decide))
      refine lv_goto (tgt := 1824) hx hb dL_law_553 (by decide) ?_
      refine W.widen (k := 484 + (j + 1)) (n := 5828 + 6*(j + 1)) (by omega) (by omega) ?_
      exact T z (w_th w (nI 2)) sn bn _ _ _ hPI (LI_mk hk1 hk4 hk5 hk6 hk0 hV2 hk3) hS (lv_sub hl [2, 3, 4, 5, 6] rfl)
  · refine lv_aload_n hx hb dL_law_488 rfl (lv_at hl 1 rfl) ?_
    refine lv_aload_n hx hb dL_law_489 rfl (lv_at hl 0 rfl) ?_
    refine lv_iload hx hb dL_law_490 (lv_at hl 4 rfl) ?_
    refine lv_iconst (v := nI 1) hx hb dL_law_492 (by decide) ?_
    refine n_iadd (n := 4*j + 1) hx hb dL_law_493 (by omega) ?_
    refine va_sld hx hb hX hbl hbA hS (vp_in_nI (by omega) (by omega)) dL_law_494 ?_
    refine k_top (y := xs (4*j + 1)) (by rw [nI_clamp (by omega)]) ?_
    refine lv_aload_n hx hb dL_law_495 rfl (lv_at hl 0 rfl) ?_
    refine lv_iload hx hb dL_law_496 (lv_at hl 4 rfl) ?_
    refine lv_iconst (v := nI 2) hx hb dL_law_498 (by decide) ?_
    refine n_iadd (n := 4*j + 2) hx hb dL_law_499 (by omega) ?_
    refine va_sld hx hb hX hbl hbA hS (vp_in_nI (by omega) (by omega)) dL_law_500 ?_
    refine k_top (y := xs (4*j + 2)) (by rw [nI_clamp (by omega)]) ?_
    refine lv_aload_n hx hb dL_law_501 rfl (lv_at hl 3 rfl) ?_
    refine l_SW (As := [.ref o, .int (xs (4*j + 1)), .int (xs (4*j + 2)), .ref (o + 483)]) (rest := []) S hK hX9 hXh (y_L_set_1 l hlS E (nb o) o z (xs (4*j + 1)) (xs (4*j + 2)) (o + 483) x9 hI g1 (by omega)) gL_law_L_set rfl hd_L_set ⟨rfl, rfl⟩ ⟨Nat.le_of_ble_eq_true rfl, Nat.le_of_ble_eq_true rfl⟩ ⟨hWG, hWQ, hWO⟩ rfl hl.1 rfl (Nat.le_of_ble_eq_true rfl) dL_law_502 ⟨by show _ ≤ 601024; omega, by show _ ≤ 7293034; omega⟩ hS (fun q h => by show o ≤ q; have := h.1; omega) (fun q h => by show o ≤ q; have := h.1; omega) (fun H locs hQ zH fH hS => ?_)
    have hR0 := hQ
    have hV1 := hR0
    have hk0 := bo_fr2 hWB (fun q hz hq => fH q hz (bl_ne hq (by omega)))
    have hk1 := gg_fr2 hWG (fun q hz hq => fH q hz (bl_ne hq (by omega)))
    have hk2 := md_fr2 hWM (fun q hz hq => fH q hz (bl_ne hq (by omega)))
    have hk4 := dz_fr2 hWQ (fun q hz hq => fH q hz (bl_ne hq (by omega)))
    have hk5 := tr_fr2 hWT (fun q hz hq => fH q hz (bl_ne hq (by omega)))
    have hk6 := hy_fr2 hWY (fun q hz hq => fH q hz (bl_ne hq (by omega)))
    refine lv_istore (lv' := [(5, .int (nI 1)), (0, .ref b), (1, .ref o), (2, .ref (o + 477)), (3, .ref (o + 483)), (4, .int (nI (4*j)))]) hx hb dL_law_505 hl (by decide) rfl (fun ls hl => ?_)
    refine lv_aload_n hx hb dL_law_507 rfl (lv_at hl 3 rfl) ?_
    refine lv_aload_n hx hb dL_law_508 rfl (lv_at hl 1 rfl) ?_
    refine lv_iload hx hb dL_law_509 (lv_at hl 5 rfl) ?_
    refine lv_iconst (v := nI 1) hx hb dL_law_511 (by decide) ?_
    refine n_iadd (n := 4*j + 1) hx hb dL_law_512 (by omega) ?_
    refine va_sld hx hb hX hbl hbA hS (vp_in_nI (by omega) (by omega)) dL_law_513 ?_
    refine k_top (y := xs (4*j + 1)) (by rw [nI_clamp (by omega)]) ?_
    refine lv_aload_n hx hb dL_law_514 rfl (lv_at hl 1 rfl) ?_
    refine lv_iload hx hb dL_law_515 (lv_at hl 5 rfl) ?_
    refine lv_iconst (v := nI 2) hx hb dL_law_517 (by decide) ?_
    refine n_iadd (n := 4*j + 2) hx hb dL_law_518 (by omega) ?_
    refine va_sld hx hb hX hbl hbA hS (vp_in_nI (by omega) (by omega)) dL_law_519 ?_
    refine k_top (y := xs (4*j + 2)) (by rw [nI_clamp (by omega)]) ?_
    refine k_VM (As := [.int (xs (4*j + 1)), .int (xs (4*j + 2))]) (rest := []) S hK (c_X7_set_f1 l E (o + 477) z w (xs (4*j + 1)) (xs (4*j + 2)) hI g1) gL_law_X7_set rfl hd_X7_set ⟨rfl, rfl⟩ ⟨Nat.le_of_ble_eq_true rfl, Nat.le_of_ble_eq_true rfl⟩ (k_recv hK hk2.1 rfl) hk2 rfl hl.1 rfl (Nat.le_of_ble_eq_true rfl) dL_law_520 ⟨by show _ ≤ 601024; omega, by show _ ≤ 7293034; omega⟩ hS (fun q h => by show o ≤ q; have := h.1; omega) (fun q h => by show o ≤ q; have := h.1; omega) (fun H locs hQ zH fH hS => ?_)
    have hP := hQ
    have hV2 := hP
    have hk0 := bo_fr2 hk0 (fun q hz hq => fH q hz (bl_ne hq (by omega)))
    have hk1 := gg_fr2 hk1 (fun q hz hq => fH q hz (bl_ne hq (by omega)))
    have hk3 := la_fr2 hV1 (fun q hz hq => fH q hz (bl_ne hq (by omega)))
    have hk4 := dz_fr2 hk4 (fun q hz hq => fH q hz (bl_ne hq (by omega)))
    have hk5 := tr_fr2 hk5 (fun q hz hq => fH q hz (bl_ne hq (by omega)))
    have hk6 := hy_fr2 hk6 (fun q hz hq => fH q hz (bl_ne hq (by omega)))
    refine lv_istore (lv' := [(6, .int (nI 0)), (5, .int (nI 1)), (0, .ref b), (1, .ref o), (2, .ref (o + 477)), (3, .ref (o + 483)), (4, .int (nI (4*j)))]) hx hb dL_law_523 hl (by decide) rfl (fun ls hl => ?_)
    refine lv_aload_n hx hb dL_law_525 rfl (lv_at hl 4 rfl) ?_
    refine k_V (As := []) (rest := []) S hK (c_X7_thrown l E (o + 477) z (w_th w (nI 1))) gL_law_X7_thrown rfl hd_X7_thrown ⟨rfl, rfl⟩ ⟨Nat.le_of_ble_eq_true rfl, Nat.le_of_ble_eq_true rfl⟩ (k_recv hK hV2.1 rfl) hV2 rfl hl.1 rfl (Nat.le_of_ble_eq_true rfl) dL_law_526 ⟨by show _ ≤ 601024; omega, by show _ ≤ 7293034; omega⟩ ?_
    refine k_top (y := nI 1) rfl ?_
    refine lv_iload hx hb dL_law_529 (lv_at hl 1 rfl) ?_
    refine n_ieq (tgt := 536) hx hb dL_law_531 (by decide) (by omega) (by omega) (fun c531 => ?_) (fun h => absurd h (by decide))
    refine lv_iload hx hb dL_law_536 (lv_at hl 1 rfl) ?_
    refine lv_if_ne (tgt := 553) hx hb dL_law_538 (by decide) (fun c538 => ?_) (fun h => absurd h (by decide))
    refine lv_goto (tgt := 1824) hx hb dL_law_553 (by decide) ?_
    refine W.widen (k := 484 + (j + 1)) (n := 5828 + 6*(j + 1)) (by omega) (by omega) ?_
    exact T z (w_th w (nI 1)) sn bn _ _ _ hPI (LI_mk hk1 hk4 hk5 hk6 hk0 hV2 hk3) hS (lv_sub hl [2, 3, 4, 5, 6] rfl)
set_option maxHeartbeats 4000000 in
set_option maxRecDepth 100000 in
theorem law_5 {p : Program} {l : Launch} {e : Env} {s : State} {m : MethodId} {below : List Frame} {meth : Method} {c : Code} {E : ke_E} {b o L j : Nat} {xs : Nat → Int32} {Q : State → Prop} (C : LC9 p l s m c E b o L xs) (hj : 4*j + 4 ≤ L) (T : LT9 p l e s m below meth c E b o j Q) : ∀ (z : Nat → Int32) (w : md_w) (sn bn : Nat) (H : Heap) (locs : List Loc) (ls : Array Slot), PI9 z w sn bn → LI9 E o z w sn bn H → va_S (nb o) s.heap H locs → lv_has ls 9 [(0, .ref b), (1, .ref o), (2, .ref (o + 477)), (3, .ref (o + 483)), (4, .int (nI (4*j)))] → W p l e room_1 s m #[.ref b] below meth c H locs (484 + j) (5828 + 6*j) Q (F0 m 556 ls []) := by
  intro z w sn bn H locs ls hPI hLI hS hl
  obtain ⟨S, hlS, hK, hX9, hXh, hX, hbo, hsz9, hL⟩ := C
  have hx := S.1
  have hb := S.2.1
  have hts := S.2.2.2.2
  obtain ⟨hs, hsn, hbm, hbn, hk9, hrows⟩ := id hPI
  have hI := hk9.1
  have hJ := hk9.2.1
  have hpw := hk9.2.2
  have hc20 := iv_c hI
  obtain ⟨hWG, hWQ, hWT, hWY, hWB, hWM, x9, hWO⟩ := hLI
  have hbl : b < s.heap.size := by omega
  have hbA : ¬ nb o b := by show ¬ o ≤ b; omega
  by_cases g1 : inR (xs (4*j + 1)) 6
  · obtain ⟨q, hq, eq⟩ := g1
    by_cases g2 : inR (xs (4*j + 2)) 4
    · obtain ⟨k, hk, ek⟩ := g2
      by_cases g9 : cn z = 20
      · refine lv_aload_n hx hb dL_law_556 rfl (lv_at hl 1 rfl) ?_
        refine lv_aload_n hx hb dL_law_557 rfl (lv_at hl 0 rfl) ?_
        refine lv_iload hx hb dL_law_558 (lv_at hl 4 rfl) ?_
        refine lv_iconst (v := nI 1) hx hb dL_law_560 (by decide) ?_
        refine n_iadd (n := 4*j + 1) hx hb dL_law_561 (by omega) ?_
        refine va_sld hx hb hX hbl hbA hS (vp_in_nI (by omega) (by omega)) dL_law_562 ?_
        refine k_top (y := nI q) (by rw [nI_clamp (by omega)]; exact eq) ?_
        refine lv_aload_n hx hb dL_law_563 rfl (lv_at hl 0 rfl) ?_
        refine lv_iload hx hb dL_law_564 (lv_at hl 4 rfl) ?_
        refine lv_iconst (v := nI 2) hx hb dL_law_566 (by decide) ?_
        refine n_iadd (n := 4*j + 2) hx hb dL_law_567 (by omega) ?_
        refine va_sld hx hb hX hbl hbA hS (vp_in_nI (by omega) (by omega)) dL_law_568 ?_
        refine k_top (y := nI k) (by rw [nI_clamp (by omega)]; exact ek) ?_
        refine lv_aload_n hx hb dL_law_569 rfl (lv_at hl 3 rfl) ?_
        refine l_SW (As := [.ref o, .int (nI q), .int (nI k), .ref (o + 483)]) (rest := []) S hK hX9 hXh (y_L_receive_3 l hlS E (nb o) o z q k (o + 483) x9 hI hq hk g9 (by omega)) gL_law_L_receive rfl hd_L_receive ⟨rfl, rfl⟩ ⟨Nat.le_of_ble_eq_true rfl, Nat.le_of_ble_eq_true rfl⟩ ⟨hWG, hWQ, hWO⟩ rfl hl.1 rfl (Nat.le_of_ble_eq_true rfl) dL_law_570 ⟨by show _ ≤ 601024; omega, by show _ ≤ 7293034; omega⟩ hS (fun q h => by show o ≤ q; have := h.1; omega) (fun q h => by show o ≤ q; have := h.1; omega) (fun H locs hQ zH fH hS => ?_)
        have hR0 := hQ
        have hV1 := hR0
        have hk0 := bo_fr2 hWB (fun q hz hq => fH q hz (bl_ne hq (by omega)))
        have hk1 := gg_fr2 hWG (fun q hz hq => fH q hz (bl_ne hq (by omega)))
        have hk2 := md_fr2 hWM (fun q hz hq => fH q hz (bl_ne hq (by omega)))
        have hk4 := dz_fr2 hWQ (fun q hz hq => fH q hz (bl_ne hq (by omega)))
        have hk5 := tr_fr2 hWT (fun q hz hq => fH q hz (bl_ne hq (by omega)))
        have hk6 := hy_fr2 hWY (fun q hz hq => fH q hz (bl_ne hq (by omega)))
        refine lv_istore (lv' := [(5, .int (nI 2)), (0, .ref b), (1, .ref o), (2, .ref (o + 477)), (3, .ref (o + 483)), (4, .int (nI (4*j)))]) hx hb dL_law_573 hl (by decide) rfl (fun ls hl => ?_)
        refine lv_aload_n hx hb dL_law_575 rfl (lv_at hl 3 rfl) ?_
        refine lv_aload_n hx hb dL_law_576 rfl (lv_at hl 1 rfl) ?_
        refine lv_iload hx hb dL_law_577 (lv_at hl 5 rfl) ?_
        refine lv_iconst (v := nI 1) hx hb dL_law_579 (by decide) ?_
        refine n_iadd (n := 4*j + 1) hx hb dL_law_580 (by omega) ?_
        refine va_sld hx hb hX hbl hbA hS (vp_in_nI (by omega) (by omega)) dL_law_581 ?_
        refine k_top (y := nI q) (by rw [nI_clamp (by omega)]; exact eq) ?_
        refine lv_aload_n hx hb dL_law_582 rfl (lv_at hl 1 rfl) ?_
        refine lv_iload hx hb dL_law_583 (lv_at hl 5 rfl) ?_
        refine lv_iconst (v := nI 2) hx hb dL_law_585 (by decide) ?_
        refine n_iadd (n := 4*j + 2) hx hb dL_law_586 (by omega) ?_
        refine va_sld hx hb hX hbl hbA hS (vp_in_nI (by omega) (by omega)) dL_law_587 ?_
        refine k_top (y := nI k) (by rw [nI_clamp (by omega)]; exact ek) ?_
        refine k_VM (As := [.int (nI q), .int (nI k)]) (rest := []) S hK (c_X7_receive_f3 l E (o + 477) z w q k hI hq hk g9) gL_law_X7_receive rfl hd_X7_receive ⟨rfl, rfl⟩ ⟨Nat.le_of_ble_eq_true rfl, Nat.le_of_ble_eq_true rfl⟩ (k_recv hK hk2.1 rfl) hk2 rfl hl.1 rfl (Nat.le_of_ble_eq_true rfl) dL_law_588 ⟨by show _ ≤ 601024; omega, by show _ ≤ 7293034; omega⟩ hS (fun q h => by show o ≤ q; have := h.1; omega) (fun q h => by show o ≤ q; have := h.1; omega) (fun H locs hQ zH fH hS => ?_)
        have hP := hQ
        have hV2 := hP
        have hk0 := bo_fr2 hk0 (fun q hz hq => fH q hz (bl_ne hq (by omega)))
        have hk1 := gg_fr2 hk1 (fun q hz hq => fH q hz (bl_ne hq (by omega)))
        have hk3 := la_fr2 hV1 (fun q hz hq => fH q hz (bl_ne hq (by omega)))
        have hk4 := dz_fr2 hk4 (fun q hz hq => fH q hz (bl_ne hq (by omega)))
        have hk5 := tr_fr2 hk5 (fun q hz hq => fH q hz (bl_ne hq (by omega)))
        have hk6 := hy_fr2 hk6 (fun q hz hq => fH q hz (bl_ne hq (by omega)))
        refine lv_istore (lv' := [(6, .int (nI 0)), (5, .int (nI 2)), (0, .ref b), (1, .ref o), (2, .ref (o + 477)), (3, .ref (o + 483)), (4, .int (nI (4*j)))]) hx hb dL_law_591 hl (by decide) rfl (fun ls hl => ?_)
        refine lv_aload_n hx hb dL_law_593 rfl (lv_at hl 4 rfl) ?_
        refine k_V (As := []) (rest := []) S hK (c_X7_thrown l E (o + 477) z (w_th w (nI 2))) gL_law_X7_thrown rfl hd_X7_thrown ⟨rfl, rfl⟩ ⟨Nat.le_of_ble_eq_true rfl, Nat.le_of_ble_eq_true rfl⟩ (k_recv hK hV2.1 rfl) hV2 rfl hl.1 rfl (Nat.le_of_ble_eq_true rfl) dL_law_594 ⟨by show _ ≤ 601024; omega, by show _ ≤ 7293034; omega⟩ ?_
        refine k_top (y := nI 2) rfl ?_
        refine lv_iload hx hb dL_law_597 (lv_at hl 1 rfl) ?_
        refine n_ieq (tgt := 604) hx hb dL_law_599 (by decide) (by omega) (by omega) (fun c599 => ?_) (fun h => absurd h (by decide))
        refine lv_iload hx hb dL_law_604 (lv_at hl 1 rfl) ?_
        refine lv_if_ne (tgt := 621) hx hb dL_law_606 (by decide) (fun c606 => ?_) (fun h => absurd h (by decide))
        refine lv_goto (tgt := 1824) hx hb dL_law_621 (by decide) ?_
        refine W.widen (k := 484 + (j + 1)) (n := 5828 + 6*(j + 1)) (by omega) (by omega) ?_
        exact T z (w_th w (nI 2)) sn bn _ _ _ hPI (LI_mk hk1 hk4 hk5 hk6 hk0 hV2 hk3) hS (lv_sub hl [2, 3, 4, 5, 6] rfl)
      · refine lv_aload_n hx hb dL_law_556 rfl (lv_at hl 1 rfl) ?_
        refine lv_aload_n hx hb dL_law_557 rfl (lv_at hl 0 rfl) ?_
        refine lv_iload hx hb dL_law_558 (lv_at hl 4 rfl) ?_
        refine lv_iconst (v := nI 1) hx hb dL_law_560 (by decide) ?_
        refine n_iadd (n := 4*j + 1) hx hb dL_law_561 (by omega) ?_
        refine va_sld hx hb hX hbl hbA hS (vp_in_nI (by omega) (by omega)) dL_law_562 ?_
        refine k_top (y := nI q) (by rw [nI_clamp (by omega)]; exact eq) ?_
        refine lv_aload_n hx hb dL_law_563 rfl (lv_at hl 0 rfl) ?_
        refine lv_iload hx hb dL_law_564 (lv_at hl 4 rfl) ?_
        refine lv_iconst (v := nI 2) hx hb dL_law_566 (by decide) ?_
        refine n_iadd (n := 4*j + 2) hx hb dL_law_567 (by omega) ?_
        refine va_sld hx hb hX hbl hbA hS (vp_in_nI (by omega) (by omega)) dL_law_568 ?_
        refine k_top (y := nI k) (by rw [nI_clamp (by omega)]; exact ek) ?_
        refine lv_aload_n hx hb dL_law_569 rfl (lv_at hl 3 rfl) ?_
        refine l_SW (As := [.ref o, .int (nI q), .int (nI k), .ref (o + 483)]) (rest := []) S hK hX9 hXh (c_L_receive l hlS E (nb o) o z sn (q_rows w) bn (q_buf w) q k (o + 483) x9 hI hsn hq hk g9 (by omega)) gL_law_L_receive rfl hd_L_receive ⟨rfl, rfl⟩ ⟨Nat.le_of_ble_eq_true rfl, Nat.le_of_ble_eq_true rfl⟩ ⟨hWG, hWQ, hWT, hWY, hWB, hWO⟩ rfl hl.1 rfl (Nat.le_of_ble_eq_true rfl) dL_law_570 ⟨by show _ ≤ 601024; omega, by show _ ≤ 7293034; omega⟩ hS (fun q h => h.elim (fun h => by show o ≤ q; have := h.1; omega) (fun h => by show o ≤ q; have := h.1; omega)) (fun q h => h.elim (fun h => by show o ≤ q; have := h.1; omega) (fun h => by show o ≤ q; have := h.1; omega)) (fun H locs hQ zH fH hS => ?_)
        obtain ⟨hR0, hR1, hR2, hR3, hR4, hR5⟩ := hQ
        have hV1 := hR0
        have hV2 := hR1
        have hV3 := hR2
        have hV4 := hR3
        have hV5 := hR4
        have hV6 := hR5
        have hk2 := md_fr2 hWM (fun q hz hq => fH q hz (ow_ne hq (by omega)))
        refine lv_istore (lv' := [(5, .int (nI 0)), (0, .ref b), (1, .ref o), (2, .ref (o + 477)), (3, .ref (o + 483)), (4, .int (nI (4*j)))]) hx hb dL_law_573 hl (by decide) rfl (fun ls hl => ?_)
        refine lv_aload_n hx hb dL_law_575 rfl (lv_at hl 3 rfl) ?_
        refine lv_aload_n hx hb dL_law_576 rfl (lv_at hl 1 rfl) ?_
        refine lv_iload hx hb dL_law_577 (lv_at hl 5 rfl) ?_
        refine lv_iconst (v := nI 1) hx hb dL_law_579 (by decide) ?_
        refine n_iadd (n := 4*j + 1) hx hb dL_law_580 (by omega) ?_
        refine va_sld hx hb hX hbl hbA hS (vp_in_nI (by omega) (by omega)) dL_law_581 ?_
        refine k_top (y := nI q) (by rw [nI_clamp (by omega)]; exact eq) ?_
        refine lv_aload_n hx hb dL_law_582 rfl (lv_at hl 1 rfl) ?_
        refine lv_iload hx hb dL_law_583 (lv_at hl 5 rfl) ?_
        refine lv_iconst (v := nI 2) hx hb dL_law_585 (by decide) ?_
        refine n_iadd (n := 4*j + 2) hx hb dL_law_586 (by omega) ?_
        refine va_sld hx hb hX hbl hbA hS (vp_in_nI (by omega) (by omega)) dL_law_587 ?_
        refine k_top (y := nI k) (by rw [nI_clamp (by omega)]; exact ek) ?_
        refine k_VM (As := [.int (nI q), .int (nI k)]) (rest := []) S hK (c_X7_receive l E (o + 477) z w q k sn hI hq hk g9 hs hsn) gL_law_X7_receive rfl hd_X7_receive ⟨rfl, rfl⟩ ⟨Nat.le_of_ble_eq_true rfl, Nat.le_of_ble_eq_true rfl⟩ (k_recv hK hk2.1 rfl) hk2 rfl hl.1 rfl (Nat.le_of_ble_eq_true rfl) dL_law_588 ⟨by show _ ≤ 601024; omega, by show _ ≤ 7293034; omega⟩ hS (fun q h => by show o ≤ q; have := h.1; omega) (fun q h => by show o ≤ q; have := h.1; omega) (fun H locs hQ zH fH hS => ?_)
        have hP := hQ
        have hV7 := hP
        have hk0 := bo_fr2 hV5 (fun q hz hq => fH q hz (bl_ne hq (by omega)))
        have hk1 := gg_fr2 hV1 (fun q hz hq => fH q hz (bl_ne hq (by omega)))
        have hk3 := la_fr2 hV6 (fun q hz hq => fH q hz (bl_ne hq (by omega)))
        have hk4 := dz_fr2 hV2 (fun q hz hq => fH q hz (bl_ne hq (by omega)))
        have hk5 := tr_fr2 hV3 (fun q hz hq => fH q hz (bl_ne hq (by omega)))
        have hk6 := hy_fr2 hV4 (fun q hz hq => fH q hz (bl_ne hq (by omega)))
        refine lv_istore (lv' := [(6, .int (nI (cn z))), (5, .int (nI 0)), (0, .ref b), (1, .ref o), (2, .ref (o + 477)), (3, .ref (o + 483)), (4, .int (nI (4*j)))]) hx hb dL_law_591 hl (by decide) rfl (fun ls hl => ?_)
        refine lv_aload_n hx hb dL_law_593 rfl (lv_at hl 4 rfl) ?_
        refine k_V (As := []) (rest := []) S hK (c_X7_thrown l E (o + 477) (rcv z q k) (svW z (w_th w (nI 0)) sn)) gL_law_X7_thrown rfl hd_X7_thrown ⟨rfl, rfl⟩ ⟨Nat.le_of_ble_eq_true rfl, Nat.le_of_ble_eq_true rfl⟩ (k_recv hK hV7.1 rfl) hV7 rfl hl.1 rfl (Nat.le_of_ble_eq_true rfl) dL_law_594 ⟨by show _ ≤ 601024; omega, by show _ ≤ 7293034; omega⟩ ?_
        refine k_top (y := nI 0) rfl ?_
        refine lv_iload hx hb dL_law_597 (lv_at hl 1 rfl) ?_
        refine n_ieq (tgt := 604) hx hb dL_law_599 (by decide) (by omega) (by omega) (fun c599 => ?_) (fun h => absurd h (by decide))
        refine lv_iload hx hb dL_law_604 (lv_at hl 1 rfl) ?_
        refine lv_if_ne (tgt := 621) hx hb dL_law_606 (by decide) (fun h => absurd h (by decide)) (fun c606 => ?_)
        refine lv_aload_n hx hb dL_law_609 rfl (lv_at hl 5 rfl) ?_
        refine lv_iconst (v := nI 0) hx hb dL_law_610 (by decide) ?_
        refine l_lald hx hb hK hk3 dL_law_611 ?_
        refine lv_iload hx hb dL_law_612 (lv_at hl 0 rfl) ?_
        refine lv_i2l hx hb dL_law_614 rfl ?_
        refine l_lcmp hx hb dL_law_615 ?_
        refine lv_if_eq (tgt := 621) hx hb dL_law_616 (by decide) (fun c616 => ?_) (fun h => absurd h (by decide))
        refine lv_goto (tgt := 1824) hx hb dL_law_621 (by decide) ?_
        refine W.widen (k := 484 + (j + 1)) (n := 5828 + 6*(j + 1)) (by omega) (by omega) ?_
        exact T (rcv z q k) (svW z (w_th w (nI 0)) sn) (svN sn) bn _ _ _ (PI_sv hPI ⟨iv_rcv hI (by omega) hq hk, kw_rcv (by omega) hk9.2⟩ rfl rfl hbm hbn) (LI_mk hk1 hk4 hk5 hk6 hk0 hV7 hk3) hS (lv_sub hl [2, 3, 4, 5, 6] rfl)
    · refine lv_aload_n hx hb dL_law_556 rfl (lv_at hl 1 rfl) ?_
      refine lv_aload_n hx hb dL_law_557 rfl (lv_at hl 0 rfl) ?_
      refine lv_iload hx hb dL_law_558 (lv_at hl 4 rfl) ?_
      refine lv_iconst (v := nI 1) hx hb dL_law_560 (by decide) ?_
      refine n_iadd (n := 4*j + 1) hx hb dL_law_561 (by omega) ?_
      refine va_sld hx hb hX hbl hbA hS (vp_in_nI (by omega) (by omega)) dL_law_562 ?_
      refine k_top (y := nI q) (by rw [nI_clamp (by omega)]; exact eq) ?_
      refine lv_aload_n hx hb dL_law_563 rfl (lv_at hl 0 rfl) ?_
      refine lv_iload hx hb dL_law_564 (lv_at hl 4 rfl) ?_
      refine lv_iconst (v := nI 2) hx hb dL_law_566 (by decide) ?_
      refine n_iadd (n := 4*j + 2) hx hb dL_law_567 (by omega) ?_
      refine va_sld hx hb hX hbl hbA hS (vp_in_nI (by omega) (by omega)) dL_law_568 ?_
      refine k_top (y := xs (4*j + 2)) (by rw [nI_clamp (by omega)]) ?_
      refine lv_aload_n hx hb dL_law_569 rfl (lv_at hl 3 rfl) ?_
      refine l_SW (As := [.ref o, .int (nI q), .int (xs (4*j + 2)), .ref (o + 483)]) (rest := []) S hK hX9 hXh (y_L_receive_2 l hlS E (nb o) o z q (xs (4*j + 2)) (o + 483) x9 hI hq g2 (by omega)) gL_law_L_receive rfl hd_L_receive ⟨rfl, rfl⟩ ⟨Nat.le_of_ble_eq_true rfl, Nat.le_of_ble_eq_true rfl⟩ ⟨hWG, hWQ, hWO⟩ rfl hl.1 rfl (Nat.le_of_ble_eq_true rfl) dL_law_570 ⟨by show _ ≤ 601024; omega, by show _ ≤ 7293034; omega⟩ hS (fun q h => by show o ≤ q; have := h.1; omega) (fun q h => by show o ≤ q; have := h.1; omega) (fun H locs hQ zH fH hS => ?_)
      have hR0 := hQ
      have hV1 := hR0
      have hk0 := bo_fr2 hWB (fun q hz hq => fH q hz (bl_ne hq (by omega)))
      have hk1 := gg_fr2 hWG (fun q hz hq => fH q hz (bl_ne hq (by omega)))
      have hk2 := md_fr2 hWM (fun q hz hq => fH q hz (bl_ne hq (by omega)))
      have hk4 := dz_fr2 hWQ (fun q hz hq => fH q hz (bl_ne hq (by omega)))
      have hk5 := tr_fr2 hWT (fun q hz hq => fH q hz (bl_ne hq (by omega)))
      have hk6 := hy_fr2 hWY (fun q hz hq => fH q hz (bl_ne hq (by omega)))
      refine lv_istore (lv' := [(5, .int (nI 1)), (0, .ref b), (1, .ref o), (2, .ref (o + 477)), (3, .ref (o + 483)), (4, .int (nI (4*j)))]) hx hb dL_law_573 hl (by decide) rfl (fun ls hl => ?_)
      refine lv_aload_n hx hb dL_law_575 rfl (lv_at hl 3 rfl) ?_
      refine lv_aload_n hx hb dL_law_576 rfl (lv_at hl 1 rfl) ?_
      refine lv_iload hx hb dL_law_577 (lv_at hl 5 rfl) ?_
      refine lv_iconst (v := nI 1) hx hb dL_law_579 (by decide) ?_
      refine n_iadd (n := 4*j + 1) hx hb dL_law_580 (by omega) ?_
      refine va_sld hx hb hX hbl hbA hS (vp_in_nI (by omega) (by omega)) dL_law_581 ?_
      refine k_top (y := nI q) (by rw [nI_clamp (by omega)]; exact eq) ?_
      refine lv_aload_n hx hb dL_law_582 rfl (lv_at hl 1 rfl) ?_
      refine lv_iload hx hb dL_law_583 (lv_at hl 5 rfl) ?_
      refine lv_iconst (v := nI 2) hx hb dL_law_585 (by decide) ?_
      refine n_iadd (n := 4*j + 2) hx hb dL_law_586 (by omega) ?_
      refine va_sld hx hb hX hbl hbA hS (vp_in_nI (by omega) (by omega)) dL_law_587 ?_
      refine k_top (y := xs (4*j + 2)) (by rw [nI_clamp (by omega)]) ?_
      refine k_VM (As := [.int (nI q), .int (xs (4*j + 2))]) (rest := []) S hK (c_X7_receive_f2 l E (o + 477) z w q (xs (4*j + 2)) hI hq g2) gL_law_X7_receive rfl hd_X7_receive ⟨rfl, rfl⟩ ⟨Nat.le_of_ble_eq_true rfl, Nat.le_of_ble_eq_true rfl⟩ (k_recv hK hk2.1 rfl) hk2 rfl hl.1 rfl (Nat.le_of_ble_eq_true rfl) dL_law_588 ⟨by show _ ≤ 601024; omega, by show _ ≤ 7293034; omega⟩ hS (fun q h => by show o ≤ q; have := h.1; omega) (fun q h => by show o ≤ q; have := h.1; omega) (fun H locs hQ zH fH hS => ?_)
      have hP := hQ
      have hV2 := hP
      have hk0 := bo_fr2 hk0 (fun q hz hq => fH q hz (bl_ne hq (by omega)))
      have hk1 := gg_fr2 hk1 (fun q hz hq => fH q hz (bl_ne hq (by omega)))
      have hk3 := la_fr2 hV1 (fun q hz hq => fH q hz (bl_ne hq (by omega)))
      have hk4 := dz_fr2 hk4 (fun q hz hq => fH q hz (bl_ne hq (by omega)))
      have hk5 := tr_fr2 hk5 (fun q hz hq => fH q hz (bl_ne hq (by omega)))
      have hk6 := hy_fr2 hk6 (fun q hz hq => fH q hz (bl_ne hq (by omega)))
      refine lv_istore (lv' := [(6, .int (nI 0)), (5, .int (nI 1)), (0, .ref b), (1, .ref o), (2, .ref (o + 477)), (3, .ref (o + 483)), (4, .int (nI (4*j)))]) hx hb dL_law_591 hl (by decide) rfl (fun ls hl => ?_)
      refine lv_aload_n hx hb dL_law_593 rfl (lv_at hl 4 rfl) ?_
      refine k_V (As := []) (rest := []) S hK (c_X7_thrown l E (o + 477) z (w_th w (nI 1))) gL_law_X7_thrown rfl hd_X7_thrown ⟨rfl, rfl⟩ ⟨Nat.le_of_ble_eq_true rfl, Nat.le_of_ble_eq_true rfl⟩ (k_recv hK hV2.1 rfl) hV2 rfl hl.1 rfl (Nat.le_of_ble_eq_true rfl) dL_law_594 ⟨by show _ ≤ 601024; omega, by show _ ≤ 7293034; omega⟩ ?_
      refine k_top (y := nI 1) rfl ?_
      refine lv_iload hx hb dL_law_597 (lv_at hl 1 rfl) ?_
      refine n_ieq (tgt := 604) hx hb dL_law_599 (by decide) (by omega) (by omega) (fun c599 => ?_) (fun h => absurd h (by decide))
      refine lv_iload hx hb dL_law_604 (lv_at hl 1 rfl) ?_
      refine lv_if_ne (tgt := 621) hx hb dL_law_606 (by decide) (fun c606 => ?_) (fun h => absurd h (by decide))
      refine lv_goto (tgt := 1824) hx hb dL_law_621 (by decide) ?_
      refine W.widen (k := 484 + (j + 1)) (n := 5828 + 6*(j + 1)) (by omega) (by omega) ?_
      exact T z (w_th w (nI 1)) sn bn _ _ _ hPI (LI_mk hk1 hk4 hk5 hk6 hk0 hV2 hk3) hS (lv_sub hl [2, 3, 4, 5, 6] rfl)
  · refine lv_aload_n hx hb dL_law_556 rfl (lv_at hl 1 rfl) ?_
    refine lv_aload_n hx hb dL_law_557 rfl (lv_at hl 0 rfl) ?_
    refine lv_iload hx hb dL_law_558 (lv_at hl 4 rfl) ?_
    refine lv_iconst (v := nI 1) hx hb dL_law_560 (by decide) ?_
    refine n_iadd (n := 4*j + 1) hx hb dL_law_561 (by omega) ?_
    refine va_sld hx hb hX hbl hbA hS (vp_in_nI (by omega) (by omega)) dL_law_562 ?_
    refine k_top (y := xs (4*j + 1)) (by rw [nI_clamp (by omega)]) ?_
    refine lv_aload_n hx hb dL_law_563 rfl (lv_at hl 0 rfl) ?_
    refine lv_iload hx hb dL_law_564 (lv_at hl 4 rfl) ?_
    refine lv_iconst (v := nI 2) hx hb dL_law_566 (by decide) ?_
    refine n_iadd (n := 4*j + 2) hx hb dL_law_567 (by omega) ?_
    refine va_sld hx hb hX hbl hbA hS (vp_in_nI (by omega) (by omega)) dL_law_568 ?_
    refine k_top (y := xs (4*j + 2)) (by rw [nI_clamp (by omega)]) ?_
    refine lv_aload_n hx hb dL_law_569 rfl (lv_at hl 3 rfl) ?_
    refine l_SW (As := [.ref o, .int (xs (4*j + 1)), .int (xs (4*j + 2)), .ref (o + 483)]) (rest := []) S hK hX9 hXh (y_L_receive_1 l hlS E (nb o) o z (xs (4*j + 1)) (xs (4*j + 2)) (o + 483) x9 hI g1 (by omega)) gL_law_L_receive rfl hd_L_receive ⟨rfl, rfl⟩ ⟨Nat.le_of_ble_eq_true rfl, Nat.le_of_ble_eq_true rfl⟩ ⟨hWG, hWQ, hWO⟩ rfl hl.1 rfl (Nat.le_of_ble_eq_true rfl) dL_law_570 ⟨by show _ ≤ 601024; omega, by show _ ≤ 7293034; omega⟩ hS (fun q h => by show o ≤ q; have := h.1; omega) (fun q h => by show o ≤ q; have := h.1; omega) (fun H locs hQ zH fH hS => ?_)
    have hR0 := hQ
    have hV1 := hR0
    have hk0 := bo_fr2 hWB (fun q hz hq => fH q hz (bl_ne hq (by omega)))
    have hk1 := gg_fr2 hWG (fun q hz hq => fH q hz (bl_ne hq (by omega)))
    have hk2 := md_fr2 hWM (fun q hz hq => fH q hz (bl_ne hq (by omega)))
    have hk4 := dz_fr2 hWQ (fun q hz hq => fH q hz (bl_ne hq (by omega)))
    have hk5 := tr_fr2 hWT (fun q hz hq => fH q hz (bl_ne hq (by omega)))
    have hk6 := hy_fr2 hWY (fun q hz hq => fH q hz (bl_ne hq (by omega)))
    refine lv_istore (lv' := [(5, .int (nI 1)), (0, .ref b), (1, .ref o), (2, .ref (o + 477)), (3, .ref (o + 483)), (4, .int (nI (4*j)))]) hx hb dL_law_573 hl (by decide) rfl (fun ls hl => ?_)
    refine lv_aload_n hx hb dL_law_575 rfl (lv_at hl 3 rfl) ?_
    refine lv_aload_n hx hb dL_law_576 rfl (lv_at hl 1 rfl) ?_
    refine lv_iload hx hb dL_law_577 (lv_at hl 5 rfl) ?_
    refine lv_iconst (v := nI 1) hx hb dL_law_579 (by decide) ?_
    refine n_iadd (n := 4*j + 1) hx hb dL_law_580 (by omega) ?_
    refine va_sld hx hb hX hbl hbA hS (vp_in_nI (by omega) (by omega)) dL_law_581 ?_
    refine k_top (y := xs (4*j + 1)) (by rw [nI_clamp (by omega)]) ?_
    refine lv_aload_n hx hb dL_law_582 rfl (lv_at hl 1 rfl) ?_
    refine lv_iload hx hb dL_law_583 (lv_at hl 5 rfl) ?_
    refine lv_iconst (v := nI 2) hx hb dL_law_585 (by decide) ?_
    refine n_iadd (n := 4*j + 2) hx hb dL_law_586 (by omega) ?_
    refine va_sld hx hb hX hbl hbA hS (vp_in_nI (by omega) (by omega)) dL_law_587 ?_
    refine k_top (y := xs (4*j + 2)) (by rw [nI_clamp (by omega)]) ?_
    refine k_VM (As := [.int (xs (4*j + 1)), .int (xs (4*j + 2))]) (rest := []) S hK (c_X7_receive_f1 l E (o + 477) z w (xs (4*j + 1)) (xs (4*j + 2)) hI g1) gL_law_X7_receive rfl hd_X7_receive ⟨rfl, rfl⟩ ⟨Nat.le_of_ble_eq_true rfl, Nat.le_of_ble_eq_true rfl⟩ (k_recv hK hk2.1 rfl) hk2 rfl hl.1 rfl (Nat.le_of_ble_eq_true rfl) dL_law_588 ⟨by show _ ≤ 601024; omega, by show _ ≤ 7293034; omega⟩ hS (fun q h => by show o ≤ q; have := h.1; omega) (fun q h => by show o ≤ q; have := h.1; omega) (fun H locs hQ zH fH hS => ?_)
    have hP := hQ
    have hV2 := hP
    have hk0 := bo_fr2 hk0 (fun q hz hq => fH q hz (bl_ne hq (by omega)))
    have hk1 := gg_fr2 hk1 (fun q hz hq => fH q hz (bl_ne hq (by omega)))
    have hk3 := la_fr2 hV1 (fun q hz hq => fH q hz (bl_ne hq (by omega)))
    have hk4 := dz_fr2 hk4 (fun q hz hq => fH q hz (bl_ne hq (by omega)))
    have hk5 := tr_fr2 hk5 (fun q hz hq => fH q hz (bl_ne hq (by omega)))
    have hk6 := hy_fr2 hk6 (fun q hz hq => fH q hz (bl_ne hq (by omega)))
    refine lv_istore (lv' := [(6, .int (nI 0)), (5, .int (nI 1)), (0, .ref b), (1, .ref o), (2, .ref (o + 477)), (3, .ref (o + 483)), (4, .int (nI (4*j)))]) hx hb dL_law_591 hl (by decide) rfl (fun ls hl => ?_)
    refine lv_aload_n hx hb dL_law_593 rfl (lv_at hl 4 rfl) ?_
    refine k_V (As := []) (rest := []) S hK (c_X7_thrown l E (o + 477) z (w_th w (nI 1))) gL_law_X7_thrown rfl hd_X7_thrown ⟨rfl, rfl⟩ ⟨Nat.le_of_ble_eq_true rfl, Nat.le_of_ble_eq_true rfl⟩ (k_recv hK hV2.1 rfl) hV2 rfl hl.1 rfl (Nat.le_of_ble_eq_true rfl) dL_law_594 ⟨by show _ ≤ 601024; omega, by show _ ≤ 7293034; omega⟩ ?_
    refine k_top (y := nI 1) rfl ?_
    refine lv_iload hx hb dL_law_597 (lv_at hl 1 rfl) ?_
    refine n_ieq (tgt := 604) hx hb dL_law_599 (by decide) (by omega) (by omega) (fun c599 => ?_) (fun h => absurd h (by decide))
    refine lv_iload hx hb dL_law_604 (lv_at hl 1 rfl) ?_
    refine lv_if_ne (tgt := 621) hx hb dL_law_606 (by decide) (fun c606 => ?_) (fun h => absurd h (by decide))
    refine lv_goto (tgt := 1824) hx hb dL_law_621 (by decide) ?_
    refine W.widen (k := 484 + (j + 1)) (n := 5828 + 6*(j + 1)) (by omega) (by omega) ?_
    exact T z (w_th w (nI 1)) sn bn _ _ _ hPI (LI_mk hk1 hk4 hk5 hk6 hk0 hV2 hk3) hS (lv_sub hl [2, 3, 4, 5, 6] rfl)
set_option maxHeartbeats 4000000 in
set_option maxRecDepth 100000 in
theorem law_6 {p : Program} {l : Launch} {e : Env} {s : State} {m : MethodId} {below : List Frame} {meth : Method} {c : Code} {E : ke_E} {b o L j : Nat} {xs : Nat → Int32} {Q : State → Prop} (C : LC9 p l s m c E b o L xs) (hj : 4*j + 4 ≤ L) (T : LT9 p l e s m below meth c E b o j Q) : ∀ (z : Nat → Int32) (w : md_w) (sn bn : Nat) (H : Heap) (locs : List Loc) (ls : Array Slot), PI9 z w sn bn → LI9 E o z w sn bn H → va_S (nb o) s.heap H locs → lv_has ls 9 [(0, .ref b), (1, .ref o), (2, .ref (o + 477)), (3, .ref (o + 483)), (4, .int (nI (4*j)))] → W p l e room_1 s m #[.ref b] below meth c H locs (484 + j) (5828 + 6*j) Q (F0 m 624 ls []) := by
  intro z w sn bn H locs ls hPI hLI hS hl
  obtain ⟨S, hlS, hK, hX9, hXh, hX, hbo, hsz9, hL⟩ := C
  have hx := S.1
  have hb := S.2.1
  have hts := S.2.2.2.2
  obtain ⟨hs, hsn, hbm, hbn, hk9, hrows⟩ := id hPI
  have hI := hk9.1
  have hJ := hk9.2.1
  have hpw := hk9.2.2
  have hc20 := iv_c hI
  obtain ⟨hWG, hWQ, hWT, hWY, hWB, hWM, x9, hWO⟩ := hLI
  have hbl : b < s.heap.size := by omega
  have hbA : ¬ nb o b := by show ¬ o ≤ b; omega
  by_cases g1 : inR (xs (4*j + 1)) (cn z)
  · obtain ⟨u, hu, eu⟩ := g1
    by_cases g2 : inR (xs (4*j + 2)) 4
    · obtain ⟨t, ht, et⟩ := g2
      by_cases g3 : nI 0 ≤ (xs (4*j + 3)) ∧ (xs (4*j + 3)) ≤ nI 9
      · by_cases g9 : z (13*u + 68) = 0
        · refine lv_aload_n hx hb dL_law_624 rfl (lv_at hl 1 rfl) ?_
          refine lv_aload_n hx hb dL_law_625 rfl (lv_at hl 0 rfl) ?_
          refine lv_iload hx hb dL_law_626 (lv_at hl 4 rfl) ?_
          refine lv_iconst (v := nI 1) hx hb dL_law_628 (by decide) ?_
          refine n_iadd (n := 4*j + 1) hx hb dL_law_629 (by omega) ?_
          refine va_sld hx hb hX hbl hbA hS (vp_in_nI (by omega) (by omega)) dL_law_630 ?_
          refine k_top (y := nI u) (by rw [nI_clamp (by omega)]; exact eu) ?_
          refine lv_aload_n hx hb dL_law_631 rfl (lv_at hl 0 rfl) ?_
          refine lv_iload hx hb dL_law_632 (lv_at hl 4 rfl) ?_
          refine lv_iconst (v := nI 2) hx hb dL_law_634 (by decide) ?_
          refine n_iadd (n := 4*j + 2) hx hb dL_law_635 (by omega) ?_
          refine va_sld hx hb hX hbl hbA hS (vp_in_nI (by omega) (by omega)) dL_law_636 ?_
          refine k_top (y := nI t) (by rw [nI_clamp (by omega)]; exact et) ?_
          refine lv_aload_n hx hb dL_law_637 rfl (lv_at hl 0 rfl) ?_
          refine lv_iload hx hb dL_law_638 (lv_at hl 4 rfl) ?_
          refine lv_iconst (v := nI 3) hx hb dL_law_640 (by decide) ?_
          refine n_iadd (n := 4*j + 3) hx hb dL_law_641 (by omega) ?_
          refine va_sld hx hb hX hbl hbA hS (vp_in_nI (by omega) (by omega)) dL_law_642 ?_
          refine k_top (y := xs (4*j + 3)) (by rw [nI_clamp (by omega)]) ?_
          refine lv_aload_n hx hb dL_law_643 rfl (lv_at hl 3 rfl) ?_
          refine l_SW (As := [.ref o, .int (nI u), .int (nI t), .int (xs (4*j + 3)), .ref (o + 483)]) (rest := []) S hK hX9 hXh (c_L_test l hlS E (nb o) o z sn (q_rows w) bn (q_buf w) u t (xs (4*j + 3)) (o + 483) x9 hI hsn hu ht g3 g9 (by omega)) gL_law_L_test rfl hd_L_test ⟨rfl, rfl⟩ ⟨Nat.le_of_ble_eq_true rfl, Nat.le_of_ble_eq_true rfl⟩ ⟨hWG, hWQ, hWT, hWY, hWB, hWO⟩ rfl hl.1 rfl (Nat.le_of_ble_eq_true rfl) dL_law_644 ⟨by show _ ≤ 601024; omega, by show _ ≤ 7293034; omega⟩ hS (fun q h => h.elim (fun h => by show o ≤ q; have := h.1; omega) (fun h => by show o ≤ q; have := h.1; omega)) (fun q h => h.elim (fun h => by show o ≤ q; have := h.1; omega) (fun h => by show o ≤ q; have := h.1; omega)) (fun H locs hQ zH fH hS => ?_)
          obtain ⟨hR0, hR1, hR2, hR3, hR4, hR5⟩ := hQ
          have hV1 := hR0
          have hV2 := hR1
          have hV3 := hR2
          have hV4 := hR3
          have hV5 := hR4
          have hV6 := hR5
          have hk2 := md_fr2 hWM (fun q hz hq => fH q hz (ow_ne hq (by omega)))
          refine lv_istore (lv' := [(5, .int (nI 0)), (0, .ref b), (1, .ref o), (2, .ref (o + 477)), (3, .ref (o + 483)), (4, .int (nI (4*j)))]) hx hb dL_law_647 hl (by decide) rfl (fun ls hl => ?_)
          refine lv_aload_n hx hb dL_law_649 rfl (lv_at hl 3 rfl) ?_
          refine lv_aload_n hx hb dL_law_650 rfl (lv_at hl 1 rfl) ?_
          refine lv_iload hx hb dL_law_651 (lv_at hl 5 rfl) ?_
          refine lv_iconst (v := nI 1) hx hb dL_law_653 (by decide) ?_
          refine n_iadd (n := 4*j + 1) hx hb dL_law_654 (by omega) ?_
          refine va_sld hx hb hX hbl hbA hS (vp_in_nI (by omega) (by omega)) dL_law_655 ?_
          refine k_top (y := nI u) (by rw [nI_clamp (by omega)]; exact eu) ?_
          refine lv_aload_n hx hb dL_law_656 rfl (lv_at hl 1 rfl) ?_
          refine lv_iload hx hb dL_law_657 (lv_at hl 5 rfl) ?_
          refine lv_iconst (v := nI 2) hx hb dL_law_659 (by decide) ?_
          refine n_iadd (n := 4*j + 2) hx hb dL_law_660 (by omega) ?_
          refine va_sld hx hb hX hbl hbA hS (vp_in_nI (by omega) (by omega)) dL_law_661 ?_
          refine k_top (y := nI t) (by rw [nI_clamp (by omega)]; exact et) ?_
          refine lv_aload_n hx hb dL_law_662 rfl (lv_at hl 1 rfl) ?_
          refine lv_iload hx hb dL_law_663 (lv_at hl 5 rfl) ?_
          refine lv_iconst (v := nI 3) hx hb dL_law_665 (by decide) ?_
          refine n_iadd (n := 4*j + 3) hx hb dL_law_666 (by omega) ?_
          refine va_sld hx hb hX hbl hbA hS (vp_in_nI (by omega) (by omega)) dL_law_667 ?_
          refine k_top (y := xs (4*j + 3)) (by rw [nI_clamp (by omega)]) ?_
          refine k_VM (As := [.int (nI u), .int (nI t), .int (xs (4*j + 3))]) (rest := []) S hK (c_X7_test l E (o + 477) z w u t (xs (4*j + 3)) sn hI hu ht g3 g9 hs hsn) gL_law_X7_test rfl hd_X7_test ⟨rfl, rfl⟩ ⟨Nat.le_of_ble_eq_true rfl, Nat.le_of_ble_eq_true rfl⟩ (k_recv hK hk2.1 rfl) hk2 rfl hl.1 rfl (Nat.le_of_ble_eq_true rfl) dL_law_668 ⟨by show _ ≤ 601024; omega, by show _ ≤ 7293034; omega⟩ hS (fun q h => by show o ≤ q; have := h.1; omega) (fun q h => by show o ≤ q; have := h.1; omega) (fun H locs hQ zH fH hS => ?_)
          have hP := hQ
          have hV7 := hP
          have hk0 := bo_fr2 hV5 (fun q hz hq => fH q hz (bl_ne hq (by omega)))
          have hk1 := gg_fr2 hV1 (fun q hz hq => fH q hz (bl_ne hq (by omega)))
          have hk3 := la_fr2 hV6 (fun q hz hq => fH q hz (bl_ne hq (by omega)))
          have hk4 := dz_fr2 hV2 (fun q hz hq => fH q hz (bl_ne hq (by omega)))
          have hk5 := tr_fr2 hV3 (fun q hz hq => fH q hz (bl_ne hq (by omega)))
          have hk6 := hy_fr2 hV4 (fun q hz hq => fH q hz (bl_ne hq (by omega)))
          refine lv_istore (lv' := [(6, .int (grT (teZ z u t (xs (4*j + 3))) u)), (5, .int (nI 0)), (0, .ref b), (1, .ref o), (2, .ref (o + 477)), (3, .ref (o + 483)), (4, .int (nI (4*j)))]) hx hb dL_law_671 hl (by decide) rfl (fun ls hl => ?_)
          refine lv_aload_n hx hb dL_law_673 rfl (lv_at hl 4 rfl) ?_
          refine k_V (As := []) (rest := []) S hK (c_X7_thrown l E (o + 477) (teZ z u t (xs (4*j + 3))) (svW z (w_th w (nI 0)) sn)) gL_law_X7_thrown rfl hd_X7_thrown ⟨rfl, rfl⟩ ⟨Nat.le_of_ble_eq_true rfl, Nat.le_of_ble_eq_true rfl⟩ (k_recv hK hV7.1 rfl) hV7 rfl hl.1 rfl (Nat.le_of_ble_eq_true rfl) dL_law_674 ⟨by show _ ≤ 601024; omega, by show _ ≤ 7293034; omega⟩ ?_
          refine k_top (y := nI 0) rfl ?_
          refine lv_iload hx hb dL_law_677 (lv_at hl 1 rfl) ?_
          refine n_ieq (tgt := 684) hx hb dL_law_679 (by decide) (by omega) (by omega) (fun c679 => ?_) (fun h => absurd h (by decide))
          refine lv_iload hx hb dL_law_684 (lv_at hl 1 rfl) ?_
          refine lv_if_ne (tgt := 701) hx hb dL_law_686 (by decide) (fun h => absurd h (by decide)) (fun c686 => ?_)
          refine lv_aload_n hx hb dL_law_689 rfl (lv_at hl 5 rfl) ?_
          refine lv_iconst (v := nI 0) hx hb dL_law_690 (by decide) ?_
          refine l_lald hx hb hK hk3 dL_law_691 ?_
          refine lv_iload hx hb dL_law_692 (lv_at hl 0 rfl) ?_
          refine lv_i2l hx hb dL_law_694 rfl ?_
          refine l_lcmp hx hb dL_law_695 ?_
          refine lv_if_eq (tgt := 701) hx hb dL_law_696 (by decide) (fun c696 => ?_) (fun h => absurd h (by decide))
          refine lv_goto (tgt := 1824) hx hb dL_law_701 (by decide) ?_
          refine W.widen (k := 484 + (j + 1)) (n := 5828 + 6*(j + 1)) (by omega) (by omega) ?_
          exact T (teZ z u t (xs (4*j + 3))) (svW z (w_th w (nI 0)) sn) (svN sn) bn _ _ _ (PI_sv hPI ⟨iv_te9 hI ht g3, kw_te ht hk9.2⟩ rfl rfl hbm hbn) (LI_mk hk1 hk4 hk5 hk6 hk0 hV7 hk3) hS (lv_sub hl [2, 3, 4, 5, 6] rfl)
        · refine lv_aload_n hx hb dL_law_624 rfl (lv_at hl 1 rfl) ?_
          refine lv_aload_n hx hb dL_law_625 rfl (lv_at hl 0 rfl) ?_
          refine lv_iload hx hb dL_law_626 (lv_at hl 4 rfl) ?_
          refine lv_iconst (v := nI 1) hx hb dL_law_628 (by decide) ?_
          refine n_iadd (n := 4*j + 1) hx hb dL_law_629 (by omega) ?_
          refine va_sld hx hb hX hbl hbA hS (vp_in_nI (by omega) (by omega)) dL_law_630 ?_
          refine k_top (y := nI u) (by rw [nI_clamp (by omega)]; exact eu) ?_
          refine lv_aload_n hx hb dL_law_631 rfl (lv_at hl 0 rfl) ?_
          refine lv_iload hx hb dL_law_632 (lv_at hl 4 rfl) ?_
          refine lv_iconst (v := nI 2) hx hb dL_law_634 (by decide) ?_
          refine n_iadd (n := 4*j + 2) hx hb dL_law_635 (by omega) ?_
          refine va_sld hx hb hX hbl hbA hS (vp_in_nI (by omega) (by omega)) dL_law_636 ?_
          refine k_top (y := nI t) (by rw [nI_clamp (by omega)]; exact et) ?_
          refine lv_aload_n hx hb dL_law_637 rfl (lv_at hl 0 rfl) ?_
          refine lv_iload hx hb dL_law_638 (lv_at hl 4 rfl) ?_
          refine lv_iconst (v := nI 3) hx hb dL_law_640 (by decide) ?_
          refine n_iadd (n := 4*j + 3) hx hb dL_law_641 (by omega) ?_
          refine va_sld hx hb hX hbl hbA hS (vp_in_nI (by omega) (by omega)) dL_law_642 ?_
          refine k_top (y := xs (4*j + 3)) (by rw [nI_clamp (by omega)]) ?_
          refine lv_aload_n hx hb dL_law_643 rfl (lv_at hl 3 rfl) ?_
          refine l_SW (As := [.ref o, .int (nI u), .int (nI t), .int (xs (4*j + 3)), .ref (o + 483)]) (rest := []) S hK hX9 hXh (y_L_test_4 l hlS E (nb o) o z u t (xs (4*j + 3)) (o + 483) x9 hI hu ht g3 g9 (by omega)) gL_law_L_test rfl hd_L_test ⟨rfl, rfl⟩ ⟨Nat.le_of_ble_eq_true rfl, Nat.le_of_ble_eq_true rfl⟩ ⟨hWG, hWQ, hWO⟩ rfl hl.1 rfl (Nat.le_of_ble_eq_true rfl) dL_law_644 ⟨by show _ ≤ 601024; omega, by show _ ≤ 7293034; omega⟩ hS (fun q h => by show o ≤ q; have := h.1; omega) (fun q h => by show o ≤ q; have := h.1; omega) (fun H locs hQ zH fH hS => ?_)
          have hR0 := hQ
          have hV1 := hR0
          have hk0 := bo_fr2 hWB (fun q hz hq => fH q hz (bl_ne hq (by omega)))
          have hk1 := gg_fr2 hWG (fun q hz hq => fH q hz (bl_ne hq (by omega)))
          have hk2 := md_fr2 hWM (fun q hz hq => fH q hz (bl_ne hq (by omega)))
          have hk4 := dz_fr2 hWQ (fun q hz hq => fH q hz (bl_ne hq (by omega)))
          have hk5 := tr_fr2 hWT (fun q hz hq => fH q hz (bl_ne hq (by omega)))
          have hk6 := hy_fr2 hWY (fun q hz hq => fH q hz (bl_ne hq (by omega)))
          refine lv_istore (lv' := [(5, .int (nI 3)), (0, .ref b), (1, .ref o), (2, .ref (o + 477)), (3, .ref (o + 483)), (4, .int (nI (4*j)))]) hx hb dL_law_647 hl (by decide) rfl (fun ls hl => ?_)
          refine lv_aload_n hx hb dL_law_649 rfl (lv_at hl 3 rfl) ?_
          refine lv_aload_n hx hb dL_law_650 rfl (lv_at hl 1 rfl) ?_
          refine lv_iload hx hb dL_law_651 (lv_at hl 5 rfl) ?_
          refine lv_iconst (v := nI 1) hx hb dL_law_653 (by decide) ?_
          refine n_iadd (n := 4*j + 1) hx hb dL_law_654 (by omega) ?_
          refine va_sld hx hb hX hbl hbA hS (vp_in_nI (by omega) (by omega)) dL_law_655 ?_
          refine k_top (y := nI u) (by rw [nI_clamp (by omega)]; exact eu) ?_
          refine lv_aload_n hx hb dL_law_656 rfl (lv_at hl 1 rfl) ?_
          refine lv_iload hx hb dL_law_657 (lv_at hl 5 rfl) ?_
          refine lv_iconst (v := nI 2) hx hb dL_law_659 (by decide) ?_
          refine n_iadd (n := 4*j + 2) hx hb dL_law_660 (by omega) ?_
          refine va_sld hx hb hX hbl hbA hS (vp_in_nI (by omega) (by omega)) dL_law_661 ?_
          refine k_top (y := nI t) (by rw [nI_clamp (by omega)]; exact et) ?_
          refine lv_aload_n hx hb dL_law_662 rfl (lv_at hl 1 rfl) ?_
          refine lv_iload hx hb dL_law_663 (lv_at hl 5 rfl) ?_
          refine lv_iconst (v := nI 3) hx hb dL_law_665 (by decide) ?_
          refine n_iadd (n := 4*j + 3) hx hb dL_law_666 (by omega) ?_
          refine va_sld hx hb hX hbl hbA hS (vp_in_nI (by omega) (by omega)) dL_law_667 ?_
          refine k_top (y := xs (4*j + 3)) (by rw [nI_clamp (by omega)]) ?_
          refine k_VM (As := [.int (nI u), .int (nI t), .int (xs (4*j + 3))]) (rest := []) S hK (c_X7_test_f4 l E (o + 477) z w u t (xs (4*j + 3)) hI hu ht g3 g9) gL_law_X7_test rfl hd_X7_test ⟨rfl, rfl⟩ ⟨Nat.le_of_ble_eq_true rfl, Nat.le_of_ble_eq_true rfl⟩ (k_recv hK hk2.1 rfl) hk2 rfl hl.1 rfl (Nat.le_of_ble_eq_true rfl) dL_law_668 ⟨by show _ ≤ 601024; omega, by show _ ≤ 7293034; omega⟩ hS (fun q h => by show o ≤ q; have := h.1; omega) (fun q h => by show o ≤ q; have := h.1; omega) (fun H locs hQ zH fH hS => ?_)
          have hP := hQ
          have hV2 := hP
          have hk0 := bo_fr2 hk0 (fun q hz hq => fH q hz (bl_ne hq (by omega)))
          have hk1 := gg_fr2 hk1 (fun q hz hq => fH q hz (bl_ne hq (by omega)))
          have hk3 := la_fr2 hV1 (fun q hz hq => fH q hz (bl_ne hq (by omega)))
          have hk4 := dz_fr2 hk4 (fun q hz hq => fH q hz (bl_ne hq (by omega)))
          have hk5 := tr_fr2 hk5 (fun q hz hq => fH q hz (bl_ne hq (by omega)))
          have hk6 := hy_fr2 hk6 (fun q hz hq => fH q hz (bl_ne hq (by omega)))
          refine lv_istore (lv' := [(6, .int (nI 0)), (5, .int (nI 3)), (0, .ref b), (1, .ref o), (2, .ref (o + 477)), (3, .ref (o + 483)), (4, .int (nI (4*j)))]) hx hb dL_law_671 hl (by decide) rfl (fun ls hl => ?_)
          refine lv_aload_n hx hb dL_law_673 rfl (lv_at hl 4 rfl) ?_
          refine k_V (As := []) (rest := []) S hK (c_X7_thrown l E (o + 477) z (w_th w (nI 3))) gL_law_X7_thrown rfl hd_X7_thrown ⟨rfl, rfl⟩ ⟨Nat.le_of_ble_eq_true rfl, Nat.le_of_ble_eq_true rfl⟩ (k_recv hK hV2.1 rfl) hV2 rfl hl.1 rfl (Nat.le_of_ble_eq_true rfl) dL_law_674 ⟨by show _ ≤ 601024; omega, by show _ ≤ 7293034; omega⟩ ?_
          refine k_top (y := nI 3) rfl ?_
          refine lv_iload hx hb dL_law_677 (lv_at hl 1 rfl) ?_
          refine n_ieq (tgt := 684) hx hb dL_law_679 (by decide) (by omega) (by omega) (fun c679 => ?_) (fun h => absurd h (by decide))
          refine lv_iload hx hb dL_law_684 (lv_at hl 1 rfl) ?_
          refine lv_if_ne (tgt := 701) hx hb dL_law_686 (by decide) (fun c686 => ?_) (fun h => absurd h (by decide))
          refine lv_goto (tgt := 1824) hx hb dL_law_701 (by decide) ?_
          refine W.widen (k := 484 + (j + 1)) (n := 5828 + 6*(j + 1)) (by omega) (by omega) ?_
          exact T z (w_th w (nI 3)) sn bn _ _ _ hPI (LI_mk hk1 hk4 hk5 hk6 hk0 hV2 hk3) hS (lv_sub hl [2, 3, 4, 5, 6] rfl)
      · refine lv_aload_n hx hb dL_law_624 rfl (lv_at hl 1 rfl) ?_
        refine lv_aload_n hx hb dL_law_625 rfl (lv_at hl 0 rfl) ?_
        refine lv_iload hx hb dL_law_626 (lv_at hl 4 rfl) ?_
        refine lv_iconst (v := nI 1) hx hb dL_law_628 (by decide) ?_
        refine n_iadd (n := 4*j + 1) hx hb dL_law_629 (by omega) ?_
        refine va_sld hx hb hX hbl hbA hS (vp_in_nI (by omega) (by omega)) dL_law_630 ?_
        refine k_top (y := nI u) (by rw [nI_clamp (by omega)]; exact eu) ?_
        refine lv_aload_n hx hb dL_law_631 rfl (lv_at hl 0 rfl) ?_
        refine lv_iload hx hb dL_law_632 (lv_at hl 4 rfl) ?_
        refine lv_iconst (v := nI 2) hx hb dL_law_634 (by decide) ?_
        refine n_iadd (n := 4*j + 2) hx hb dL_law_635 (by omega) ?_
        refine va_sld hx hb hX hbl hbA hS (vp_in_nI (by omega) (by omega)) dL_law_636 ?_
        refine k_top (y := nI t) (by rw [nI_clamp (by omega)]; exact et) ?_
        refine lv_aload_n hx hb dL_law_637 rfl (lv_at hl 0 rfl) ?_
        refine lv_iload hx hb dL_law_638 (lv_at hl 4 rfl) ?_
        refine lv_iconst (v := nI 3) hx hb dL_law_640 (by decide) ?_
        refine n_iadd (n := 4*j + 3) hx hb dL_law_641 (by omega) ?_
        refine va_sld hx hb hX hbl hbA hS (vp_in_nI (by omega) (by omega)) dL_law_642 ?_
        refine k_top (y := xs (4*j + 3)) (by rw [nI_clamp (by omega)]) ?_
        refine lv_aload_n hx hb dL_law_643 rfl (lv_at hl 3 rfl) ?_
        refine l_SW (As := [.ref o, .int (nI u), .int (nI t), .int (xs (4*j + 3)), .ref (o + 483)]) (rest := []) S hK hX9 hXh (y_L_test_3 l hlS E (nb o) o z u t (xs (4*j + 3)) (o + 483) x9 hI hu ht g3 (by omega)) gL_law_L_test rfl hd_L_test ⟨rfl, rfl⟩ ⟨Nat.le_of_ble_eq_true rfl, Nat.le_of_ble_eq_true rfl⟩ ⟨hWG, hWQ, hWO⟩ rfl hl.1 rfl (Nat.le_of_ble_eq_true rfl) dL_law_644 ⟨by show _ ≤ 601024; omega, by show _ ≤ 7293034; omega⟩ hS (fun q h => by show o ≤ q; have := h.1; omega) (fun q h => by show o ≤ q; have := h.1; omega) (fun H locs hQ zH fH hS => ?_)
        have hR0 := hQ
        have hV1 := hR0
        have hk0 := bo_fr2 hWB (fun q hz hq => fH q hz (bl_ne hq (by omega)))
        have hk1 := gg_fr2 hWG (fun q hz hq => fH q hz (bl_ne hq (by omega)))
        have hk2 := md_fr2 hWM (fun q hz hq => fH q hz (bl_ne hq (by omega)))
        have hk4 := dz_fr2 hWQ (fun q hz hq => fH q hz (bl_ne hq (by omega)))
        have hk5 := tr_fr2 hWT (fun q hz hq => fH q hz (bl_ne hq (by omega)))
        have hk6 := hy_fr2 hWY (fun q hz hq => fH q hz (bl_ne hq (by omega)))
        refine lv_istore (lv' := [(5, .int (nI 2)), (0, .ref b), (1, .ref o), (2, .ref (o + 477)), (3, .ref (o + 483)), (4, .int (nI (4*j)))]) hx hb dL_law_647 hl (by decide) rfl (fun ls hl => ?_)
        refine lv_aload_n hx hb dL_law_649 rfl (lv_at hl 3 rfl) ?_
        refine lv_aload_n hx hb dL_law_650 rfl (lv_at hl 1 rfl) ?_
        refine lv_iload hx hb dL_law_651 (lv_at hl 5 rfl) ?_
        refine lv_iconst (v := nI 1) hx hb dL_law_653 (by decide) ?_
        refine n_iadd (n := 4*j + 1) hx hb dL_law_654 (by omega) ?_
        refine va_sld hx hb hX hbl hbA hS (vp_in_nI (by omega) (by omega)) dL_law_655 ?_
        refine k_top (y := nI u) (by rw [nI_clamp (by omega)]; exact eu) ?_
        refine lv_aload_n hx hb dL_law_656 rfl (lv_at hl 1 rfl) ?_
        refine lv_iload hx hb dL_law_657 (lv_at hl 5 rfl) ?_
        refine lv_iconst (v := nI 2) hx hb dL_law_659 (by decide) ?_
        refine n_iadd (n := 4*j + 2) hx hb dL_law_660 (by omega) ?_
        refine va_sld hx hb hX hbl hbA hS (vp_in_nI (by omega) (by omega)) dL_law_661 ?_
        refine k_top (y := nI t) (by rw [nI_clamp (by omega)]; exact et) ?_
        refine lv_aload_n hx hb dL_law_662 rfl (lv_at hl 1 rfl) ?_
        refine lv_iload hx hb dL_law_663 (lv_at hl 5 rfl) ?_
        refine lv_iconst (v := nI 3) hx hb dL_law_665 (by decide) ?_
        refine n_iadd (n := 4*j + 3) hx hb dL_law_666 (by omega) ?_
        refine va_sld hx hb hX hbl hbA hS (vp_in_nI (by omega) (by omega)) dL_law_667 ?_
        refine k_top (y := xs (4*j + 3)) (by rw [nI_clamp (by omega)]) ?_
        refine k_VM (As := [.int (nI u), .int (nI t), .int (xs (4*j + 3))]) (rest := []) S hK (c_X7_test_f3 l E (o + 477) z w u t (xs (4*j + 3)) hI hu ht g3) gL_law_X7_test rfl hd_X7_test ⟨rfl, rfl⟩ ⟨Nat.le_of_ble_eq_true rfl, Nat.le_of_ble_eq_true rfl⟩ (k_recv hK hk2.1 rfl) hk2 rfl hl.1 rfl (Nat.le_of_ble_eq_true rfl) dL_law_668 ⟨by show _ ≤ 601024; omega, by show _ ≤ 7293034; omega⟩ hS (fun q h => by show o ≤ q; have := h.1; omega) (fun q h => by show o ≤ q; have := h.1; omega) (fun H locs hQ zH fH hS => ?_)
        have hP := hQ
        have hV2 := hP
        have hk0 := bo_fr2 hk0 (fun q hz hq => fH q hz (bl_ne hq (by omega)))
        have hk1 := gg_fr2 hk1 (fun q hz hq => fH q hz (bl_ne hq (by omega)))
        have hk3 := la_fr2 hV1 (fun q hz hq => fH q hz (bl_ne hq (by omega)))
        have hk4 := dz_fr2 hk4 (fun q hz hq => fH q hz (bl_ne hq (by omega)))
        have hk5 := tr_fr2 hk5 (fun q hz hq => fH q hz (bl_ne hq (by omega)))
        have hk6 := hy_fr2 hk6 (fun q hz hq => fH q hz (bl_ne hq (by omega)))
        refine lv_istore (lv' := [(6, .int (nI 0)), (5, .int (nI 2)), (0, .ref b), (1, .ref o), (2, .ref (o + 477)), (3, .ref (o + 483)), (4, .int (nI (4*j)))]) hx hb dL_law_671 hl (by decide) rfl (fun ls hl => ?_)
        refine lv_aload_n hx hb dL_law_673 rfl (lv_at hl 4 rfl) ?_
        refine k_V (As := []) (rest := []) S hK (c_X7_thrown l E (o + 477) z (w_th w (nI 2))) gL_law_X7_thrown rfl hd_X7_thrown ⟨rfl, rfl⟩ ⟨Nat.le_of_ble_eq_true rfl, Nat.le_of_ble_eq_true rfl⟩ (k_recv hK hV2.1 rfl) hV2 rfl hl.1 rfl (Nat.le_of_ble_eq_true rfl) dL_law_674 ⟨by show _ ≤ 601024; omega, by show _ ≤ 7293034; omega⟩ ?_
        refine k_top (y := nI 2) rfl ?_
        refine lv_iload hx hb dL_law_677 (lv_at hl 1 rfl) ?_
        refine n_ieq (tgt := 684) hx hb dL_law_679 (by decide) (by omega) (by omega) (fun c679 => ?_) (fun h => absurd h (by decide))
        refine lv_iload hx hb dL_law_684 (lv_at hl 1 rfl) ?_
        refine lv_if_ne (tgt := 701) hx hb dL_law_686 (by decide) (fun c686 => ?_) (fun h => absurd h (by decide))
        refine lv_goto (tgt := 1824) hx hb dL_law_701 (by decide) ?_
        refine W.widen (k := 484 + (j + 1)) (n := 5828 + 6*(j + 1)) (by omega) (by omega) ?_
        exact T z (w_th w (nI 2)) sn bn _ _ _ hPI (LI_mk hk1 hk4 hk5 hk6 hk0 hV2 hk3) hS (lv_sub hl [2, 3, 4, 5, 6] rfl)
    · refine lv_aload_n hx hb dL_law_624 rfl (lv_at hl 1 rfl) ?_
      refine lv_aload_n hx hb dL_law_625 rfl (lv_at hl 0 rfl) ?_
      refine lv_iload hx hb dL_law_626 (lv_at hl 4 rfl) ?_
      refine lv_iconst (v := nI 1) hx hb dL_law_628 (by decide) ?_
      refine n_iadd (n := 4*j + 1) hx hb dL_law_629 (by omega) ?_
      refine va_sld hx hb hX hbl hbA hS (vp_in_nI (by omega) (by omega)) dL_law_630 ?_
      refine k_top (y := nI u) (by rw [nI_clamp (by omega)]; exact eu) ?_
      refine lv_aload_n hx hb dL_law_631 rfl (lv_at hl 0 rfl) ?_
      refine lv_iload hx hb dL_law_632 (lv_at hl 4 rfl) ?_
      refine lv_iconst (v := nI 2) hx hb dL_law_634 (by decide) ?_
      refine n_iadd (n := 4*j + 2) hx hb dL_law_635 (by omega) ?_
      refine va_sld hx hb hX hbl hbA hS (vp_in_nI (by omega) (by omega)) dL_law_636 ?_
      refine k_top (y := xs (4*j + 2)) (by rw [nI_clamp (by omega)]) ?_
      refine lv_aload_n hx hb dL_law_637 rfl (lv_at hl 0 rfl) ?_
      refine lv_iload hx hb dL_law_638 (lv_at hl 4 rfl) ?_
      refine lv_iconst (v := nI 3) hx hb dL_law_640 (by decide) ?_
      refine n_iadd (n := 4*j + 3) hx hb dL_law_641 (by omega) ?_
      refine va_sld hx hb hX hbl hbA hS (vp_in_nI (by omega) (by omega)) dL_law_642 ?_
      refine k_top (y := xs (4*j + 3)) (by rw [nI_clamp (by omega)]) ?_
      refine lv_aload_n hx hb dL_law_643 rfl (lv_at hl 3 rfl) ?_
      refine l_SW (As := [.ref o, .int (nI u), .int (xs (4*j + 2)), .int (xs (4*j + 3)), .ref (o + 483)]) (rest := []) S hK hX9 hXh (y_L_test_2 l hlS E (nb o) o z u (xs (4*j + 2)) (xs (4*j + 3)) (o + 483) x9 hI hu g2 (by omega)) gL_law_L_test rfl hd_L_test ⟨rfl, rfl⟩ ⟨Nat.le_of_ble_eq_true rfl, Nat.le_of_ble_eq_true rfl⟩ ⟨hWG, hWQ, hWO⟩ rfl hl.1 rfl (Nat.le_of_ble_eq_true rfl) dL_law_644 ⟨by show _ ≤ 601024; omega, by show _ ≤ 7293034; omega⟩ hS (fun q h => by show o ≤ q; have := h.1; omega) (fun q h => by show o ≤ q; have := h.1; omega) (fun H locs hQ zH fH hS => ?_)
      have hR0 := hQ
      have hV1 := hR0
      have hk0 := bo_fr2 hWB (fun q hz hq => fH q hz (bl_ne hq (by omega)))
      have hk1 := gg_fr2 hWG (fun q hz hq => fH q hz (bl_ne hq (by omega)))
      have hk2 := md_fr2 hWM (fun q hz hq => fH q hz (bl_ne hq (by omega)))
      have hk4 := dz_fr2 hWQ (fun q hz hq => fH q hz (bl_ne hq (by omega)))
      have hk5 := tr_fr2 hWT (fun q hz hq => fH q hz (bl_ne hq (by omega)))
      have hk6 := hy_fr2 hWY (fun q hz hq => fH q hz (bl_ne hq (by omega)))
      refine lv_istore (lv' := [(5, .int (nI 1)), (0, .ref b), (1, .ref o), (2, .ref (o + 477)), (3, .ref (o + 483)), (4, .int (nI (4*j)))]) hx hb dL_law_647 hl (by decide) rfl (fun ls hl => ?_)
      refine lv_aload_n hx hb dL_law_649 rfl (lv_at hl 3 rfl) ?_
      refine lv_aload_n hx hb dL_law_650 rfl (lv_at hl 1 rfl) ?_
      refine lv_iload hx hb dL_law_651 (lv_at hl 5 rfl) ?_
      refine lv_iconst (v := nI 1) hx hb dL_law_653 (by decide) ?_
      refine n_iadd (n := 4*j + 1) hx hb dL_law_654 (by omega) ?_
      refine va_sld hx hb hX hbl hbA hS (vp_in_nI (by omega) (by omega)) dL_law_655 ?_
      refine k_top (y := nI u) (by rw [nI_clamp (by omega)]; exact eu) ?_
      refine lv_aload_n hx hb dL_law_656 rfl (lv_at hl 1 rfl) ?_
      refine lv_iload hx hb dL_law_657 (lv_at hl 5 rfl) ?_
      refine lv_iconst (v := nI 2) hx hb dL_law_659 (by decide) ?_
      refine n_iadd (n := 4*j + 2) hx hb dL_law_660 (by omega) ?_
      refine va_sld hx hb hX hbl hbA hS (vp_in_nI (by omega) (by omega)) dL_law_661 ?_
      refine k_top (y := xs (4*j + 2)) (by rw [nI_clamp (by omega)]) ?_
      refine lv_aload_n hx hb dL_law_662 rfl (lv_at hl 1 rfl) ?_
      refine lv_iload hx hb dL_law_663 (lv_at hl 5 rfl) ?_
      refine lv_iconst (v := nI 3) hx hb dL_law_665 (by decide) ?_
      refine n_iadd (n := 4*j + 3) hx hb dL_law_666 (by omega) ?_
      refine va_sld hx hb hX hbl hbA hS (vp_in_nI (by omega) (by omega)) dL_law_667 ?_
      refine k_top (y := xs (4*j + 3)) (by rw [nI_clamp (by omega)]) ?_
      refine k_VM (As := [.int (nI u), .int (xs (4*j + 2)), .int (xs (4*j + 3))]) (rest := []) S hK (c_X7_test_f2 l E (o + 477) z w u (xs (4*j + 2)) (xs (4*j + 3)) hI hu g2) gL_law_X7_test rfl hd_X7_test ⟨rfl, rfl⟩ ⟨Nat.le_of_ble_eq_true rfl, Nat.le_of_ble_eq_true rfl⟩ (k_recv hK hk2.1 rfl) hk2 rfl hl.1 rfl (Nat.le_of_ble_eq_true rfl) dL_law_668 ⟨by show _ ≤ 601024; omega, by show _ ≤ 7293034; omega⟩ hS (fun q h => by show o ≤ q; have := h.1; omega) (fun q h => by show o ≤ q; have := h.1; omega) (fun H locs hQ zH fH hS => ?_)
      have hP := hQ
      have hV2 := hP
      have hk0 := bo_fr2 hk0 (fun q hz hq => fH q hz (bl_ne hq (by omega)))
      have hk1 := gg_fr2 hk1 (fun q hz hq => fH q hz (bl_ne hq (by omega)))
      have hk3 := la_fr2 hV1 (fun q hz hq => fH q hz (bl_ne hq (by omega)))
      have hk4 := dz_fr2 hk4 (fun q hz hq => fH q hz (bl_ne hq (by omega)))
      have hk5 := tr_fr2 hk5 (fun q hz hq => fH q hz (bl_ne hq (by omega)))
      have hk6 := hy_fr2 hk6 (fun q hz hq => fH q hz (bl_ne hq (by omega)))
      refine lv_istore (lv' := [(6, .int (nI 0)), (5, .int (nI 1)), (0, .ref b), (1, .ref o), (2, .ref (o + 477)), (3, .ref (o + 483)), (4, .int (nI (4*j)))]) hx hb dL_law_671 hl (by decide) rfl (fun ls hl => ?_)
      refine lv_aload_n hx hb dL_law_673 rfl (lv_at hl 4 rfl) ?_
      refine k_V (As := []) (rest := []) S hK (c_X7_thrown l E (o + 477) z (w_th w (nI 1))) gL_law_X7_thrown rfl hd_X7_thrown ⟨rfl, rfl⟩ ⟨Nat.le_of_ble_eq_true rfl, Nat.le_of_ble_eq_true rfl⟩ (k_recv hK hV2.1 rfl) hV2 rfl hl.1 rfl (Nat.le_of_ble_eq_true rfl) dL_law_674 ⟨by show _ ≤ 601024; omega, by show _ ≤ 7293034; omega⟩ ?_
      refine k_top (y := nI 1) rfl ?_
      refine lv_iload hx hb dL_law_677 (lv_at hl 1 rfl) ?_
      refine n_ieq (tgt := 684) hx hb dL_law_679 (by decide) (by omega) (by omega) (fun c679 => ?_) (fun h => absurd h (by decide))
      refine lv_iload hx hb dL_law_684 (lv_at hl 1 rfl) ?_
      refine lv_if_ne (tgt := 701) hx hb dL_law_686 (by decide) (fun c686 => ?_) (fun h => absurd h (by decide))
      refine lv_goto (tgt := 1824) hx hb dL_law_701 (by decide) ?_
      refine W.widen (k := 484 + (j + 1)) (n := 5828 + 6*(j + 1)) (by omega) (by omega) ?_
      exact T z (w_th w (nI 1)) sn bn _ _ _ hPI (LI_mk hk1 hk4 hk5 hk6 hk0 hV2 hk3) hS (lv_sub hl [2, 3, 4, 5, 6] rfl)
  · refine lv_aload_n hx hb dL_law_624 rfl (lv_at hl 1 rfl) ?_
    refine lv_aload_n hx hb dL_law_625 rfl (lv_at hl 0 rfl) ?_
    refine lv_iload hx hb dL_law_626 (lv_at hl 4 rfl) ?_
    refine lv_iconst (v := nI 1) hx hb dL_law_628 (by decide) ?_
    refine n_iadd (n := 4*j + 1) hx hb dL_law_629 (by omega) ?_
    refine va_sld hx hb hX hbl hbA hS (vp_in_nI (by omega) (by omega)) dL_law_630 ?_
    refine k_top (y := xs (4*j + 1)) (by rw [nI_clamp (by omega)]) ?_
    refine lv_aload_n hx hb dL_law_631 rfl (lv_at hl 0 rfl) ?_
    refine lv_iload hx hb dL_law_632 (lv_at hl 4 rfl) ?_
    refine lv_iconst (v := nI 2) hx hb dL_law_634 (by decide) ?_
    refine n_iadd (n := 4*j + 2) hx hb dL_law_635 (by omega) ?_
    refine va_sld hx hb hX hbl hbA hS (vp_in_nI (by omega) (by omega)) dL_law_636 ?_
    refine k_top (y := xs (4*j + 2)) (by rw [nI_clamp (by omega)]) ?_
    refine lv_aload_n hx hb dL_law_637 rfl (lv_at hl 0 rfl) ?_
    refine lv_iload hx hb dL_law_638 (lv_at hl 4 rfl) ?_
    refine lv_iconst (v := nI 3) hx hb dL_law_640 (by decide) ?_
    refine n_iadd (n := 4*j + 3) hx hb dL_law_641 (by omega) ?_
    refine va_sld hx hb hX hbl hbA hS (vp_in_nI (by omega) (by omega)) dL_law_642 ?_
    refine k_top (y := xs (4*j + 3)) (by rw [nI_clamp (by omega)]) ?_
    refine lv_aload_n hx hb dL_law_643 rfl (lv_at hl 3 rfl) ?_
    refine l_SW (As := [.ref o, .int (xs (4*j + 1)), .int (xs (4*j + 2)), .int (xs (4*j + 3)), .ref (o + 483)]) (rest := []) S hK hX9 hXh (y_L_test_1 l hlS E (nb o) o z (xs (4*j + 1)) (xs (4*j + 2)) (xs (4*j + 3)) (o + 483) x9 hI g1 (by omega)) gL_law_L_test rfl hd_L_test ⟨rfl, rfl⟩ ⟨Nat.le_of_ble_eq_true rfl, Nat.le_of_ble_eq_true rfl⟩ ⟨hWG, hWQ, hWO⟩ rfl hl.1 rfl (Nat.le_of_ble_eq_true rfl) dL_law_644 ⟨by show _ ≤ 601024; omega, by show _ ≤ 7293034; omega⟩ hS (fun q h => by show o ≤ q; have := h.1; omega) (fun q h => by show o ≤ q; have := h.1; omega) (fun H locs hQ zH fH hS => ?_)
    have hR0 := hQ
    have hV1 := hR0
    have hk0 := bo_fr2 hWB (fun q hz hq => fH q hz (bl_ne hq (by omega)))
    have hk1 := gg_fr2 hWG (fun q hz hq => fH q hz (bl_ne hq (by omega)))
    have hk2 := md_fr2 hWM (fun q hz hq => fH q hz (bl_ne hq (by omega)))
    have hk4 := dz_fr2 hWQ (fun q hz hq => fH q hz (bl_ne hq (by omega)))
    have hk5 := tr_fr2 hWT (fun q hz hq => fH q hz (bl_ne hq (by omega)))
    have hk6 := hy_fr2 hWY (fun q hz hq => fH q hz (bl_ne hq (by omega)))
    refine lv_istore (lv' := [(5, .int (nI 1)), (0, .ref b), (1, .ref o), (2, .ref (o + 477)), (3, .ref (o + 483)), (4, .int (nI (4*j)))]) hx hb dL_law_647 hl (by decide) rfl (fun ls hl => ?_)
    refine lv_aload_n hx hb dL_law_649 rfl (lv_at hl 3 rfl) ?_
    refine lv_aload_n hx hb dL_law_650 rfl (lv_at hl 1 rfl) ?_
    refine lv_iload hx hb dL_law_651 (lv_at hl 5 rfl) ?_
    refine lv_iconst (v := nI 1) hx hb dL_law_653 (by decide) ?_
    refine n_iadd (n := 4*j + 1) hx hb dL_law_654 (by omega) ?_
    refine va_sld hx hb hX hbl hbA hS (vp_in_nI (by omega) (by omega)) dL_law_655 ?_
    refine k_top (y := xs (4*j + 1)) (by rw [nI_clamp (by omega)]) ?_
    refine lv_aload_n hx hb dL_law_656 rfl (lv_at hl 1 rfl) ?_
    refine lv_iload hx hb dL_law_657 (lv_at hl 5 rfl) ?_
    refine lv_iconst (v := nI 2) hx hb dL_law_659 (by decide) ?_
    refine n_iadd (n := 4*j + 2) hx hb dL_law_660 (by omega) ?_
    refine va_sld hx hb hX hbl hbA hS (vp_in_nI (by omega) (by omega)) dL_law_661 ?_
    refine k_top (y := xs (4*j + 2)) (by rw [nI_clamp (by omega)]) ?_
    refine lv_aload_n hx hb dL_law_662 rfl (lv_at hl 1 rfl) ?_
    refine lv_iload hx hb dL_law_663 (lv_at hl 5 rfl) ?_
    refine lv_iconst (v := nI 3) hx hb dL_law_665 (by decide) ?_
    refine n_iadd (n := 4*j + 3) hx hb dL_law_666 (by omega) ?_
    refine va_sld hx hb hX hbl hbA hS (vp_in_nI (by omega) (by omega)) dL_law_667 ?_
    refine k_top (y := xs (4*j + 3)) (by rw [nI_clamp (by omega)]) ?_
    refine k_VM (As := [.int (xs (4*j + 1)), .int (xs (4*j + 2)), .int (xs (4*j + 3))]) (rest := []) S hK (c_X7_test_f1 l E (o + 477) z w (xs (4*j + 1)) (xs (4*j + 2)) (xs (4*j + 3)) hI g1) gL_law_X7_test rfl hd_X7_test ⟨rfl, rfl⟩ ⟨Nat.le_of_ble_eq_true rfl, Nat.le_of_ble_eq_true rfl⟩ (k_recv hK hk2.1 rfl) hk2 rfl hl.1 rfl (Nat.le_of_ble_eq_true rfl) dL_law_668 ⟨by show _ ≤ 601024; omega, by show _ ≤ 7293034; omega⟩ hS (fun q h => by show o ≤ q; have := h.1; omega) (fun q h => by show o ≤ q; have := h.1; omega) (fun H locs hQ zH fH hS => ?_)
    have hP := hQ
    have hV2 := hP
    have hk0 := bo_fr2 hk0 (fun q hz hq => fH q hz (bl_ne hq (by omega)))
    have hk1 := gg_fr2 hk1 (fun q hz hq => fH q hz (bl_ne hq (by omega)))
    have hk3 := la_fr2 hV1 (fun q hz hq => fH q hz (bl_ne hq (by omega)))
    have hk4 := dz_fr2 hk4 (fun q hz hq => fH q hz (bl_ne hq (by omega)))
    have hk5 := tr_fr2 hk5 (fun q hz hq => fH q hz (bl_ne hq (by omega)))
    have hk6 := hy_fr2 hk6 (fun q hz hq => fH q hz (bl_ne hq (by omega)))
    refine lv_istore (lv' := [(6, .int (nI 0)), (5, .int (nI 1)), (0, .ref b), (1, .ref o), (2, .ref (o + 477)), (3, .ref (o + 483)), (4, .int (nI (4*j)))]) hx hb dL_law_671 hl (by decide) rfl (fun ls hl => ?_)
    refine lv_aload_n hx hb dL_law_673 rfl (lv_at hl 4 rfl) ?_
    refine k_V (As := []) (rest := []) S hK (c_X7_thrown l E (o + 477) z (w_th w (nI 1))) gL_law_X7_thrown rfl hd_X7_thrown ⟨rfl, rfl⟩ ⟨Nat.le_of_ble_eq_true rfl, Nat.le_of_ble_eq_true rfl⟩ (k_recv hK hV2.1 rfl) hV2 rfl hl.1 rfl (Nat.le_of_ble_eq_true rfl) dL_law_674 ⟨by show _ ≤ 601024; omega, by show _ ≤ 7293034; omega⟩ ?_
    refine k_top (y := nI 1) rfl ?_
    refine lv_iload hx hb dL_law_677 (lv_at hl 1 rfl) ?_
    refine n_ieq (tgt := 684) hx hb dL_law_679 (by decide) (by omega) (by omega) (fun c679 => ?_) (fun h => absurd h (by decide))
    refine lv_iload hx hb dL_law_684 (lv_at hl 1 rfl) ?_
    refine lv_if_ne (tgt := 701) hx hb dL_law_686 (by decide) (fun c686 => ?_) (fun h => absurd h (by decide))
    refine lv_goto (tgt := 1824) hx hb dL_law_701 (by decide) ?_
    refine W.widen (k := 484 + (j + 1)) (n := 5828 + 6*(j + 1)) (by omega) (by omega) ?_
    exact T z (w_th w (nI 1)) sn bn _ _ _ hPI (LI_mk hk1 hk4 hk5 hk6 hk0 hV2 hk3) hS (lv_sub hl [2, 3, 4, 5, 6] rfl)
set_option maxHeartbeats 4000000 in
set_option maxRecDepth 100000 in
theorem law_7 {p : Program} {l : Launch} {e : Env} {s : State} {m : MethodId} {below : List Frame} {meth : Method} {c : Code} {E : ke_E} {b o L j : Nat} {xs : Nat → Int32} {Q : State → Prop} (C : LC9 p l s m c E b o L xs) (hj : 4*j + 4 ≤ L) (T : LT9 p l e s m below meth c E b o j Q) : ∀ (z : Nat → Int32) (w : md_w) (sn bn : Nat) (H : Heap) (locs : List Loc) (ls : Array Slot), PI9 z w sn bn → LI9 E o z w sn bn H → va_S (nb o) s.heap H locs → lv_has ls 9 [(0, .ref b), (1, .ref o), (2, .ref (o + 477)), (3, .ref (o + 483)), (4, .int (nI (4*j)))] → W p l e room_1 s m #[.ref b] below meth c H locs (484 + j) (5828 + 6*j) Q (F0 m 704 ls []) := by
  intro z w sn bn H locs ls hPI hLI hS hl
  obtain ⟨S, hlS, hK, hX9, hXh, hX, hbo, hsz9, hL⟩ := C
  have hx := S.1
  have hb := S.2.1
  have hts := S.2.2.2.2
  obtain ⟨hs, hsn, hbm, hbn, hk9, hrows⟩ := id hPI
  have hI := hk9.1
  have hJ := hk9.2.1
  have hpw := hk9.2.2
  have hc20 := iv_c hI
  obtain ⟨hWG, hWQ, hWT, hWY, hWB, hWM, x9, hWO⟩ := hLI
  have hbl : b < s.heap.size := by omega
  have hbA : ¬ nb o b := by show ¬ o ≤ b; omega
  by_cases g1 : inR (xs (4*j + 1)) (cn z)
  · obtain ⟨u, hu, eu⟩ := g1
    by_cases g2 : nI 1 ≤ (xs (4*j + 2)) ∧ (xs (4*j + 2)) ≤ nI 4
    · obtain ⟨r9, h1, h2, e2⟩ := rng_n (by decide) g2 (by decide)
      rcases (by omega : r9 = 1 ∨ r9 = 2 ∨ r9 = 3 ∨ r9 = 4) with h | h | h | h
      · subst h
        by_cases g9 : wy1 z u = 0
        · refine lv_aload_n hx hb dL_law_704 rfl (lv_at hl 1 rfl) ?_
          refine lv_aload_n hx hb dL_law_705 rfl (lv_at hl 0 rfl) ?_
          refine lv_iload hx hb dL_law_706 (lv_at hl 4 rfl) ?_
          refine lv_iconst (v := nI 1) hx hb dL_law_708 (by decide) ?_
          refine n_iadd (n := 4*j + 1) hx hb dL_law_709 (by omega) ?_
          refine va_sld hx hb hX hbl hbA hS (vp_in_nI (by omega) (by omega)) dL_law_710 ?_
          refine k_top (y := nI u) (by rw [nI_clamp (by omega)]; exact eu) ?_
          refine lv_aload_n hx hb dL_law_711 rfl (lv_at hl 0 rfl) ?_
          refine lv_iload hx hb dL_law_712 (lv_at hl 4 rfl) ?_
          refine lv_iconst (v := nI 2) hx hb dL_law_714 (by decide) ?_
          refine n_iadd (n := 4*j + 2) hx hb dL_law_715 (by omega) ?_
          refine va_sld hx hb hX hbl hbA hS (vp_in_nI (by omega) (by omega)) dL_law_716 ?_
          refine k_top (y := nI 1) (by rw [nI_clamp (by omega)]; exact e2) ?_
          refine lv_aload_n hx hb dL_law_717 rfl (lv_at hl 3 rfl) ?_
          refine l_SW (As := [.ref o, .int (nI u), .int (nI 1), .ref (o + 483)]) (rest := []) S hK hX9 hXh (c_L_send_1 l hlS E (nb o) o z sn (q_rows w) bn (q_buf w) u (o + 483) x9 hI hsn hu g9 (by omega)) gL_law_L_send rfl hd_L_send ⟨rfl, rfl⟩ ⟨Nat.le_of_ble_eq_true rfl, Nat.le_of_ble_eq_true rfl⟩ ⟨hWG, hWQ, hWT, hWY, hWB, hWO⟩ rfl hl.1 rfl (Nat.le_of_ble_eq_true rfl) dL_law_718 ⟨by show _ ≤ 601024; omega, by show _ ≤ 7293034; omega⟩ hS (fun q h => h.elim (fun h => by show o ≤ q; have := h.1; omega) (fun h => by show o ≤ q; have := h.1; omega)) (fun q h => h.elim (fun h => by show o ≤ q; have := h.1; omega) (fun h => by show o ≤ q; have := h.1; omega)) (fun H locs hQ zH fH hS => ?_)
          obtain ⟨hR0, hR1, hR2, hR3, hR4, hR5⟩ := hQ
          have hV1 := hR0
          have hV2 := hR1
          have hV3 := hR2
          have hV4 := hR3
          have hV5 := hR4
          have hV6 := hR5
          have hk2 := md_fr2 hWM (fun q hz hq => fH q hz (ow_ne hq (by omega)))
          refine lv_istore (lv' := [(5, .int (nI 0)), (0, .ref b), (1, .ref o), (2, .ref (o + 477)), (3, .ref (o + 483)), (4, .int (nI (4*j)))]) hx hb dL_law_721 hl (by decide) rfl (fun ls hl => ?_)
          refine lv_aload_n hx hb dL_law_723 rfl (lv_at hl 3 rfl) ?_
          refine lv_aload_n hx hb dL_law_724 rfl (lv_at hl 1 rfl) ?_
          refine lv_iload hx hb dL_law_725 (lv_at hl 5 rfl) ?_
          refine lv_iconst (v := nI 1) hx hb dL_law_727 (by decide) ?_
          refine n_iadd (n := 4*j + 1) hx hb dL_law_728 (by omega) ?_
          refine va_sld hx hb hX hbl hbA hS (vp_in_nI (by omega) (by omega)) dL_law_729 ?_
          refine k_top (y := nI u) (by rw [nI_clamp (by omega)]; exact eu) ?_
          refine lv_aload_n hx hb dL_law_730 rfl (lv_at hl 1 rfl) ?_
          refine lv_iload hx hb dL_law_731 (lv_at hl 5 rfl) ?_
          refine lv_iconst (v := nI 2) hx hb dL_law_733 (by decide) ?_
          refine n_iadd (n := 4*j + 2) hx hb dL_law_734 (by omega) ?_
          refine va_sld hx hb hX hbl hbA hS (vp_in_nI (by omega) (by omega)) dL_law_735 ?_
          refine k_top (y := nI 1) (by rw [nI_clamp (by omega)]; exact e2) ?_
          refine k_VM (As := [.int (nI u), .int (nI 1)]) (rest := []) S hK (c_X7_send_1 l E (o + 477) z w u sn hI hu g9 hs hsn) gL_law_X7_send rfl hd_X7_send ⟨rfl, rfl⟩ ⟨Nat.le_of_ble_eq_true rfl, Nat.le_of_ble_eq_true rfl⟩ (k_recv hK hk2.1 rfl) hk2 rfl hl.1 rfl (Nat.le_of_ble_eq_true rfl) dL_law_736 ⟨by show _ ≤ 601024; omega, by show _ ≤ 7293034; omega⟩ hS (fun q h => by show o ≤ q; have := h.1; omega) (fun q h => by show o ≤ q; have := h.1; omega) (fun H locs hQ zH fH hS => ?_)
          have hP := hQ
          have hV7 := hP
          have hk0 := bo_fr2 hV5 (fun q hz hq => fH q hz (bl_ne hq (by omega)))
          have hk1 := gg_fr2 hV1 (fun q hz hq => fH q hz (bl_ne hq (by omega)))
          have hk3 := la_fr2 hV6 (fun q hz hq => fH q hz (bl_ne hq (by omega)))
          have hk4 := dz_fr2 hV2 (fun q hz hq => fH q hz (bl_ne hq (by omega)))
          have hk5 := tr_fr2 hV3 (fun q hz hq => fH q hz (bl_ne hq (by omega)))
          have hk6 := hy_fr2 hV4 (fun q hz hq => fH q hz (bl_ne hq (by omega)))
          refine lv_istore (lv' := [(6, .int (brg z u 1)), (5, .int (nI 0)), (0, .ref b), (1, .ref o), (2, .ref (o + 477)), (3, .ref (o + 483)), (4, .int (nI (4*j)))]) hx hb dL_law_739 hl (by decide) rfl (fun ls hl => ?_)
          refine lv_aload_n hx hb dL_law_741 rfl (lv_at hl 4 rfl) ?_
          refine k_V (As := []) (rest := []) S hK (c_X7_thrown l E (o + 477) (sdZ z u 1) (svW z (w_th w (nI 0)) sn)) gL_law_X7_thrown rfl hd_X7_thrown ⟨rfl, rfl⟩ ⟨Nat.le_of_ble_eq_true rfl, Nat.le_of_ble_eq_true rfl⟩ (k_recv hK hV7.1 rfl) hV7 rfl hl.1 rfl (Nat.le_of_ble_eq_true rfl) dL_law_742 ⟨by show _ ≤ 601024; omega, by show _ ≤ 7293034; omega⟩ ?_
          refine k_top (y := nI 0) rfl ?_
          refine lv_iload hx hb dL_law_745 (lv_at hl 1 rfl) ?_
          refine n_ieq (tgt := 752) hx hb dL_law_747 (by decide) (by omega) (by omega) (fun c747 => ?_) (fun h => absurd h (by decide))
          refine lv_iload hx hb dL_law_752 (lv_at hl 1 rfl) ?_
          refine lv_if_ne (tgt := 769) hx hb dL_law_754 (by decide) (fun h => absurd h (by decide)) (fun c754 => ?_)
          refine lv_aload_n hx hb dL_law_757 rfl (lv_at hl 5 rfl) ?_
          refine lv_iconst (v := nI 0) hx hb dL_law_758 (by decide) ?_
          refine l_lald hx hb hK hk3 dL_law_759 ?_
          refine lv_iload hx hb dL_law_760 (lv_at hl 0 rfl) ?_
          refine lv_i2l hx hb dL_law_762 rfl ?_
          refine l_lcmp hx hb dL_law_763 ?_
          refine lv_if_eq (tgt := 769) hx hb dL_law_764 (by decide) (fun c764 => ?_) (fun h => absurd h (by decide))
          refine lv_goto (tgt := 1824) hx hb dL_law_769 (by decide) ?_
          refine W.widen (k := 484 + (j + 1)) (n := 5828 + 6*(j + 1)) (by omega) (by omega) ?_
          exact T (sdZ z u 1) (svW z (w_th w (nI 0)) sn) (svN sn) bn _ _ _ (PI_sv hPI ⟨iv_sdZ hI hu (by omega) (fun _ => wy1_t g9), kw_sd hI hu (by omega) (wy1_p g9) hk9.2⟩ rfl rfl hbm hbn) (LI_mk hk1 hk4 hk5 hk6 hk0 hV7 hk3) hS (lv_sub hl [2, 3, 4, 5, 6] rfl)
        · refine lv_aload_n hx hb dL_law_704 rfl (lv_at hl 1 rfl) ?_
          refine lv_aload_n hx hb dL_law_705 rfl (lv_at hl 0 rfl) ?_
          refine lv_iload hx hb dL_law_706 (lv_at hl 4 rfl) ?_
          refine lv_iconst (v := nI 1) hx hb dL_law_708 (by decide) ?_
          refine n_iadd (n := 4*j + 1) hx hb dL_law_709 (by omega) ?_
          refine va_sld hx hb hX hbl hbA hS (vp_in_nI (by omega) (by omega)) dL_law_710 ?_
          refine k_top (y := nI u) (by rw [nI_clamp (by omega)]; exact eu) ?_
          refine lv_aload_n hx hb dL_law_711 rfl (lv_at hl 0 rfl) ?_
          refine lv_iload hx hb dL_law_712 (lv_at hl 4 rfl) ?_
          refine lv_iconst (v := nI 2) hx hb dL_law_714 (by decide) ?_
          refine n_iadd (n := 4*j + 2) hx hb dL_law_715 (by omega) ?_
          refine va_sld hx hb hX hbl hbA hS (vp_in_nI (by omega) (by omega)) dL_law_716 ?_
          refine k_top (y := nI 1) (by rw [nI_clamp (by omega)]; exact e2) ?_
          refine lv_aload_n hx hb dL_law_717 rfl (lv_at hl 3 rfl) ?_
          refine l_SW (As := [.ref o, .int (nI u), .int (nI 1), .ref (o + 483)]) (rest := []) S hK hX9 hXh (y_L_send_3_1 l hlS E (nb o) o z u (o + 483) x9 hI hu g9 (by omega)) gL_law_L_send rfl hd_L_send ⟨rfl, rfl⟩ ⟨Nat.le_of_ble_eq_true rfl, Nat.le_of_ble_eq_true rfl⟩ ⟨hWG, hWQ, hWO⟩ rfl hl.1 rfl (Nat.le_of_ble_eq_true rfl) dL_law_718 ⟨by show _ ≤ 601024; omega, by show _ ≤ 7293034; omega⟩ hS (fun q h => by show o ≤ q; have := h.1; omega) (fun q h => by show o ≤ q; have := h.1; omega) (fun H locs hQ zH fH hS => ?_)
          have hR0 := hQ
          have hV1 := hR0
          have hk0 := bo_fr2 hWB (fun q hz hq => fH q hz (bl_ne hq (by omega)))
          have hk1 := gg_fr2 hWG (fun q hz hq => fH q hz (bl_ne hq (by omega)))
          have hk2 := md_fr2 hWM (fun q hz hq => fH q hz (bl_ne hq (by omega)))
          have hk4 := dz_fr2 hWQ (fun q hz hq => fH q hz (bl_ne hq (by omega)))
          have hk5 := tr_fr2 hWT (fun q hz hq => fH q hz (bl_ne hq (by omega)))
          have hk6 := hy_fr2 hWY (fun q hz hq => fH q hz (bl_ne hq (by omega)))
          refine lv_istore (lv' := [(5, .int (nI 3)), (0, .ref b), (1, .ref o), (2, .ref (o + 477)), (3, .ref (o + 483)), (4, .int (nI (4*j)))]) hx hb dL_law_721 hl (by decide) rfl (fun ls hl => ?_)
          refine lv_aload_n hx hb dL_law_723 rfl (lv_at hl 3 rfl) ?_
          refine lv_aload_n hx hb dL_law_724 rfl (lv_at hl 1 rfl) ?_
          refine lv_iload hx hb dL_law_725 (lv_at hl 5 rfl) ?_
          refine lv_iconst (v := nI 1) hx hb dL_law_727 (by decide) ?_
          refine n_iadd (n := 4*j + 1) hx hb dL_law_728 (by omega) ?_
          refine va_sld hx hb hX hbl hbA hS (vp_in_nI (by omega) (by omega)) dL_law_729 ?_
          refine k_top (y := nI u) (by rw [nI_clamp (by omega)]; exact eu) ?_
          refine lv_aload_n hx hb dL_law_730 rfl (lv_at hl 1 rfl) ?_
          refine lv_iload hx hb dL_law_731 (lv_at hl 5 rfl) ?_
          refine lv_iconst (v := nI 2) hx hb dL_law_733 (by decide) ?_
          refine n_iadd (n := 4*j + 2) hx hb dL_law_734 (by omega) ?_
          refine va_sld hx hb hX hbl hbA hS (vp_in_nI (by omega) (by omega)) dL_law_735 ?_
          refine k_top (y := nI 1) (by rw [nI_clamp (by omega)]; exact e2) ?_
          refine k_VM (As := [.int (nI u), .int (nI 1)]) (rest := []) S hK (c_X7_send_f3_1 l E (o + 477) z w u hI hu g9) gL_law_X7_send rfl hd_X7_send ⟨rfl, rfl⟩ ⟨Nat.le_of_ble_eq_true rfl, Nat.le_of_ble_eq_true rfl⟩ (k_recv hK hk2.1 rfl) hk2 rfl hl.1 rfl (Nat.le_of_ble_eq_true rfl) dL_law_736 ⟨by show _ ≤ 601024; omega, by show _ ≤ 7293034; omega⟩ hS (fun q h => by show o ≤ q; have := h.1; omega) (fun q h => by show o ≤ q; have := h.1; omega) (fun H locs hQ zH fH hS => ?_)
          have hP := hQ
          have hV2 := hP
          have hk0 := bo_fr2 hk0 (fun q hz hq => fH q hz (bl_ne hq (by omega)))
          have hk1 := gg_fr2 hk1 (fun q hz hq => fH q hz (bl_ne hq (by omega)))
          have hk3 := la_fr2 hV1 (fun q hz hq => fH q hz (bl_ne hq (by omega)))
          have hk4 := dz_fr2 hk4 (fun q hz hq => fH q hz (bl_ne hq (by omega)))
          have hk5 := tr_fr2 hk5 (fun q hz hq => fH q hz (bl_ne hq (by omega)))
          have hk6 := hy_fr2 hk6 (fun q hz hq => fH q hz (bl_ne hq (by omega)))
          refine lv_istore (lv' := [(6, .int (nI 0)), (5, .int (nI 3)), (0, .ref b), (1, .ref o), (2, .ref (o + 477)), (3, .ref (o + 483)), (4, .int (nI (4*j)))]) hx hb dL_law_739 hl (by decide) rfl (fun ls hl => ?_)
          refine lv_aload_n hx hb dL_law_741 rfl (lv_at hl 4 rfl) ?_
          refine k_V (As := []) (rest := []) S hK (c_X7_thrown l E (o + 477) z (w_th w (nI 3))) gL_law_X7_thrown rfl hd_X7_thrown ⟨rfl, rfl⟩ ⟨Nat.le_of_ble_eq_true rfl, Nat.le_of_ble_eq_true rfl⟩ (k_recv hK hV2.1 rfl) hV2 rfl hl.1 rfl (Nat.le_of_ble_eq_true rfl) dL_law_742 ⟨by show _ ≤ 601024; omega, by show _ ≤ 7293034; omega⟩ ?_
          refine k_top (y := nI 3) rfl ?_
          refine lv_iload hx hb dL_law_745 (lv_at hl 1 rfl) ?_
          refine n_ieq (tgt := 752) hx hb dL_law_747 (by decide) (by omega) (by omega) (fun c747 => ?_) (fun h => absurd h (by decide))
          refine lv_iload hx hb dL_law_752 (lv_at hl 1 rfl) ?_
          refine lv_if_ne (tgt := 769) hx hb dL_law_754 (by decide) (fun c754 => ?_) (fun h => absurd h (by decide))
          refine lv_goto (tgt := 1824) hx hb dL_law_769 (by decide) ?_
          refine W.widen (k := 484 + (j + 1)) (n := 5828 + 6*(j + 1)) (by omega) (by omega) ?_
          exact T z (w_th w (nI 3)) sn bn _ _ _ hPI (LI_mk hk1 hk4 hk5 hk6 hk0 hV2 hk3) hS (lv_sub hl [2, 3, 4, 5, 6] rfl)
      · subst h
        by_cases g9 : wy2 z u = 0
        · refine lv_aload_n hx hb dL_law_704 rfl (lv_at hl 1 rfl) ?_
          refine lv_aload_n hx hb dL_law_705 rfl (lv_at hl 0 rfl) ?_
          refine lv_iload hx hb dL_law_706 (lv_at hl 4 rfl) ?_
          refine lv_iconst (v := nI 1) hx hb dL_law_708 (by decide) ?_
          refine n_iadd (n := 4*j + 1) hx hb dL_law_709 (by omega) ?_
          refine va_sld hx hb hX hbl hbA hS (vp_in_nI (by omega) (by omega)) dL_law_710 ?_
          refine k_top (y := nI u) (by rw [nI_clamp (by omega)]; exact eu) ?_
          refine lv_aload_n hx hb dL_law_711 rfl (lv_at hl 0 rfl) ?_
          refine lv_iload hx hb dL_law_712 (lv_at hl 4 rfl) ?_
          refine lv_iconst (v := nI 2) hx hb dL_law_714 (by decide) ?_
          refine n_iadd (n := 4*j + 2) hx hb dL_law_715 (by omega) ?_
          refine va_sld hx hb hX hbl hbA hS (vp_in_nI (by omega) (by omega)) dL_law_716 ?_
          refine k_top (y := nI 2) (by rw [nI_clamp (by omega)]; exact e2) ?_
          refine lv_aload_n hx hb dL_law_717 rfl (lv_at hl 3 rfl) ?_
          refine l_SW (As := [.ref o, .int (nI u), .int (nI 2), .ref (o + 483)]) (rest := []) S hK hX9 hXh (c_L_send_2 l hlS E (nb o) o z sn (q_rows w) bn (q_buf w) u (o + 483) x9 hI hsn hu g9 (by omega)) gL_law_L_send rfl hd_L_send ⟨rfl, rfl⟩ ⟨Nat.le_of_ble_eq_true rfl, Nat.le_of_ble_eq_true rfl⟩ ⟨hWG, hWQ, hWT, hWY, hWB, hWO⟩ rfl hl.1 rfl (Nat.le_of_ble_eq_true rfl) dL_law_718 ⟨by show _ ≤ 601024; omega, by show _ ≤ 7293034; omega⟩ hS (fun q h => h.elim (fun h => by show o ≤ q; have := h.1; omega) (fun h => by show o ≤ q; have := h.1; omega)) (fun q h => h.elim (fun h => by show o ≤ q; have := h.1; omega) (fun h => by show o ≤ q; have := h.1; omega)) (fun H locs hQ zH fH hS => ?_)
          obtain ⟨hR0, hR1, hR2, hR3, hR4, hR5⟩ := hQ
          have hV1 := hR0
          have hV2 := hR1
          have hV3 := hR2
          have hV4 := hR3
          have hV5 := hR4
          have hV6 := hR5
          have hk2 := md_fr2 hWM (fun q hz hq => fH q hz (ow_ne hq (by omega)))
          refine lv_istore (lv' := [(5, .int (nI 0)), (0, .ref b), (1, .ref o), (2, .ref (o + 477)), (3, .ref (o + 483)), (4, .int (nI (4*j)))]) hx hb dL_law_721 hl (by decide) rfl (fun ls hl => ?_)
          refine lv_aload_n hx hb dL_law_723 rfl (lv_at hl 3 rfl) ?_
          refine lv_aload_n hx hb dL_law_724 rfl (lv_at hl 1 rfl) ?_
          refine lv_iload hx hb dL_law_725 (lv_at hl 5 rfl) ?_
          refine lv_iconst (v := nI 1) hx hb dL_law_727 (by decide) ?_
          refine n_iadd (n := 4*j + 1) hx hb dL_law_728 (by omega) ?_
          refine va_sld hx hb hX hbl hbA hS (vp_in_nI (by omega) (by omega)) dL_law_729 ?_
          refine k_top (y := nI u) (by rw [nI_clamp (by omega)]; exact eu) ?_
          refine lv_aload_n hx hb dL_law_730 rfl (lv_at hl 1 rfl) ?_
          refine lv_iload hx hb dL_law_731 (lv_at hl 5 rfl) ?_
          refine lv_iconst (v := nI 2) hx hb dL_law_733 (by decide) ?_
          refine n_iadd (n := 4*j + 2) hx hb dL_law_734 (by omega) ?_
          refine va_sld hx hb hX hbl hbA hS (vp_in_nI (by omega) (by omega)) dL_law_735 ?_
          refine k_top (y := nI 2) (by rw [nI_clamp (by omega)]; exact e2) ?_
          refine k_VM (As := [.int (nI u), .int (nI 2)]) (rest := []) S hK (c_X7_send_2 l E (o + 477) z w u sn hI hu g9 hs hsn) gL_law_X7_send rfl hd_X7_send ⟨rfl, rfl⟩ ⟨Nat.le_of_ble_eq_true rfl, Nat.le_of_ble_eq_true rfl⟩ (k_recv hK hk2.1 rfl) hk2 rfl hl.1 rfl (Nat.le_of_ble_eq_true rfl) dL_law_736 ⟨by show _ ≤ 601024; omega, by show _ ≤ 7293034; omega⟩ hS (fun q h => by show o ≤ q; have := h.1; omega) (fun q h => by show o ≤ q; have := h.1; omega) (fun H locs hQ zH fH hS => ?_)
          have hP := hQ
          have hV7 := hP
          have hk0 := bo_fr2 hV5 (fun q hz hq => fH q hz (bl_ne hq (by omega)))
          have hk1 := gg_fr2 hV1 (fun q hz hq => fH q hz (bl_ne hq (by omega)))
          have hk3 := la_fr2 hV6 (fun q hz hq => fH q hz (bl_ne hq (by omega)))
          have hk4 := dz_fr2 hV2 (fun q hz hq => fH q hz (bl_ne hq (by omega)))
          have hk5 := tr_fr2 hV3 (fun q hz hq => fH q hz (bl_ne hq (by omega)))
          have hk6 := hy_fr2 hV4 (fun q hz hq => fH q hz (bl_ne hq (by omega)))
          refine lv_istore (lv' := [(6, .int (brg z u 2)), (5, .int (nI 0)), (0, .ref b), (1, .ref o), (2, .ref (o + 477)), (3, .ref (o + 483)), (4, .int (nI (4*j)))]) hx hb dL_law_739 hl (by decide) rfl (fun ls hl => ?_)
          refine lv_aload_n hx hb dL_law_741 rfl (lv_at hl 4 rfl) ?_
          refine k_V (As := []) (rest := []) S hK (c_X7_thrown l E (o + 477) (sdZ z u 2) (svW z (w_th w (nI 0)) sn)) gL_law_X7_thrown rfl hd_X7_thrown ⟨rfl, rfl⟩ ⟨Nat.le_of_ble_eq_true rfl, Nat.le_of_ble_eq_true rfl⟩ (k_recv hK hV7.1 rfl) hV7 rfl hl.1 rfl (Nat.le_of_ble_eq_true rfl) dL_law_742 ⟨by show _ ≤ 601024; omega, by show _ ≤ 7293034; omega⟩ ?_
          refine k_top (y := nI 0) rfl ?_
          refine lv_iload hx hb dL_law_745 (lv_at hl 1 rfl) ?_
          refine n_ieq (tgt := 752) hx hb dL_law_747 (by decide) (by omega) (by omega) (fun c747 => ?_) (fun h => absurd h (by decide))
          refine lv_iload hx hb dL_law_752 (lv_at hl 1 rfl) ?_
          refine lv_if_ne (tgt := 769) hx hb dL_law_754 (by decide) (fun h => absurd h (by decide)) (fun c754 => ?_)
          refine lv_aload_n hx hb dL_law_757 rfl (lv_at hl 5 rfl) ?_
          refine lv_iconst (v := nI 0) hx hb dL_law_758 (by decide) ?_
          refine l_lald hx hb hK hk3 dL_law_759 ?_
          refine lv_iload hx hb dL_law_760 (lv_at hl 0 rfl) ?_
          refine lv_i2l hx hb dL_law_762 rfl ?_
          refine l_lcmp hx hb dL_law_763 ?_
          refine lv_if_eq (tgt := 769) hx hb dL_law_764 (by decide) (fun c764 => ?_) (fun h => absurd h (by decide))
          refine lv_goto (tgt := 1824) hx hb dL_law_769 (by decide) ?_
          refine W.widen (k := 484 + (j + 1)) (n := 5828 + 6*(j + 1)) (by omega) (by omega) ?_
          exact T (sdZ z u 2) (svW z (w_th w (nI 0)) sn) (svN sn) bn _ _ _ (PI_sv hPI ⟨iv_sdZ hI hu (by omega) (fun h => absurd h (by decide)), kw_sd hI hu (by omega) (wy2_p g9) hk9.2⟩ rfl rfl hbm hbn) (LI_mk hk1 hk4 hk5 hk6 hk0 hV7 hk3) hS (lv_sub hl [2, 3, 4, 5, 6] rfl)
        · refine lv_aload_n hx hb dL_law_704 rfl (lv_at hl 1 rfl) ?_
          refine lv_aload_n hx hb dL_law_705 rfl (lv_at hl 0 rfl) ?_
          refine lv_iload hx hb dL_law_706 (lv_at hl 4 rfl) ?_
          refine lv_iconst (v := nI 1) hx hb dL_law_708 (by decide) ?_
          refine n_iadd (n := 4*j + 1) hx hb dL_law_709 (by omega) ?_
          refine va_sld hx hb hX hbl hbA hS (vp_in_nI (by omega) (by omega)) dL_law_710 ?_
          refine k_top (y := nI u) (by rw [nI_clamp (by omega)]; exact eu) ?_
          refine lv_aload_n hx hb dL_law_711 rfl (lv_at hl 0 rfl) ?_
          refine lv_iload hx hb dL_law_712 (lv_at hl 4 rfl) ?_
          refine lv_iconst (v := nI 2) hx hb dL_law_714 (by decide) ?_
          refine n_iadd (n := 4*j + 2) hx hb dL_law_715 (by omega) ?_
          refine va_sld hx hb hX hbl hbA hS (vp_in_nI (by omega) (by omega)) dL_law_716 ?_
          refine k_top (y := nI 2) (by rw [nI_clamp (by omega)]; exact e2) ?_
          refine lv_aload_n hx hb dL_law_717 rfl (lv_at hl 3 rfl) ?_
          refine l_SW (As := [.ref o, .int (nI u), .int (nI 2), .ref (o + 483)]) (rest := []) S hK hX9 hXh (y_L_send_3_2 l hlS E (nb o) o z u (o + 483) x9 hI hu g9 (by omega)) gL_law_L_send rfl hd_L_send ⟨rfl, rfl⟩ ⟨Nat.le_of_ble_eq_true rfl, Nat.le_of_ble_eq_true rfl⟩ ⟨hWG, hWQ, hWO⟩ rfl hl.1 rfl (Nat.le_of_ble_eq_true rfl) dL_law_718 ⟨by show _ ≤ 601024; omega, by show _ ≤ 7293034; omega⟩ hS (fun q h => by show o ≤ q; have := h.1; omega) (fun q h => by show o ≤ q; have := h.1; omega) (fun H locs hQ zH fH hS => ?_)
          have hR0 := hQ
          have hV1 := hR0
          have hk0 := bo_fr2 hWB (fun q hz hq => fH q hz (bl_ne hq (by omega)))
          have hk1 := gg_fr2 hWG (fun q hz hq => fH q hz (bl_ne hq (by omega)))
          have hk2 := md_fr2 hWM (fun q hz hq => fH q hz (bl_ne hq (by omega)))
          have hk4 := dz_fr2 hWQ (fun q hz hq => fH q hz (bl_ne hq (by omega)))
          have hk5 := tr_fr2 hWT (fun q hz hq => fH q hz (bl_ne hq (by omega)))
          have hk6 := hy_fr2 hWY (fun q hz hq => fH q hz (bl_ne hq (by omega)))
          refine lv_istore (lv' := [(5, .int (nI 3)), (0, .ref b), (1, .ref o), (2, .ref (o + 477)), (3, .ref (o + 483)), (4, .int (nI (4*j)))]) hx hb dL_law_721 hl (by decide) rfl (fun ls hl => ?_)
          refine lv_aload_n hx hb dL_law_723 rfl (lv_at hl 3 rfl) ?_
          refine lv_aload_n hx hb dL_law_724 rfl (lv_at hl 1 rfl) ?_
          refine lv_iload hx hb dL_law_725 (lv_at hl 5 rfl) ?_
          refine lv_iconst (v := nI 1) hx hb dL_law_727 (by decide) ?_
          refine n_iadd (n := 4*j + 1) hx hb dL_law_728 (by omega) ?_
          refine va_sld hx hb hX hbl hbA hS (vp_in_nI (by omega) (by omega)) dL_law_729 ?_
          refine k_top (y := nI u) (by rw [nI_clamp (by omega)]; exact eu) ?_
          refine lv_aload_n hx hb dL_law_730 rfl (lv_at hl 1 rfl) ?_
          refine lv_iload hx hb dL_law_731 (lv_at hl 5 rfl) ?_
          refine lv_iconst (v := nI 2) hx hb dL_law_733 (by decide) ?_
          refine n_iadd (n := 4*j + 2) hx hb dL_law_734 (by omega) ?_
          refine va_sld hx hb hX hbl hbA hS (vp_in_nI (by omega) (by omega)) dL_law_735 ?_
          refine k_top (y := nI 2) (by rw [nI_clamp (by omega)]; exact e2) ?_
          refine k_VM (As := [.int (nI u), .int (nI 2)]) (rest := []) S hK (c_X7_send_f3_2 l E (o + 477) z w u hI hu g9) gL_law_X7_send rfl hd_X7_send ⟨rfl, rfl⟩ ⟨Nat.le_of_ble_eq_true rfl, Nat.le_of_ble_eq_true rfl⟩ (k_recv hK hk2.1 rfl) hk2 rfl hl.1 rfl (Nat.le_of_ble_eq_true rfl) dL_law_736 ⟨by show _ ≤ 601024; omega, by show _ ≤ 7293034; omega⟩ hS (fun q h => by show o ≤ q; have := h.1; omega) (fun q h => by show o ≤ q; have := h.1; omega) (fun H locs hQ zH fH hS => ?_)
          have hP := hQ
          have hV2 := hP
          have hk0 := bo_fr2 hk0 (fun q hz hq => fH q hz (bl_ne hq (by omega)))
          have hk1 := gg_fr2 hk1 (fun q hz hq => fH q hz (bl_ne hq (by omega)))
          have hk3 := la_fr2 hV1 (fun q hz hq => fH q hz (bl_ne hq (by omega)))
          have hk4 := dz_fr2 hk4 (fun q hz hq => fH q hz (bl_ne hq (by omega)))
          have hk5 := tr_fr2 hk5 (fun q hz hq => fH q hz (bl_ne hq (by omega)))
          have hk6 := hy_fr2 hk6 (fun q hz hq => fH q hz (bl_ne hq (by omega)))
          refine lv_istore (lv' := [(6, .int (nI 0)), (5, .int (nI 3)), (0, .ref b), (1, .ref o), (2, .ref (o + 477)), (3, .ref (o + 483)), (4, .int (nI (4*j)))]) hx hb dL_law_739 hl (by decide) rfl (fun ls hl => ?_)
          refine lv_aload_n hx hb dL_law_741 rfl (lv_at hl 4 rfl) ?_
          refine k_V (As := []) (rest := []) S hK (c_X7_thrown l E (o + 477) z (w_th w (nI 3))) gL_law_X7_thrown rfl hd_X7_thrown ⟨rfl, rfl⟩ ⟨Nat.le_of_ble_eq_true rfl, Nat.le_of_ble_eq_true rfl⟩ (k_recv hK hV2.1 rfl) hV2 rfl hl.1 rfl (Nat.le_of_ble_eq_true rfl) dL_law_742 ⟨by show _ ≤ 601024; omega, by show _ ≤ 7293034; omega⟩ ?_
          refine k_top (y := nI 3) rfl ?_
          refine lv_iload hx hb dL_law_745 (lv_at hl 1 rfl) ?_
          refine n_ieq (tgt := 752) hx hb dL_law_747 (by decide) (by omega) (by omega) (fun c747 => ?_) (fun h => absurd h (by decide))
          refine lv_iload hx hb dL_law_752 (lv_at hl 1 rfl) ?_
          refine lv_if_ne (tgt := 769) hx hb dL_law_754 (by decide) (fun c754 => ?_) (fun h => absurd h (by decide))
          refine lv_goto (tgt := 1824) hx hb dL_law_769 (by decide) ?_
          refine W.widen (k := 484 + (j + 1)) (n := 5828 + 6*(j + 1)) (by omega) (by omega) ?_
          exact T z (w_th w (nI 3)) sn bn _ _ _ hPI (LI_mk hk1 hk4 hk5 hk6 hk0 hV2 hk3) hS (lv_sub hl [2, 3, 4, 5, 6] rfl)
      · subst h
        by_cases g9 : wy3 z u = 0
        · refine lv_aload_n hx hb dL_law_704 rfl (lv_at hl 1 rfl) ?_
          refine lv_aload_n hx hb dL_law_705 rfl (lv_at hl 0 rfl) ?_
          refine lv_iload hx hb dL_law_706 (lv_at hl 4 rfl) ?_
          refine lv_iconst (v := nI 1) hx hb dL_law_708 (by decide) ?_
          refine n_iadd (n := 4*j + 1) hx hb dL_law_709 (by omega) ?_
          refine va_sld hx hb hX hbl hbA hS (vp_in_nI (by omega) (by omega)) dL_law_710 ?_
          refine k_top (y := nI u) (by rw [nI_clamp (by omega)]; exact eu) ?_
          refine lv_aload_n hx hb dL_law_711 rfl (lv_at hl 0 rfl) ?_
          refine lv_iload hx hb dL_law_712 (lv_at hl 4 rfl) ?_
          refine lv_iconst (v := nI 2) hx hb dL_law_714 (by decide) ?_
          refine n_iadd (n := 4*j + 2) hx hb dL_law_715 (by omega) ?_
          refine va_sld hx hb hX hbl hbA hS (vp_in_nI (by omega) (by omega)) dL_law_716 ?_
          refine k_top (y := nI 3) (by rw [nI_clamp (by omega)]; exact e2) ?_
          refine lv_aload_n hx hb dL_law_717 rfl (lv_at hl 3 rfl) ?_
          refine l_SW (As := [.ref o, .int (nI u), .int (nI 3), .ref (o + 483)]) (rest := []) S hK hX9 hXh (c_L_send_3 l hlS E (nb o) o z sn (q_rows w) bn (q_buf w) u (o + 483) x9 hI hsn hu g9 (by omega)) gL_law_L_send rfl hd_L_send ⟨rfl, rfl⟩ ⟨Nat.le_of_ble_eq_true rfl, Nat.le_of_ble_eq_true rfl⟩ ⟨hWG, hWQ, hWT, hWY, hWB, hWO⟩ rfl hl.1 rfl (Nat.le_of_ble_eq_true rfl) dL_law_718 ⟨by show _ ≤ 601024; omega, by show _ ≤ 7293034; omega⟩ hS (fun q h => h.elim (fun h => by show o ≤ q; have := h.1; omega) (fun h => by show o ≤ q; have := h.1; omega)) (fun q h => h.elim (fun h => by show o ≤ q; have := h.1; omega) (fun h => by show o ≤ q; have := h.1; omega)) (fun H locs hQ zH fH hS => ?_)
          obtain ⟨hR0, hR1, hR2, hR3, hR4, hR5⟩ := hQ
          have hV1 := hR0
          have hV2 := hR1
          have hV3 := hR2
          have hV4 := hR3
          have hV5 := hR4
          have hV6 := hR5
          have hk2 := md_fr2 hWM (fun q hz hq => fH q hz (ow_ne hq (by omega)))
          refine lv_istore (lv' := [(5, .int (nI 0)), (0, .ref b), (1, .ref o), (2, .ref (o + 477)), (3, .ref (o + 483)), (4, .int (nI (4*j)))]) hx hb dL_law_721 hl (by decide) rfl (fun ls hl => ?_)
          refine lv_aload_n hx hb dL_law_723 rfl (lv_at hl 3 rfl) ?_
          refine lv_aload_n hx hb dL_law_724 rfl (lv_at hl 1 rfl) ?_
          refine lv_iload hx hb dL_law_725 (lv_at hl 5 rfl) ?_
          refine lv_iconst (v := nI 1) hx hb dL_law_727 (by decide) ?_
          refine n_iadd (n := 4*j + 1) hx hb dL_law_728 (by omega) ?_
          refine va_sld hx hb hX hbl hbA hS (vp_in_nI (by omega) (by omega)) dL_law_729 ?_
          refine k_top (y := nI u) (by rw [nI_clamp (by omega)]; exact eu) ?_
          refine lv_aload_n hx hb dL_law_730 rfl (lv_at hl 1 rfl) ?_
          refine lv_iload hx hb dL_law_731 (lv_at hl 5 rfl) ?_
          refine lv_iconst (v := nI 2) hx hb dL_law_733 (by decide) ?_
          refine n_iadd (n := 4*j + 2) hx hb dL_law_734 (by omega) ?_
          refine va_sld hx hb hX hbl hbA hS (vp_in_nI (by omega) (by omega)) dL_law_735 ?_
          refine k_top (y := nI 3) (by rw [nI_clamp (by omega)]; exact e2) ?_
          refine k_VM (As := [.int (nI u), .int (nI 3)]) (rest := []) S hK (c_X7_send_3 l E (o + 477) z w u sn hI hu g9 hs hsn) gL_law_X7_send rfl hd_X7_send ⟨rfl, rfl⟩ ⟨Nat.le_of_ble_eq_true rfl, Nat.le_of_ble_eq_true rfl⟩ (k_recv hK hk2.1 rfl) hk2 rfl hl.1 rfl (Nat.le_of_ble_eq_true rfl) dL_law_736 ⟨by show _ ≤ 601024; omega, by show _ ≤ 7293034; omega⟩ hS (fun q h => by show o ≤ q; have := h.1; omega) (fun q h => by show o ≤ q; have := h.1; omega) (fun H locs hQ zH fH hS => ?_)
          have hP := hQ
          have hV7 := hP
          have hk0 := bo_fr2 hV5 (fun q hz hq => fH q hz (bl_ne hq (by omega)))
          have hk1 := gg_fr2 hV1 (fun q hz hq => fH q hz (bl_ne hq (by omega)))
          have hk3 := la_fr2 hV6 (fun q hz hq => fH q hz (bl_ne hq (by omega)))
          have hk4 := dz_fr2 hV2 (fun q hz hq => fH q hz (bl_ne hq (by omega)))
          have hk5 := tr_fr2 hV3 (fun q hz hq => fH q hz (bl_ne hq (by omega)))
          have hk6 := hy_fr2 hV4 (fun q hz hq => fH q hz (bl_ne hq (by omega)))
          refine lv_istore (lv' := [(6, .int (brg z u 3)), (5, .int (nI 0)), (0, .ref b), (1, .ref o), (2, .ref (o + 477)), (3, .ref (o + 483)), (4, .int (nI (4*j)))]) hx hb dL_law_739 hl (by decide) rfl (fun ls hl => ?_)
          refine lv_aload_n hx hb dL_law_741 rfl (lv_at hl 4 rfl) ?_
          refine k_V (As := []) (rest := []) S hK (c_X7_thrown l E (o + 477) (sdZ z u 3) (svW z (w_th w (nI 0)) sn)) gL_law_X7_thrown rfl hd_X7_thrown ⟨rfl, rfl⟩ ⟨Nat.le_of_ble_eq_true rfl, Nat.le_of_ble_eq_true rfl⟩ (k_recv hK hV7.1 rfl) hV7 rfl hl.1 rfl (Nat.le_of_ble_eq_true rfl) dL_law_742 ⟨by show _ ≤ 601024; omega, by show _ ≤ 7293034; omega⟩ ?_
          refine k_top (y := nI 0) rfl ?_
          refine lv_iload hx hb dL_law_745 (lv_at hl 1 rfl) ?_
          refine n_ieq (tgt := 752) hx hb dL_law_747 (by decide) (by omega) (by omega) (fun c747 => ?_) (fun h => absurd h (by decide))
          refine lv_iload hx hb dL_law_752 (lv_at hl 1 rfl) ?_
          refine lv_if_ne (tgt := 769) hx hb dL_law_754 (by decide) (fun h => absurd h (by decide)) (fun c754 => ?_)
          refine lv_aload_n hx hb dL_law_757 rfl (lv_at hl 5 rfl) ?_
          refine lv_iconst (v := nI 0) hx hb dL_law_758 (by decide) ?_
          refine l_lald hx hb hK hk3 dL_law_759 ?_
          refine lv_iload hx hb dL_law_760 (lv_at hl 0 rfl) ?_
          refine lv_i2l hx hb dL_law_762 rfl ?_
          refine l_lcmp hx hb dL_law_763 ?_
          refine lv_if_eq (tgt := 769) hx hb dL_law_764 (by decide) (fun c764 => ?_) (fun h => absurd h (by decide))
          refine lv_goto (tgt := 1824) hx hb dL_law_769 (by decide) ?_
          refine W.widen (k := 484 + (j + 1)) (n := 5828 + 6*(j + 1)) (by omega) (by omega) ?_
          exact T (sdZ z u 3) (svW z (w_th w (nI 0)) sn) (svN sn) bn _ _ _ (PI_sv hPI ⟨iv_sdZ hI hu (by omega) (fun h => absurd h (by decide)), kw_sd hI hu (by omega) (wy3_p g9) hk9.2⟩ rfl rfl hbm hbn) (LI_mk hk1 hk4 hk5 hk6 hk0 hV7 hk3) hS (lv_sub hl [2, 3, 4, 5, 6] rfl)
        · refine lv_aload_n hx hb dL_law_704 rfl (lv_at hl 1 rfl) ?_
          refine lv_aload_n hx hb dL_law_705 rfl (lv_at hl 0 rfl) ?_
          refine lv_iload hx hb dL_law_706 (lv_at hl 4 rfl) ?_
          refine lv_iconst (v := nI 1) hx hb dL_law_708 (by decide) ?_
          refine n_iadd (n := 4*j + 1) hx hb dL_law_709 (by omega) ?_
          refine va_sld hx hb hX hbl hbA hS (vp_in_nI (by omega) (by omega)) dL_law_710 ?_
          refine k_top (y := nI u) (by rw [nI_clamp (by omega)]; exact eu) ?_
          refine lv_aload_n hx hb dL_law_711 rfl (lv_at hl 0 rfl) ?_
          refine lv_iload hx hb dL_law_712 (lv_at hl 4 rfl) ?_
          refine lv_iconst (v := nI 2) hx hb dL_law_714 (by decide) ?_
          refine n_iadd (n := 4*j + 2) hx hb dL_law_715 (by omega) ?_
          refine va_sld hx hb hX hbl hbA hS (vp_in_nI (by omega) (by omega)) dL_law_716 ?_
          refine k_top (y := nI 3) (by rw [nI_clamp (by omega)]; exact e2) ?_
          refine lv_aload_n hx hb dL_law_717 rfl (lv_at hl 3 rfl) ?_
          refine l_SW (As := [.ref o, .int (nI u), .int (nI 3), .ref (o + 483)]) (rest := []) S hK hX9 hXh (y_L_send_3_3 l hlS E (nb o) o z u (o + 483) x9 hI hu g9 (by omega)) gL_law_L_send rfl hd_L_send ⟨rfl, rfl⟩ ⟨Nat.le_of_ble_eq_true rfl, Nat.le_of_ble_eq_true rfl⟩ ⟨hWG, hWQ, hWO⟩ rfl hl.1 rfl (Nat.le_of_ble_eq_true rfl) dL_law_718 ⟨by show _ ≤ 601024; omega, by show _ ≤ 7293034; omega⟩ hS (fun q h => by show o ≤ q; have := h.1; omega) (fun q h => by show o ≤ q; have := h.1; omega) (fun H locs hQ zH fH hS => ?_)
          have hR0 := hQ
          have hV1 := hR0
          have hk0 := bo_fr2 hWB (fun q hz hq => fH q hz (bl_ne hq (by omega)))
          have hk1 := gg_fr2 hWG (fun q hz hq => fH q hz (bl_ne hq (by omega)))
          have hk2 := md_fr2 hWM (fun q hz hq => fH q hz (bl_ne hq (by omega)))
          have hk4 := dz_fr2 hWQ (fun q hz hq => fH q hz (bl_ne hq (by omega)))
          have hk5 := tr_fr2 hWT (fun q hz hq => fH q hz (bl_ne hq (by omega)))
          have hk6 := hy_fr2 hWY (fun q hz hq => fH q hz (bl_ne hq (by omega)))
          refine lv_istore (lv' := [(5, .int (nI 3)), (0, .ref b), (1, .ref o), (2, .ref (o + 477)), (3, .ref (o + 483)), (4, .int (nI (4*j)))]) hx hb dL_law_721 hl (by decide) rfl (fun ls hl => ?_)
          refine lv_aload_n hx hb dL_law_723 rfl (lv_at hl 3 rfl) ?_
          refine lv_aload_n hx hb dL_law_724 rfl (lv_at hl 1 rfl) ?_
          refine lv_iload hx hb dL_law_725 (lv_at hl 5 rfl) ?_
          refine lv_iconst (v := nI 1) hx hb dL_law_727 (by decide) ?_
          refine n_iadd (n := 4*j + 1) hx hb dL_law_728 (by omega) ?_
          refine va_sld hx hb hX hbl hbA hS (vp_in_nI (by omega) (by omega)) dL_law_729 ?_
          refine k_top (y := nI u) (by rw [nI_clamp (by omega)]; exact eu) ?_
          refine lv_aload_n hx hb dL_law_730 rfl (lv_at hl 1 rfl) ?_
          refine lv_iload hx hb dL_law_731 (lv_at hl 5 rfl) ?_
          refine lv_iconst (v := nI 2) hx hb dL_law_733 (by decide) ?_
          refine n_iadd (n := 4*j + 2) hx hb dL_law_734 (by omega) ?_
          refine va_sld hx hb hX hbl hbA hS (vp_in_nI (by omega) (by omega)) dL_law_735 ?_
          refine k_top (y := nI 3) (by rw [nI_clamp (by omega)]; exact e2) ?_
          refine k_VM (As := [.int (nI u), .int (nI 3)]) (rest := []) S hK (c_X7_send_f3_3 l E (o + 477) z w u hI hu g9) gL_law_X7_send rfl hd_X7_send ⟨rfl, rfl⟩ ⟨Nat.le_of_ble_eq_true rfl, Nat.le_of_ble_eq_true rfl⟩ (k_recv hK hk2.1 rfl) hk2 rfl hl.1 rfl (Nat.le_of_ble_eq_true rfl) dL_law_736 ⟨by show _ ≤ 601024; omega, by show _ ≤ 7293034; omega⟩ hS (fun q h => by show o ≤ q; have := h.1; omega) (fun q h => by show o ≤ q; have := h.1; omega) (fun H locs hQ zH fH hS => ?_)
          have hP := hQ
          have hV2 := hP
          have hk0 := bo_fr2 hk0 (fun q hz hq => fH q hz (bl_ne hq (by omega)))
          have hk1 := gg_fr2 hk1 (fun q hz hq => fH q hz (bl_ne hq (by omega)))
          have hk3 := la_fr2 hV1 (fun q hz hq => fH q hz (bl_ne hq (by omega)))
          have hk4 := dz_fr2 hk4 (fun q hz hq => fH q hz (bl_ne hq (by omega)))
          have hk5 := tr_fr2 hk5 (fun q hz hq => fH q hz (bl_ne hq (by omega)))
          have hk6 := hy_fr2 hk6 (fun q hz hq => fH q hz (bl_ne hq (by omega)))
          refine lv_istore (lv' := [(6, .int (nI 0)), (5, .int (nI 3)), (0, .ref b), (1, .ref o), (2, .ref (o + 477)), (3, .ref (o + 483)), (4, .int (nI (4*j)))]) hx hb dL_law_739 hl (by decide) rfl (fun ls hl => ?_)
          refine lv_aload_n hx hb dL_law_741 rfl (lv_at hl 4 rfl) ?_
          refine k_V (As := []) (rest := []) S hK (c_X7_thrown l E (o + 477) z (w_th w (nI 3))) gL_law_X7_thrown rfl hd_X7_thrown ⟨rfl, rfl⟩ ⟨Nat.le_of_ble_eq_true rfl, Nat.le_of_ble_eq_true rfl⟩ (k_recv hK hV2.1 rfl) hV2 rfl hl.1 rfl (Nat.le_of_ble_eq_true rfl) dL_law_742 ⟨by show _ ≤ 601024; omega, by show _ ≤ 7293034; omega⟩ ?_
          refine k_top (y := nI 3) rfl ?_
          refine lv_iload hx hb dL_law_745 (lv_at hl 1 rfl) ?_
          refine n_ieq (tgt := 752) hx hb dL_law_747 (by decide) (by omega) (by omega) (fun c747 => ?_) (fun h => absurd h (by decide))
          refine lv_iload hx hb dL_law_752 (lv_at hl 1 rfl) ?_
          refine lv_if_ne (tgt := 769) hx hb dL_law_754 (by decide) (fun c754 => ?_) (fun h => absurd h (by decide))
          refine lv_goto (tgt := 1824) hx hb dL_law_769 (by decide) ?_
          refine W.widen (k := 484 + (j + 1)) (n := 5828 + 6*(j + 1)) (by omega) (by omega) ?_
          exact T z (w_th w (nI 3)) sn bn _ _ _ hPI (LI_mk hk1 hk4 hk5 hk6 hk0 hV2 hk3) hS (lv_sub hl [2, 3, 4, 5, 6] rfl)
      · subst h
        by_cases g9 : wy4 z u = 0
        · refine lv_aload_n hx hb dL_law_704 rfl (lv_at hl 1 rfl) ?_
          refine lv_aload_n hx hb dL_law_705 rfl (lv_at hl 0 rfl) ?_
          refine lv_iload hx hb dL_law_706 (lv_at hl 4 rfl) ?_
          refine lv_iconst (v := nI 1) hx hb dL_law_708 (by decide) ?_
          refine n_iadd (n := 4*j + 1) hx hb dL_law_709 (by omega) ?_
          refine va_sld hx hb hX hbl hbA hS (vp_in_nI (by omega) (by omega)) dL_law_710 ?_
          refine k_top (y := nI u) (by rw [nI_clamp (by omega)]; exact eu) ?_
          refine lv_aload_n hx hb dL_law_711 rfl (lv_at hl 0 rfl) ?_
          refine lv_iload hx hb dL_law_712 (lv_at hl 4 rfl) ?_
          refine lv_iconst (v := nI 2) hx hb dL_law_714 (by decide) ?_
          refine n_iadd (n := 4*j + 2) hx hb dL_law_715 (by omega) ?_
          refine va_sld hx hb hX hbl hbA hS (vp_in_nI (by omega) (by omega)) dL_law_716 ?_
          refine k_top (y := nI 4) (by rw [nI_clamp (by omega)]; exact e2) ?_
          refine lv_aload_n hx hb dL_law_717 rfl (lv_at hl 3 rfl) ?_
          refine l_SW (As := [.ref o, .int (nI u), .int (nI 4), .ref (o + 483)]) (rest := []) S hK hX9 hXh (c_L_send_4 l hlS E (nb o) o z sn (q_rows w) bn (q_buf w) u (o + 483) x9 hI hsn hu g9 (by omega)) gL_law_L_send rfl hd_L_send ⟨rfl, rfl⟩ ⟨Nat.le_of_ble_eq_true rfl, Nat.le_of_ble_eq_true rfl⟩ ⟨hWG, hWQ, hWT, hWY, hWB, hWO⟩ rfl hl.1 rfl (Nat.le_of_ble_eq_true rfl) dL_law_718 ⟨by show _ ≤ 601024; omega, by show _ ≤ 7293034; omega⟩ hS (fun q h => h.elim (fun h => by show o ≤ q; have := h.1; omega) (fun h => by show o ≤ q; have := h.1; omega)) (fun q h => h.elim (fun h => by show o ≤ q; have := h.1; omega) (fun h => by show o ≤ q; have := h.1; omega)) (fun H locs hQ zH fH hS => ?_)
          obtain ⟨hR0, hR1, hR2, hR3, hR4, hR5⟩ := hQ
          have hV1 := hR0
          have hV2 := hR1
          have hV3 := hR2
          have hV4 := hR3
          have hV5 := hR4
          have hV6 := hR5
          have hk2 := md_fr2 hWM (fun q hz hq => fH q hz (ow_ne hq (by omega)))
          refine lv_istore (lv' := [(5, .int (nI 0)), (0, .ref b), (1, .ref o), (2, .ref (o + 477)), (3, .ref (o + 483)), (4, .int (nI (4*j)))]) hx hb dL_law_721 hl (by decide) rfl (fun ls hl => ?_)
          refine lv_aload_n hx hb dL_law_723 rfl (lv_at hl 3 rfl) ?_
          refine lv_aload_n hx hb dL_law_724 rfl (lv_at hl 1 rfl) ?_
          refine lv_iload hx hb dL_law_725 (lv_at hl 5 rfl) ?_
          refine lv_iconst (v := nI 1) hx hb dL_law_727 (by decide) ?_
          refine n_iadd (n := 4*j + 1) hx hb dL_law_728 (by omega) ?_
          refine va_sld hx hb hX hbl hbA hS (vp_in_nI (by omega) (by omega)) dL_law_729 ?_
          refine k_top (y := nI u) (by rw [nI_clamp (by omega)]; exact eu) ?_
          refine lv_aload_n hx hb dL_law_730 rfl (lv_at hl 1 rfl) ?_
          refine lv_iload hx hb dL_law_731 (lv_at hl 5 rfl) ?_
          refine lv_iconst (v := nI 2) hx hb dL_law_733 (by decide) ?_
          refine n_iadd (n := 4*j + 2) hx hb dL_law_734 (by omega) ?_
          refine va_sld hx hb hX hbl hbA hS (vp_in_nI (by omega) (by omega)) dL_law_735 ?_
          refine k_top (y := nI 4) (by rw [nI_clamp (by omega)]; exact e2) ?_
          refine k_VM (As := [.int (nI u), .int (nI 4)]) (rest := []) S hK (c_X7_send_4 l E (o + 477) z w u sn hI hu g9 hs hsn) gL_law_X7_send rfl hd_X7_send ⟨rfl, rfl⟩ ⟨Nat.le_of_ble_eq_true rfl, Nat.le_of_ble_eq_true rfl⟩ (k_recv hK hk2.1 rfl) hk2 rfl hl.1 rfl (Nat.le_of_ble_eq_true rfl) dL_law_736 ⟨by show _ ≤ 601024; omega, by show _ ≤ 7293034; omega⟩ hS (fun q h => by show o ≤ q; have := h.1; omega) (fun q h => by show o ≤ q; have := h.1; omega) (fun H locs hQ zH fH hS => ?_)
          have hP := hQ
          have hV7 := hP
          have hk0 := bo_fr2 hV5 (fun q hz hq => fH q hz (bl_ne hq (by omega)))
          have hk1 := gg_fr2 hV1 (fun q hz hq => fH q hz (bl_ne hq (by omega)))
          have hk3 := la_fr2 hV6 (fun q hz hq => fH q hz (bl_ne hq (by omega)))
          have hk4 := dz_fr2 hV2 (fun q hz hq => fH q hz (bl_ne hq (by omega)))
          have hk5 := tr_fr2 hV3 (fun q hz hq => fH q hz (bl_ne hq (by omega)))
          have hk6 := hy_fr2 hV4 (fun q hz hq => fH q hz (bl_ne hq (by omega)))
          refine lv_istore (lv' := [(6, .int (brg z u 4)), (5, .int (nI 0)), (0, .ref b), (1, .ref o), (2, .ref (o + 477)), (3, .ref (o + 483)), (4, .int (nI (4*j)))]) hx hb dL_law_739 hl (by decide) rfl (fun ls hl => ?_)
          refine lv_aload_n hx hb dL_law_741 rfl (lv_at hl 4 rfl) ?_
          refine k_V (As := []) (rest := []) S hK (c_X7_thrown l E (o + 477) (sdZ z u 4) (svW z (w_th w (nI 0)) sn)) gL_law_X7_thrown rfl hd_X7_thrown ⟨rfl, rfl⟩ ⟨Nat.le_of_ble_eq_true rfl, Nat.le_of_ble_eq_true rfl⟩ (k_recv hK hV7.1 rfl) hV7 rfl hl.1 rfl (Nat.le_of_ble_eq_true rfl) dL_law_742 ⟨by show _ ≤ 601024; omega, by show _ ≤ 7293034; omega⟩ ?_
          refine k_top (y := nI 0) rfl ?_
          refine lv_iload hx hb dL_law_745 (lv_at hl 1 rfl) ?_
          refine n_ieq (tgt := 752) hx hb dL_law_747 (by decide) (by omega) (by omega) (fun c747 => ?_) (fun h => absurd h (by decide))
          refine lv_iload hx hb dL_law_752 (lv_at hl 1 rfl) ?_
          refine lv_if_ne (tgt := 769) hx hb dL_law_754 (by decide) (fun h => absurd h (by decide)) (fun c754 => ?_)
          refine lv_aload_n hx hb dL_law_757 rfl (lv_at hl 5 rfl) ?_
          refine lv_iconst (v := nI 0) hx hb dL_law_758 (by decide) ?_
          refine l_lald hx hb hK hk3 dL_law_759 ?_
          refine lv_iload hx hb dL_law_760 (lv_at hl 0 rfl) ?_
          refine lv_i2l hx hb dL_law_762 rfl ?_
          refine l_lcmp hx hb dL_law_763 ?_
          refine lv_if_eq (tgt := 769) hx hb dL_law_764 (by decide) (fun c764 => ?_) (fun h => absurd h (by decide))
          refine lv_goto (tgt := 1824) hx hb dL_law_769 (by decide) ?_
          refine W.widen (k := 484 + (j + 1)) (n := 5828 + 6*(j + 1)) (by omega) (by omega) ?_
          exact T (sdZ z u 4) (svW z (w_th w (nI 0)) sn) (svN sn) bn _ _ _ (PI_sv hPI ⟨iv_sdZ hI hu (by omega) (fun h => absurd h (by decide)), kw_sd hI hu (by omega) (wy4_p g9) hk9.2⟩ rfl rfl hbm hbn) (LI_mk hk1 hk4 hk5 hk6 hk0 hV7 hk3) hS (lv_sub hl [2, 3, 4, 5, 6] rfl)
        · refine lv_aload_n hx hb dL_law_704 rfl (lv_at hl 1 rfl) ?_
          refine lv_aload_n hx hb dL_law_705 rfl (lv_at hl 0 rfl) ?_
          refine lv_iload hx hb dL_law_706 (lv_at hl 4 rfl) ?_
          refine lv_iconst (v := nI 1) hx hb dL_law_708 (by decide) ?_
          refine n_iadd (n := 4*j + 1) hx hb dL_law_709 (by omega) ?_
          refine va_sld hx hb hX hbl hbA hS (vp_in_nI (by omega) (by omega)) dL_law_710 ?_
          refine k_top (y := nI u) (by rw [nI_clamp (by omega)]; exact eu) ?_
          refine lv_aload_n hx hb dL_law_711 rfl (lv_at hl 0 rfl) ?_
          refine lv_iload hx hb dL_law_712 (lv_at hl 4 rfl) ?_
          refine lv_iconst (v := nI 2) hx hb dL_law_714 (by decide) ?_
          refine n_iadd (n := 4*j + 2) hx hb dL_law_715 (by omega) ?_
          refine va_sld hx hb hX hbl hbA hS (vp_in_nI (by omega) (by omega)) dL_law_716 ?_
          refine k_top (y := nI 4) (by rw [nI_clamp (by omega)]; exact e2) ?_
          refine lv_aload_n hx hb dL_law_717 rfl (lv_at hl 3 rfl) ?_
          refine l_SW (As := [.ref o, .int (nI u), .int (nI 4), .ref (o + 483)]) (rest := []) S hK hX9 hXh (y_L_send_3_4 l hlS E (nb o) o z u (o + 483) x9 hI hu g9 (by omega)) gL_law_L_send rfl hd_L_send ⟨rfl, rfl⟩ ⟨Nat.le_of_ble_eq_true rfl, Nat.le_of_ble_eq_true rfl⟩ ⟨hWG, hWQ, hWO⟩ rfl hl.1 rfl (Nat.le_of_ble_eq_true rfl) dL_law_718 ⟨by show _ ≤ 601024; omega, by show _ ≤ 7293034; omega⟩ hS (fun q h => by show o ≤ q; have := h.1; omega) (fun q h => by show o ≤ q; have := h.1; omega) (fun H locs hQ zH fH hS => ?_)
          have hR0 := hQ
          have hV1 := hR0
          have hk0 := bo_fr2 hWB (fun q hz hq => fH q hz (bl_ne hq (by omega)))
          have hk1 := gg_fr2 hWG (fun q hz hq => fH q hz (bl_ne hq (by omega)))
          have hk2 := md_fr2 hWM (fun q hz hq => fH q hz (bl_ne hq (by omega)))
          have hk4 := dz_fr2 hWQ (fun q hz hq => fH q hz (bl_ne hq (by omega)))
          have hk5 := tr_fr2 hWT (fun q hz hq => fH q hz (bl_ne hq (by omega)))
          have hk6 := hy_fr2 hWY (fun q hz hq => fH q hz (bl_ne hq (by omega)))
          refine lv_istore (lv' := [(5, .int (nI 3)), (0, .ref b), (1, .ref o), (2, .ref (o + 477)), (3, .ref (o + 483)), (4, .int (nI (4*j)))]) hx hb dL_law_721 hl (by decide) rfl (fun ls hl => ?_)
          refine lv_aload_n hx hb dL_law_723 rfl (lv_at hl 3 rfl) ?_
          refine lv_aload_n hx hb dL_law_724 rfl (lv_at hl 1 rfl) ?_
          refine lv_iload hx hb dL_law_725 (lv_at hl 5 rfl) ?_
          refine lv_iconst (v := nI 1) hx hb dL_law_727 (by decide) ?_
          refine n_iadd (n := 4*j + 1) hx hb dL_law_728 (by omega) ?_
          refine va_sld hx hb hX hbl hbA hS (vp_in_nI (by omega) (by omega)) dL_law_729 ?_
          refine k_top (y := nI u) (by rw [nI_clamp (by omega)]; exact eu) ?_
          refine lv_aload_n hx hb dL_law_730 rfl (lv_at hl 1 rfl) ?_
          refine lv_iload hx hb dL_law_731 (lv_at hl 5 rfl) ?_
          refine lv_iconst (v := nI 2) hx hb dL_law_733 (by decide) ?_
          refine n_iadd (n := 4*j + 2) hx hb dL_law_734 (by omega) ?_
          refine va_sld hx hb hX hbl hbA hS (vp_in_nI (by omega) (by omega)) dL_law_735 ?_
          refine k_top (y := nI 4) (by rw [nI_clamp (by omega)]; exact e2) ?_
          refine k_VM (As := [.int (nI u), .int (nI 4)]) (rest := []) S hK (c_X7_send_f3_4 l E (o + 477) z w u hI hu g9) gL_law_X7_send rfl hd_X7_send ⟨rfl, rfl⟩ ⟨Nat.le_of_ble_eq_true rfl, Nat.le_of_ble_eq_true rfl⟩ (k_recv hK hk2.1 rfl) hk2 rfl hl.1 rfl (Nat.le_of_ble_eq_true rfl) dL_law_736 ⟨by show _ ≤ 601024; omega, by show _ ≤ 7293034; omega⟩ hS (fun q h => by show o ≤ q; have := h.1; omega) (fun q h => by show o ≤ q; have := h.1; omega) (fun H locs hQ zH fH hS => ?_)
          have hP := hQ
          have hV2 := hP
          have hk0 := bo_fr2 hk0 (fun q hz hq => fH q hz (bl_ne hq (by omega)))
          have hk1 := gg_fr2 hk1 (fun q hz hq => fH q hz (bl_ne hq (by omega)))
          have hk3 := la_fr2 hV1 (fun q hz hq => fH q hz (bl_ne hq (by omega)))
          have hk4 := dz_fr2 hk4 (fun q hz hq => fH q hz (bl_ne hq (by omega)))
          have hk5 := tr_fr2 hk5 (fun q hz hq => fH q hz (bl_ne hq (by omega)))
          have hk6 := hy_fr2 hk6 (fun q hz hq => fH q hz (bl_ne hq (by omega)))
          refine lv_istore (lv' := [(6, .int (nI 0)), (5, .int (nI 3)), (0, .ref b), (1, .ref o), (2, .ref (o + 477)), (3, .ref (o + 483)), (4, .int (nI (4*j)))]) hx hb dL_law_739 hl (by decide) rfl (fun ls hl => ?_)
          refine lv_aload_n hx hb dL_law_741 rfl (lv_at hl 4 rfl) ?_
          refine k_V (As := []) (rest := []) S hK (c_X7_thrown l E (o + 477) z (w_th w (nI 3))) gL_law_X7_thrown rfl hd_X7_thrown ⟨rfl, rfl⟩ ⟨Nat.le_of_ble_eq_true rfl, Nat.le_of_ble_eq_true rfl⟩ (k_recv hK hV2.1 rfl) hV2 rfl hl.1 rfl (Nat.le_of_ble_eq_true rfl) dL_law_742 ⟨by show _ ≤ 601024; omega, by show _ ≤ 7293034; omega⟩ ?_
          refine k_top (y := nI 3) rfl ?_
          refine lv_iload hx hb dL_law_745 (lv_at hl 1 rfl) ?_
          refine n_ieq (tgt := 752) hx hb dL_law_747 (by decide) (by omega) (by omega) (fun c747 => ?_) (fun h => absurd h (by decide))
          refine lv_iload hx hb dL_law_752 (lv_at hl 1 rfl) ?_
          refine lv_if_ne (tgt := 769) hx hb dL_law_754 (by decide) (fun c754 => ?_) (fun h => absurd h (by decide))
          refine lv_goto (tgt := 1824) hx hb dL_law_769 (by decide) ?_
          refine W.widen (k := 484 + (j + 1)) (n := 5828 + 6*(j + 1)) (by omega) (by omega) ?_
          exact T z (w_th w (nI 3)) sn bn _ _ _ hPI (LI_mk hk1 hk4 hk5 hk6 hk0 hV2 hk3) hS (lv_sub hl [2, 3, 4, 5, 6] rfl)
    · refine lv_aload_n hx hb dL_law_704 rfl (lv_at hl 1 rfl) ?_
      refine lv_aload_n hx hb dL_law_705 rfl (lv_at hl 0 rfl) ?_
      refine lv_iload hx hb dL_law_706 (lv_at hl 4 rfl) ?_
      refine lv_iconst (v := nI 1) hx hb dL_law_708 (by decide) ?_
      refine n_iadd (n := 4*j + 1) hx hb dL_law_709 (by omega) ?_
      refine va_sld hx hb hX hbl hbA hS (vp_in_nI (by omega) (by omega)) dL_law_710 ?_
      refine k_top (y := nI u) (by rw [nI_clamp (by omega)]; exact eu) ?_
      refine lv_aload_n hx hb dL_law_711 rfl (lv_at hl 0 rfl) ?_
      refine lv_iload hx hb dL_law_712 (lv_at hl 4 rfl) ?_
      refine lv_iconst (v := nI 2) hx hb dL_law_714 (by decide) ?_
      refine n_iadd (n := 4*j + 2) hx hb dL_law_715 (by omega) ?_
      refine va_sld hx hb hX hbl hbA hS (vp_in_nI (by omega) (by omega)) dL_law_716 ?_
      refine k_top (y := xs (4*j + 2)) (by rw [nI_clamp (by omega)]) ?_
      refine lv_aload_n hx hb dL_law_717 rfl (lv_at hl 3 rfl) ?_
      refine l_SW (As := [.ref o, .int (nI u), .int (xs (4*j + 2)), .ref (o + 483)]) (rest := []) S hK hX9 hXh (y_L_send_2 l hlS E (nb o) o z u (xs (4*j + 2)) (o + 483) x9 hI hu g2 (by omega)) gL_law_L_send rfl hd_L_send ⟨rfl, rfl⟩ ⟨Nat.le_of_ble_eq_true rfl, Nat.le_of_ble_eq_true rfl⟩ ⟨hWG, hWQ, hWO⟩ rfl hl.1 rfl (Nat.le_of_ble_eq_true rfl) dL_law_718 ⟨by show _ ≤ 601024; omega, by show _ ≤ 7293034; omega⟩ hS (fun q h => by show o ≤ q; have := h.1; omega) (fun q h => by show o ≤ q; have := h.1; omega) (fun H locs hQ zH fH hS => ?_)
      have hR0 := hQ
      have hV1 := hR0
      have hk0 := bo_fr2 hWB (fun q hz hq => fH q hz (bl_ne hq (by omega)))
      have hk1 := gg_fr2 hWG (fun q hz hq => fH q hz (bl_ne hq (by omega)))
      have hk2 := md_fr2 hWM (fun q hz hq => fH q hz (bl_ne hq (by omega)))
      have hk4 := dz_fr2 hWQ (fun q hz hq => fH q hz (bl_ne hq (by omega)))
      have hk5 := tr_fr2 hWT (fun q hz hq => fH q hz (bl_ne hq (by omega)))
      have hk6 := hy_fr2 hWY (fun q hz hq => fH q hz (bl_ne hq (by omega)))
      refine lv_istore (lv' := [(5, .int (nI 2)), (0, .ref b), (1, .ref o), (2, .ref (o + 477)), (3, .ref (o + 483)), (4, .int (nI (4*j)))]) hx hb dL_law_721 hl (by decide) rfl (fun ls hl => ?_)
      refine lv_aload_n hx hb dL_law_723 rfl (lv_at hl 3 rfl) ?_
      refine lv_aload_n hx hb dL_law_724 rfl (lv_at hl 1 rfl) ?_
      refine lv_iload hx hb dL_law_725 (lv_at hl 5 rfl) ?_
      refine lv_iconst (v := nI 1) hx hb dL_law_727 (by decide) ?_
      refine n_iadd (n := 4*j + 1) hx hb dL_law_728 (by omega) ?_
      refine va_sld hx hb hX hbl hbA hS (vp_in_nI (by omega) (by omega)) dL_law_729 ?_
      refine k_top (y := nI u) (by rw [nI_clamp (by omega)]; exact eu) ?_
      refine lv_aload_n hx hb dL_law_730 rfl (lv_at hl 1 rfl) ?_
      refine lv_iload hx hb dL_law_731 (lv_at hl 5 rfl) ?_
      refine lv_iconst (v := nI 2) hx hb dL_law_733 (by decide) ?_
      refine n_iadd (n := 4*j + 2) hx hb dL_law_734 (by omega) ?_
      refine va_sld hx hb hX hbl hbA hS (vp_in_nI (by omega) (by omega)) dL_law_735 ?_
      refine k_top (y := xs (4*j + 2)) (by rw [nI_clamp (by omega)]) ?_
      refine k_VM (As := [.int (nI u), .int (xs (4*j + 2))]) (rest := []) S hK (c_X7_send_f2 l E (o + 477) z w u (xs (4*j + 2)) hI hu g2) gL_law_X7_send rfl hd_X7_send ⟨rfl, rfl⟩ ⟨Nat.le_of_ble_eq_true rfl, Nat.le_of_ble_eq_true rfl⟩ (k_recv hK hk2.1 rfl) hk2 rfl hl.1 rfl (Nat.le_of_ble_eq_true rfl) dL_law_736 ⟨by show _ ≤ 601024; omega, by show _ ≤ 7293034; omega⟩ hS (fun q h => by show o ≤ q; have := h.1; omega) (fun q h => by show o ≤ q; have := h.1; omega) (fun H locs hQ zH fH hS => ?_)
      have hP := hQ
      have hV2 := hP
      have hk0 := bo_fr2 hk0 (fun q hz hq => fH q hz (bl_ne hq (by omega)))
      have hk1 := gg_fr2 hk1 (fun q hz hq => fH q hz (bl_ne hq (by omega)))
      have hk3 := la_fr2 hV1 (fun q hz hq => fH q hz (bl_ne hq (by omega)))
      have hk4 := dz_fr2 hk4 (fun q hz hq => fH q hz (bl_ne hq (by omega)))
      have hk5 := tr_fr2 hk5 (fun q hz hq => fH q hz (bl_ne hq (by omega)))
      have hk6 := hy_fr2 hk6 (fun q hz hq => fH q hz (bl_ne hq (by omega)))
      refine lv_istore (lv' := [(6, .int (nI 0)), (5, .int (nI 2)), (0, .ref b), (1, .ref o), (2, .ref (o + 477)), (3, .ref (o + 483)), (4, .int (nI (4*j)))]) hx hb dL_law_739 hl (by decide) rfl (fun ls hl => ?_)
      refine lv_aload_n hx hb dL_law_741 rfl (lv_at hl 4 rfl) ?_
      refine k_V (As := []) (rest := []) S hK (c_X7_thrown l E (o + 477) z (w_th w (nI 2))) gL_law_X7_thrown rfl hd_X7_thrown ⟨rfl, rfl⟩ ⟨Nat.le_of_ble_eq_true rfl, Nat.le_of_ble_eq_true rfl⟩ (k_recv hK hV2.1 rfl) hV2 rfl hl.1 rfl (Nat.le_of_ble_eq_true rfl) dL_law_742 ⟨by show _ ≤ 601024; omega, by show _ ≤ 7293034; omega⟩ ?_
      refine k_top (y := nI 2) rfl ?_
      refine lv_iload hx hb dL_law_745 (lv_at hl 1 rfl) ?_
      refine n_ieq (tgt := 752) hx hb dL_law_747 (by decide) (by omega) (by omega) (fun c747 => ?_) (fun h => absurd h (by decide))
      refine lv_iload hx hb dL_law_752 (lv_at hl 1 rfl) ?_
      refine lv_if_ne (tgt := 769) hx hb dL_law_754 (by decide) (fun c754 => ?_) (fun h => absurd h (by decide))
      refine lv_goto (tgt := 1824) hx hb dL_law_769 (by decide) ?_
      refine W.widen (k := 484 + (j + 1)) (n := 5828 + 6*(j + 1)) (by omega) (by omega) ?_
      exact T z (w_th w (nI 2)) sn bn _ _ _ hPI (LI_mk hk1 hk4 hk5 hk6 hk0 hV2 hk3) hS (lv_sub hl [2, 3, 4, 5, 6] rfl)
  · refine lv_aload_n hx hb dL_law_704 rfl (lv_at hl 1 rfl) ?_
    refine lv_aload_n hx hb dL_law_705 rfl (lv_at hl 0 rfl) ?_
    refine lv_iload hx hb dL_law_706 (lv_at hl 4 rfl) ?_
    refine lv_iconst (v := nI 1) hx hb dL_law_708 (by decide) ?_
    refine n_iadd (n := 4*j + 1) hx hb dL_law_709 (by omega) ?_
    refine va_sld hx hb hX hbl hbA hS (vp_in_nI (by omega) (by omega)) dL_law_710 ?_
    refine k_top (y := xs (4*j + 1)) (by rw [nI_clamp (by omega)]) ?_
    refine lv_aload_n hx hb dL_law_711 rfl (lv_at hl 0 rfl) ?_
    refine lv_iload hx hb dL_law_712 (lv_at hl 4 rfl) ?_
    refine lv_iconst (v := nI 2) hx hb dL_law_714 (by decide) ?_
    refine n_iadd (n := 4*j + 2) hx hb dL_law_715 (by omega) ?_
    refine va_sld hx hb hX hbl hbA hS (vp_in_nI (by omega) (by omega)) dL_law_716 ?_
    refine k_top (y := xs (4*j + 2)) (by rw [nI_clamp (by omega)]) ?_
    refine lv_aload_n hx hb dL_law_717 rfl (lv_at hl 3 rfl) ?_
    refine l_SW (As := [.ref o, .int (xs (4*j + 1)), .int (xs (4*j + 2)), .ref (o + 483)]) (rest := []) S hK hX9 hXh (y_L_send_1 l hlS E (nb o) o z (xs (4*j + 1)) (xs (4*j + 2)) (o + 483) x9 hI g1 (by omega)) gL_law_L_send rfl hd_L_send ⟨rfl, rfl⟩ ⟨Nat.le_of_ble_eq_true rfl, Nat.le_of_ble_eq_true rfl⟩ ⟨hWG, hWQ, hWO⟩ rfl hl.1 rfl (Nat.le_of_ble_eq_true rfl) dL_law_718 ⟨by show _ ≤ 601024; omega, by show _ ≤ 7293034; omega⟩ hS (fun q h => by show o ≤ q; have := h.1; omega) (fun q h => by show o ≤ q; have := h.1; omega) (fun H locs hQ zH fH hS => ?_)
    have hR0 := hQ
    have hV1 := hR0
    have hk0 := bo_fr2 hWB (fun q hz hq => fH q hz (bl_ne hq (by omega)))
    have hk1 := gg_fr2 hWG (fun q hz hq => fH q hz (bl_ne hq (by omega)))
    have hk2 := md_fr2 hWM (fun q hz hq => fH q hz (bl_ne hq (by omega)))
    have hk4 := dz_fr2 hWQ (fun q hz hq => fH q hz (bl_ne hq (by omega)))
    have hk5 := tr_fr2 hWT (fun q hz hq => fH q hz (bl_ne hq (by omega)))
    have hk6 := hy_fr2 hWY (fun q hz hq => fH q hz (bl_ne hq (by omega)))
    refine lv_istore (lv' := [(5, .int (nI 1)), (0, .ref b), (1, .ref o), (2, .ref (o + 477)), (3, .ref (o + 483)), (4, .int (nI (4*j)))]) hx hb dL_law_721 hl (by decide) rfl (fun ls hl => ?_)
    refine lv_aload_n hx hb dL_law_723 rfl (lv_at hl 3 rfl) ?_
    refine lv_aload_n hx hb dL_law_724 rfl (lv_at hl 1 rfl) ?_
    refine lv_iload hx hb dL_law_725 (lv_at hl 5 rfl) ?_
    refine lv_iconst (v := nI 1) hx hb dL_law_727 (by decide) ?_
    refine n_iadd (n := 4*j + 1) hx hb dL_law_728 (by omega) ?_
    refine va_sld hx hb hX hbl hbA hS (vp_in_nI (by omega) (by omega)) dL_law_729 ?_
    refine k_top (y := xs (4*j + 1)) (by rw [nI_clamp (by omega)]) ?_
    refine lv_aload_n hx hb dL_law_730 rfl (lv_at hl 1 rfl) ?_
    refine lv_iload hx hb dL_law_731 (lv_at hl 5 rfl) ?_
    refine lv_iconst (v := nI 2) hx hb dL_law_733 (by decide) ?_
    refine n_iadd (n := 4*j + 2) hx hb dL_law_734 (by omega) ?_
    refine va_sld hx hb hX hbl hbA hS (vp_in_nI (by omega) (by omega)) dL_law_735 ?_
    refine k_top (y := xs (4*j + 2)) (by rw [nI_clamp (by omega)]) ?_
    refine k_VM (As := [.int (xs (4*j + 1)), .int (xs (4*j + 2))]) (rest := []) S hK (c_X7_send_f1 l E (o + 477) z w (xs (4*j + 1)) (xs (4*j + 2)) hI g1) gL_law_X7_send rfl hd_X7_send ⟨rfl, rfl⟩ ⟨Nat.le_of_ble_eq_true rfl, Nat.le_of_ble_eq_true rfl⟩ (k_recv hK hk2.1 rfl) hk2 rfl hl.1 rfl (Nat.le_of_ble_eq_true rfl) dL_law_736 ⟨by show _ ≤ 601024; omega, by show _ ≤ 7293034; omega⟩ hS (fun q h => by show o ≤ q; have := h.1; omega) (fun q h => by show o ≤ q; have := h.1; omega) (fun H locs hQ zH fH hS => ?_)
    have hP := hQ
    have hV2 := hP
    have hk0 := bo_fr2 hk0 (fun q hz hq => fH q hz (bl_ne hq (by omega)))
    have hk1 := gg_fr2 hk1 (fun q hz hq => fH q hz (bl_ne hq (by omega)))
    have hk3 := la_fr2 hV1 (fun q hz hq => fH q hz (bl_ne hq (by omega)))
    have hk4 := dz_fr2 hk4 (fun q hz hq => fH q hz (bl_ne hq (by omega)))
    have hk5 := tr_fr2 hk5 (fun q hz hq => fH q hz (bl_ne hq (by omega)))
    have hk6 := hy_fr2 hk6 (fun q hz hq => fH q hz (bl_ne hq (by omega)))
    refine lv_istore (lv' := [(6, .int (nI 0)), (5, .int (nI 1)), (0, .ref b), (1, .ref o), (2, .ref (o + 477)), (3, .ref (o + 483)), (4, .int (nI (4*j)))]) hx hb dL_law_739 hl (by decide) rfl (fun ls hl => ?_)
    refine lv_aload_n hx hb dL_law_741 rfl (lv_at hl 4 rfl) ?_
    refine k_V (As := []) (rest := []) S hK (c_X7_thrown l E (o + 477) z (w_th w (nI 1))) gL_law_X7_thrown rfl hd_X7_thrown ⟨rfl, rfl⟩ ⟨Nat.le_of_ble_eq_true rfl, Nat.le_of_ble_eq_true rfl⟩ (k_recv hK hV2.1 rfl) hV2 rfl hl.1 rfl (Nat.le_of_ble_eq_true rfl) dL_law_742 ⟨by show _ ≤ 601024; omega, by show _ ≤ 7293034; omega⟩ ?_
    refine k_top (y := nI 1) rfl ?_
    refine lv_iload hx hb dL_law_745 (lv_at hl 1 rfl) ?_
    refine n_ieq (tgt := 752) hx hb dL_law_747 (by decide) (by omega) (by omega) (fun c747 => ?_) (fun h => absurd h (by decide))
    refine lv_iload hx hb dL_law_752 (lv_at hl 1 rfl) ?_
    refine lv_if_ne (tgt := 769) hx hb dL_law_754 (by decide) (fun c754 => ?_) (fun h => absurd h (by decide))
    refine lv_goto (tgt := 1824) hx hb dL_law_769 (by decide) ?_
    refine W.widen (k := 484 + (j + 1)) (n := 5828 + 6*(j + 1)) (by omega) (by omega) ?_
    exact T z (w_th w (nI 1)) sn bn _ _ _ hPI (LI_mk hk1 hk4 hk5 hk6 hk0 hV2 hk3) hS (lv_sub hl [2, 3, 4, 5, 6] rfl)
set_option maxHeartbeats 4000000 in
set_option maxRecDepth 100000 in
theorem law_8 {p : Program} {l : Launch} {e : Env} {s : State} {m : MethodId} {below : List Frame} {meth : Method} {c : Code} {E : ke_E} {b o L j : Nat} {xs : Nat → Int32} {Q : State → Prop} (C : LC9 p l s m c E b o L xs) (hj : 4*j + 4 ≤ L) (T : LT9 p l e s m below meth c E b o j Q) : ∀ (z : Nat → Int32) (w : md_w) (sn bn : Nat) (H : Heap) (locs : List Loc) (ls : Array Slot), PI9 z w sn bn → LI9 E o z w sn bn H → va_S (nb o) s.heap H locs → lv_has ls 9 [(0, .ref b), (1, .ref o), (2, .ref (o + 477)), (3, .ref (o + 483)), (4, .int (nI (4*j)))] → W p l e room_1 s m #[.ref b] below meth c H locs (484 + j) (5828 + 6*j) Q (F0 m 772 ls []) := by
  intro z w sn bn H locs ls hPI hLI hS hl
  obtain ⟨S, hlS, hK, hX9, hXh, hX, hbo, hsz9, hL⟩ := C
  have hx := S.1
  have hb := S.2.1
  have hts := S.2.2.2.2
  obtain ⟨hs, hsn, hbm, hbn, hk9, hrows⟩ := id hPI
  have hI := hk9.1
  have hJ := hk9.2.1
  have hpw := hk9.2.2
  have hc20 := iv_c hI
  obtain ⟨hWG, hWQ, hWT, hWY, hWB, hWM, x9, hWO⟩ := hLI
  have hbl : b < s.heap.size := by omega
  have hbA : ¬ nb o b := by show ¬ o ≤ b; omega
  by_cases g1 : nI 1 ≤ (xs (4*j + 1)) ∧ (xs (4*j + 1)) ≤ nI 30
  · obtain ⟨n, hn1, hn30, en⟩ := rng_n (by decide) g1 (by decide)
    by_cases g9 : z 1 + nI n ≤ nI 2000
    · refine lv_aload_n hx hb dL_law_772 rfl (lv_at hl 1 rfl) ?_
      refine lv_aload_n hx hb dL_law_773 rfl (lv_at hl 0 rfl) ?_
      refine lv_iload hx hb dL_law_774 (lv_at hl 4 rfl) ?_
      refine lv_iconst (v := nI 1) hx hb dL_law_776 (by decide) ?_
      refine n_iadd (n := 4*j + 1) hx hb dL_law_777 (by omega) ?_
      refine va_sld hx hb hX hbl hbA hS (vp_in_nI (by omega) (by omega)) dL_law_778 ?_
      refine k_top (y := nI n) (by rw [nI_clamp (by omega)]; exact en) ?_
      refine lv_aload_n hx hb dL_law_779 rfl (lv_at hl 3 rfl) ?_
      refine l_SW (As := [.ref o, .int (nI n), .ref (o + 483)]) (rest := []) S hK hX9 hXh (c_L_pass l hlS E (nb o) o z sn (q_rows w) bn (q_buf w) n (o + 483) x9 hI hsn hn1 hn30 g9 (by omega)) gL_law_L_pass rfl hd_L_pass ⟨rfl, rfl⟩ ⟨Nat.le_of_ble_eq_true rfl, Nat.le_of_ble_eq_true rfl⟩ ⟨hWG, hWQ, hWT, hWY, hWB, hWO⟩ rfl hl.1 rfl (Nat.le_of_ble_eq_true rfl) dL_law_780 ⟨by show _ ≤ 601024; omega, by show _ ≤ 7293034; omega⟩ hS (fun q h => h.elim (fun h => by show o ≤ q; have := h.1; omega) (fun h => by show o ≤ q; have := h.1; omega)) (fun q h => h.elim (fun h => by show o ≤ q; have := h.1; omega) (fun h => by show o ≤ q; have := h.1; omega)) (fun H locs hQ zH fH hS => ?_)
      obtain ⟨hR0, hR1, hR2, hR3, hR4, hR5⟩ := hQ
      have hV1 := hR0
      have hV2 := hR1
      have hV3 := hR2
      have hV4 := hR3
      have hV5 := hR4
      have hV6 := hR5
      have hk2 := md_fr2 hWM (fun q hz hq => fH q hz (ow_ne hq (by omega)))
      refine lv_istore (lv' := [(5, .int (nI 0)), (0, .ref b), (1, .ref o), (2, .ref (o + 477)), (3, .ref (o + 483)), (4, .int (nI (4*j)))]) hx hb dL_law_783 hl (by decide) rfl (fun ls hl => ?_)
      refine lv_aload_n hx hb dL_law_785 rfl (lv_at hl 3 rfl) ?_
      refine lv_aload_n hx hb dL_law_786 rfl (lv_at hl 1 rfl) ?_
      refine lv_iload hx hb dL_law_787 (lv_at hl 5 rfl) ?_
      refine lv_iconst (v := nI 1) hx hb dL_law_789 (by decide) ?_
      refine n_iadd (n := 4*j + 1) hx hb dL_law_790 (by omega) ?_
      refine va_sld hx hb hX hbl hbA hS (vp_in_nI (by omega) (by omega)) dL_law_791 ?_
      refine k_top (y := nI n) (by rw [nI_clamp (by omega)]; exact en) ?_
      refine k_VM (As := [.int (nI n)]) (rest := []) S hK (c_X7_pass l E (o + 477) z w n sn hI hn1 hn30 g9 hs hsn) gL_law_X7_pass rfl hd_X7_pass ⟨rfl, rfl⟩ ⟨Nat.le_of_ble_eq_true rfl, Nat.le_of_ble_eq_true rfl⟩ (k_recv hK hk2.1 rfl) hk2 rfl hl.1 rfl (Nat.le_of_ble_eq_true rfl) dL_law_792 ⟨by show _ ≤ 601024; omega, by show _ ≤ 7293034; omega⟩ hS (fun q h => by show o ≤ q; have := h.1; omega) (fun q h => by show o ≤ q; have := h.1; omega) (fun H locs hQ zH fH hS => ?_)
      have hP := hQ
      have hV7 := hP
      have hk0 := bo_fr2 hV5 (fun q hz hq => fH q hz (bl_ne hq (by omega)))
      have hk1 := gg_fr2 hV1 (fun q hz hq => fH q hz (bl_ne hq (by omega)))
      have hk3 := la_fr2 hV6 (fun q hz hq => fH q hz (bl_ne hq (by omega)))
      have hk4 := dz_fr2 hV2 (fun q hz hq => fH q hz (bl_ne hq (by omega)))
      have hk5 := tr_fr2 hV3 (fun q hz hq => fH q hz (bl_ne hq (by omega)))
      have hk6 := hy_fr2 hV4 (fun q hz hq => fH q hz (bl_ne hq (by omega)))
      refine lv_istore (lv' := [(6, .int (psI z n).2), (5, .int (nI 0)), (0, .ref b), (1, .ref o), (2, .ref (o + 477)), (3, .ref (o + 483)), (4, .int (nI (4*j)))]) hx hb dL_law_795 hl (by decide) rfl (fun ls hl => ?_)
      refine lv_aload_n hx hb dL_law_797 rfl (lv_at hl 4 rfl) ?_
      refine k_V (As := []) (rest := []) S hK (c_X7_thrown l E (o + 477) (psI z n).1 (svW z (w_th w (nI 0)) sn)) gL_law_X7_thrown rfl hd_X7_thrown ⟨rfl, rfl⟩ ⟨Nat.le_of_ble_eq_true rfl, Nat.le_of_ble_eq_true rfl⟩ (k_recv hK hV7.1 rfl) hV7 rfl hl.1 rfl (Nat.le_of_ble_eq_true rfl) dL_law_798 ⟨by show _ ≤ 601024; omega, by show _ ≤ 7293034; omega⟩ ?_
      refine k_top (y := nI 0) rfl ?_
      refine lv_iload hx hb dL_law_801 (lv_at hl 1 rfl) ?_
      refine n_ieq (tgt := 808) hx hb dL_law_803 (by decide) (by omega) (by omega) (fun c803 => ?_) (fun h => absurd h (by decide))
      refine lv_iload hx hb dL_law_808 (lv_at hl 1 rfl) ?_
      refine lv_if_ne (tgt := 825) hx hb dL_law_810 (by decide) (fun h => absurd h (by decide)) (fun c810 => ?_)
      refine lv_aload_n hx hb dL_law_813 rfl (lv_at hl 5 rfl) ?_
      refine lv_iconst (v := nI 0) hx hb dL_law_814 (by decide) ?_
      refine l_lald hx hb hK hk3 dL_law_815 ?_
      refine lv_iload hx hb dL_law_816 (lv_at hl 0 rfl) ?_
      refine lv_i2l hx hb dL_law_818 rfl ?_
      refine l_lcmp hx hb dL_law_819 ?_
      refine lv_if_eq (tgt := 825) hx hb dL_law_820 (by decide) (fun c820 => ?_) (fun h => absurd h (by decide))
      refine lv_goto (tgt := 1824) hx hb dL_law_825 (by decide) ?_
      refine W.widen (k := 484 + (j + 1)) (n := 5828 + 6*(j + 1)) (by omega) (by omega) ?_
      exact T (psI z n).1 (svW z (w_th w (nI 0)) sn) (svN sn) bn _ _ _ (PI_sv hPI ⟨(psI_iv hI n).1, kw_ps hI hk9.2 n⟩ rfl rfl hbm hbn) (LI_mk hk1 hk4 hk5 hk6 hk0 hV7 hk3) hS (lv_sub hl [2, 3, 4, 5, 6] rfl)
    · refine lv_aload_n hx hb dL_law_772 rfl (lv_at hl 1 rfl) ?_
      refine lv_aload_n hx hb dL_law_773 rfl (lv_at hl 0 rfl) ?_
      refine lv_iload hx hb dL_law_774 (lv_at hl 4 rfl) ?_
      refine lv_iconst (v := nI 1) hx hb dL_law_776 (by decide) ?_
      refine n_iadd (n := 4*j + 1) hx hb dL_law_777 (by omega) ?_
      refine va_sld hx hb hX hbl hbA hS (vp_in_nI (by omega) (by omega)) dL_law_778 ?_
      refine k_top (y := nI n) (by rw [nI_clamp (by omega)]; exact en) ?_
      refine lv_aload_n hx hb dL_law_779 rfl (lv_at hl 3 rfl) ?_
      refine l_SW (As := [.ref o, .int (nI n), .ref (o + 483)]) (rest := []) S hK hX9 hXh (y_L_pass_2 l hlS E (nb o) o z n (o + 483) x9 hI hn1 hn30 g9 (by omega)) gL_law_L_pass rfl hd_L_pass ⟨rfl, rfl⟩ ⟨Nat.le_of_ble_eq_true rfl, Nat.le_of_ble_eq_true rfl⟩ ⟨hWG, hWQ, hWO⟩ rfl hl.1 rfl (Nat.le_of_ble_eq_true rfl) dL_law_780 ⟨by show _ ≤ 601024; omega, by show _ ≤ 7293034; omega⟩ hS (fun q h => by show o ≤ q; have := h.1; omega) (fun q h => by show o ≤ q; have := h.1; omega) (fun H locs hQ zH fH hS => ?_)
      have hR0 := hQ
      have hV1 := hR0
      have hk0 := bo_fr2 hWB (fun q hz hq => fH q hz (bl_ne hq (by omega)))
      have hk1 := gg_fr2 hWG (fun q hz hq => fH q hz (bl_ne hq (by omega)))
      have hk2 := md_fr2 hWM (fun q hz hq => fH q hz (bl_ne hq (by omega)))
      have hk4 := dz_fr2 hWQ (fun q hz hq => fH q hz (bl_ne hq (by omega)))
      have hk5 := tr_fr2 hWT (fun q hz hq => fH q hz (bl_ne hq (by omega)))
      have hk6 := hy_fr2 hWY (fun q hz hq => fH q hz (bl_ne hq (by omega)))
      refine lv_istore (lv' := [(5, .int (nI 2)), (0, .ref b), (1, .ref o), (2, .ref (o + 477)), (3, .ref (o + 483)), (4, .int (nI (4*j)))]) hx hb dL_law_783 hl (by decide) rfl (fun ls hl => ?_)
      refine lv_aload_n hx hb dL_law_785 rfl (lv_at hl 3 rfl) ?_
      refine lv_aload_n hx hb dL_law_786 rfl (lv_at hl 1 rfl) ?_
      refine lv_iload hx hb dL_law_787 (lv_at hl 5 rfl) ?_
      refine lv_iconst (v := nI 1) hx hb dL_law_789 (by decide) ?_
      refine n_iadd (n := 4*j + 1) hx hb dL_law_790 (by omega) ?_
      refine va_sld hx hb hX hbl hbA hS (vp_in_nI (by omega) (by omega)) dL_law_791 ?_
      refine k_top (y := nI n) (by rw [nI_clamp (by omega)]; exact en) ?_
      refine k_VM (As := [.int (nI n)]) (rest := []) S hK (c_X7_pass_f2 l E (o + 477) z w n hI hn1 hn30 g9) gL_law_X7_pass rfl hd_X7_pass ⟨rfl, rfl⟩ ⟨Nat.le_of_ble_eq_true rfl, Nat.le_of_ble_eq_true rfl⟩ (k_recv hK hk2.1 rfl) hk2 rfl hl.1 rfl (Nat.le_of_ble_eq_true rfl) dL_law_792 ⟨by show _ ≤ 601024; omega, by show _ ≤ 7293034; omega⟩ hS (fun q h => by show o ≤ q; have := h.1; omega) (fun q h => by show o ≤ q; have := h.1; omega) (fun H locs hQ zH fH hS => ?_)
      have hP := hQ
      have hV2 := hP
      have hk0 := bo_fr2 hk0 (fun q hz hq => fH q hz (bl_ne hq (by omega)))
      have hk1 := gg_fr2 hk1 (fun q hz hq => fH q hz (bl_ne hq (by omega)))
      have hk3 := la_fr2 hV1 (fun q hz hq => fH q hz (bl_ne hq (by omega)))
      have hk4 := dz_fr2 hk4 (fun q hz hq => fH q hz (bl_ne hq (by omega)))
      have hk5 := tr_fr2 hk5 (fun q hz hq => fH q hz (bl_ne hq (by omega)))
      have hk6 := hy_fr2 hk6 (fun q hz hq => fH q hz (bl_ne hq (by omega)))
      refine lv_istore (lv' := [(6, .int (nI 0)), (5, .int (nI 2)), (0, .ref b), (1, .ref o), (2, .ref (o + 477)), (3, .ref (o + 483)), (4, .int (nI (4*j)))]) hx hb dL_law_795 hl (by decide) rfl (fun ls hl => ?_)
      refine lv_aload_n hx hb dL_law_797 rfl (lv_at hl 4 rfl) ?_
      refine k_V (As := []) (rest := []) S hK (c_X7_thrown l E (o + 477) z (w_th w (nI 2))) gL_law_X7_thrown rfl hd_X7_thrown ⟨rfl, rfl⟩ ⟨Nat.le_of_ble_eq_true rfl, Nat.le_of_ble_eq_true rfl⟩ (k_recv hK hV2.1 rfl) hV2 rfl hl.1 rfl (Nat.le_of_ble_eq_true rfl) dL_law_798 ⟨by show _ ≤ 601024; omega, by show _ ≤ 7293034; omega⟩ ?_
      refine k_top (y := nI 2) rfl ?_
      refine lv_iload hx hb dL_law_801 (lv_at hl 1 rfl) ?_
      refine n_ieq (tgt := 808) hx hb dL_law_803 (by decide) (by omega) (by omega) (fun c803 => ?_) (fun h => absurd h (by decide))
      refine lv_iload hx hb dL_law_808 (lv_at hl 1 rfl) ?_
      refine lv_if_ne (tgt := 825) hx hb dL_law_810 (by decide) (fun c810 => ?_) (fun h => absurd h (by decide))
      refine lv_goto (tgt := 1824) hx hb dL_law_825 (by decide) ?_
      refine W.widen (k := 484 + (j + 1)) (n := 5828 + 6*(j + 1)) (by omega) (by omega) ?_
      exact T z (w_th w (nI 2)) sn bn _ _ _ hPI (LI_mk hk1 hk4 hk5 hk6 hk0 hV2 hk3) hS (lv_sub hl [2, 3, 4, 5, 6] rfl)
  · refine lv_aload_n hx hb dL_law_772 rfl (lv_at hl 1 rfl) ?_
    refine lv_aload_n hx hb dL_law_773 rfl (lv_at hl 0 rfl) ?_
    refine lv_iload hx hb dL_law_774 (lv_at hl 4 rfl) ?_
    refine lv_iconst (v := nI 1) hx hb dL_law_776 (by decide) ?_
    refine n_iadd (n := 4*j + 1) hx hb dL_law_777 (by omega) ?_
    refine va_sld hx hb hX hbl hbA hS (vp_in_nI (by omega) (by omega)) dL_law_778 ?_
    refine k_top (y := xs (4*j + 1)) (by rw [nI_clamp (by omega)]) ?_
    refine lv_aload_n hx hb dL_law_779 rfl (lv_at hl 3 rfl) ?_
    refine l_SW (As := [.ref o, .int (xs (4*j + 1)), .ref (o + 483)]) (rest := []) S hK hX9 hXh (y_L_pass_1 l hlS E (nb o) o z (xs (4*j + 1)) (o + 483) x9 hI g1 (by omega)) gL_law_L_pass rfl hd_L_pass ⟨rfl, rfl⟩ ⟨Nat.le_of_ble_eq_true rfl, Nat.le_of_ble_eq_true rfl⟩ ⟨hWG, hWQ, hWO⟩ rfl hl.1 rfl (Nat.le_of_ble_eq_true rfl) dL_law_780 ⟨by show _ ≤ 601024; omega, by show _ ≤ 7293034; omega⟩ hS (fun q h => by show o ≤ q; have := h.1; omega) (fun q h => by show o ≤ q; have := h.1; omega) (fun H locs hQ zH fH hS => ?_)
    have hR0 := hQ
    have hV1 := hR0
    have hk0 := bo_fr2 hWB (fun q hz hq => fH q hz (bl_ne hq (by omega)))
    have hk1 := gg_fr2 hWG (fun q hz hq => fH q hz (bl_ne hq (by omega)))
    have hk2 := md_fr2 hWM (fun q hz hq => fH q hz (bl_ne hq (by omega)))
    have hk4 := dz_fr2 hWQ (fun q hz hq => fH q hz (bl_ne hq (by omega)))
    have hk5 := tr_fr2 hWT (fun q hz hq => fH q hz (bl_ne hq (by omega)))
    have hk6 := hy_fr2 hWY (fun q hz hq => fH q hz (bl_ne hq (by omega)))
    refine lv_istore (lv' := [(5, .int (nI 1)), (0, .ref b), (1, .ref o), (2, .ref (o + 477)), (3, .ref (o + 483)), (4, .int (nI (4*j)))]) hx hb dL_law_783 hl (by decide) rfl (fun ls hl => ?_)
    refine lv_aload_n hx hb dL_law_785 rfl (lv_at hl 3 rfl) ?_
    refine lv_aload_n hx hb dL_law_786 rfl (lv_at hl 1 rfl) ?_
    refine lv_iload hx hb dL_law_787 (lv_at hl 5 rfl) ?_
    refine lv_iconst (v := nI 1) hx hb dL_law_789 (by decide) ?_
    refine n_iadd (n := 4*j + 1) hx hb dL_law_790 (by omega) ?_
    refine va_sld hx hb hX hbl hbA hS (vp_in_nI (by omega) (by omega)) dL_law_791 ?_
    refine k_top (y := xs (4*j + 1)) (by rw [nI_clamp (by omega)]) ?_
    refine k_VM (As := [.int (xs (4*j + 1))]) (rest := []) S hK (c_X7_pass_f1 l E (o + 477) z w (xs (4*j + 1)) hI g1) gL_law_X7_pass rfl hd_X7_pass ⟨rfl, rfl⟩ ⟨Nat.le_of_ble_eq_true rfl, Nat.le_of_ble_eq_true rfl⟩ (k_recv hK hk2.1 rfl) hk2 rfl hl.1 rfl (Nat.le_of_ble_eq_true rfl) dL_law_792 ⟨by show _ ≤ 601024; omega, by show _ ≤ 7293034; omega⟩ hS (fun q h => by show o ≤ q; have := h.1; omega) (fun q h => by show o ≤ q; have := h.1; omega) (fun H locs hQ zH fH hS => ?_)
    have hP := hQ
    have hV2 := hP
    have hk0 := bo_fr2 hk0 (fun q hz hq => fH q hz (bl_ne hq (by omega)))
    have hk1 := gg_fr2 hk1 (fun q hz hq => fH q hz (bl_ne hq (by omega)))
    have hk3 := la_fr2 hV1 (fun q hz hq => fH q hz (bl_ne hq (by omega)))
    have hk4 := dz_fr2 hk4 (fun q hz hq => fH q hz (bl_ne hq (by omega)))
    have hk5 := tr_fr2 hk5 (fun q hz hq => fH q hz (bl_ne hq (by omega)))
    have hk6 := hy_fr2 hk6 (fun q hz hq => fH q hz (bl_ne hq (by omega)))
    refine lv_istore (lv' := [(6, .int (nI 0)), (5, .int (nI 1)), (0, .ref b), (1, .ref o), (2, .ref (o + 477)), (3, .ref (o + 483)), (4, .int (nI (4*j)))]) hx hb dL_law_795 hl (by decide) rfl (fun ls hl => ?_)
    refine lv_aload_n hx hb dL_law_797 rfl (lv_at hl 4 rfl) ?_
    refine k_V (As := []) (rest := []) S hK (c_X7_thrown l E (o + 477) z (w_th w (nI 1))) gL_law_X7_thrown rfl hd_X7_thrown ⟨rfl, rfl⟩ ⟨Nat.le_of_ble_eq_true rfl, Nat.le_of_ble_eq_true rfl⟩ (k_recv hK hV2.1 rfl) hV2 rfl hl.1 rfl (Nat.le_of_ble_eq_true rfl) dL_law_798 ⟨by show _ ≤ 601024; omega, by show _ ≤ 7293034; omega⟩ ?_
    refine k_top (y := nI 1) rfl ?_
    refine lv_iload hx hb dL_law_801 (lv_at hl 1 rfl) ?_
    refine n_ieq (tgt := 808) hx hb dL_law_803 (by decide) (by omega) (by omega) (fun c803 => ?_) (fun h => absurd h (by decide))
    refine lv_iload hx hb dL_law_808 (lv_at hl 1 rfl) ?_
    refine lv_if_ne (tgt := 825) hx hb dL_law_810 (by decide) (fun c810 => ?_) (fun h => absurd h (by decide))
    refine lv_goto (tgt := 1824) hx hb dL_law_825 (by decide) ?_
    refine W.widen (k := 484 + (j + 1)) (n := 5828 + 6*(j + 1)) (by omega) (by omega) ?_
    exact T z (w_th w (nI 1)) sn bn _ _ _ hPI (LI_mk hk1 hk4 hk5 hk6 hk0 hV2 hk3) hS (lv_sub hl [2, 3, 4, 5, 6] rfl)
set_option maxHeartbeats 4000000 in
set_option maxRecDepth 100000 in
theorem law_9 {p : Program} {l : Launch} {e : Env} {s : State} {m : MethodId} {below : List Frame} {meth : Method} {c : Code} {E : ke_E} {b o L j : Nat} {xs : Nat → Int32} {Q : State → Prop} (C : LC9 p l s m c E b o L xs) (hj : 4*j + 4 ≤ L) (T : LT9 p l e s m below meth c E b o j Q) : ∀ (z : Nat → Int32) (w : md_w) (sn bn : Nat) (H : Heap) (locs : List Loc) (ls : Array Slot), PI9 z w sn bn → LI9 E o z w sn bn H → va_S (nb o) s.heap H locs → lv_has ls 9 [(0, .ref b), (1, .ref o), (2, .ref (o + 477)), (3, .ref (o + 483)), (4, .int (nI (4*j)))] → W p l e room_1 s m #[.ref b] below meth c H locs (484 + j) (5828 + 6*j) Q (F0 m 828 ls []) := by
  intro z w sn bn H locs ls hPI hLI hS hl
  obtain ⟨S, hlS, hK, hX9, hXh, hX, hbo, hsz9, hL⟩ := C
  have hx := S.1
  have hb := S.2.1
  have hts := S.2.2.2.2
  obtain ⟨hs, hsn, hbm, hbn, hk9, hrows⟩ := id hPI
  have hI := hk9.1
  have hJ := hk9.2.1
  have hpw := hk9.2.2
  have hc20 := iv_c hI
  obtain ⟨hWG, hWQ, hWT, hWY, hWB, hWM, x9, hWO⟩ := hLI
  have hbl : b < s.heap.size := by omega
  have hbA : ¬ nb o b := by show ¬ o ≤ b; omega
  by_cases g1 : inR (xs (4*j + 1)) (cn z)
  · obtain ⟨u, hu, eu⟩ := g1
    by_cases g9 : clOK z u
    · refine lv_aload_n hx hb dL_law_828 rfl (lv_at hl 1 rfl) ?_
      refine lv_aload_n hx hb dL_law_829 rfl (lv_at hl 0 rfl) ?_
      refine lv_iload hx hb dL_law_830 (lv_at hl 4 rfl) ?_
      refine lv_iconst (v := nI 1) hx hb dL_law_832 (by decide) ?_
      refine n_iadd (n := 4*j + 1) hx hb dL_law_833 (by omega) ?_
      refine va_sld hx hb hX hbl hbA hS (vp_in_nI (by omega) (by omega)) dL_law_834 ?_
      refine k_top (y := nI u) (by rw [nI_clamp (by omega)]; exact eu) ?_
      refine lv_aload_n hx hb dL_law_835 rfl (lv_at hl 3 rfl) ?_
      refine l_SW (As := [.ref o, .int (nI u), .ref (o + 483)]) (rest := []) S hK hX9 hXh (c_L_claim l hlS E (nb o) o z sn (q_rows w) bn (q_buf w) u (o + 483) x9 hI hsn hu g9 (hpw u hu g9.2.2) (by omega)) gL_law_L_claim rfl hd_L_claim ⟨rfl, rfl⟩ ⟨Nat.le_of_ble_eq_true rfl, Nat.le_of_ble_eq_true rfl⟩ ⟨hWG, hWQ, hWT, hWY, hWB, hWO⟩ rfl hl.1 rfl (Nat.le_of_ble_eq_true rfl) dL_law_836 ⟨by show _ ≤ 601024; omega, by show _ ≤ 7293034; omega⟩ hS (fun q h => h.elim (fun h => by show o ≤ q; have := h.1; omega) (fun h => by show o ≤ q; have := h.1; omega)) (fun q h => h.elim (fun h => by show o ≤ q; have := h.1; omega) (fun h => by show o ≤ q; have := h.1; omega)) (fun H locs hQ zH fH hS => ?_)
      obtain ⟨hR0, hR1, hR2, hR3, hR4, hR5⟩ := hQ
      have hV1 := hR0
      have hV2 := hR1
      have hV3 := hR2
      have hV4 := hR3
      have hV5 := hR4
      have hV6 := hR5
      have hk2 := md_fr2 hWM (fun q hz hq => fH q hz (ow_ne hq (by omega)))
      refine lv_istore (lv' := [(5, .int (nI 0)), (0, .ref b), (1, .ref o), (2, .ref (o + 477)), (3, .ref (o + 483)), (4, .int (nI (4*j)))]) hx hb dL_law_839 hl (by decide) rfl (fun ls hl => ?_)
      refine lv_aload_n hx hb dL_law_841 rfl (lv_at hl 3 rfl) ?_
      refine lv_aload_n hx hb dL_law_842 rfl (lv_at hl 1 rfl) ?_
      refine lv_iload hx hb dL_law_843 (lv_at hl 5 rfl) ?_
      refine lv_iconst (v := nI 1) hx hb dL_law_845 (by decide) ?_
      refine n_iadd (n := 4*j + 1) hx hb dL_law_846 (by omega) ?_
      refine va_sld hx hb hX hbl hbA hS (vp_in_nI (by omega) (by omega)) dL_law_847 ?_
      refine k_top (y := nI u) (by rw [nI_clamp (by omega)]; exact eu) ?_
      refine k_VM (As := [.int (nI u)]) (rest := []) S hK (c_X7_claim l E (o + 477) z w u sn hI hu g9 hs hsn) gL_law_X7_claim rfl hd_X7_claim ⟨rfl, rfl⟩ ⟨Nat.le_of_ble_eq_true rfl, Nat.le_of_ble_eq_true rfl⟩ (k_recv hK hk2.1 rfl) hk2 rfl hl.1 rfl (Nat.le_of_ble_eq_true rfl) dL_law_848 ⟨by show _ ≤ 601024; omega, by show _ ≤ 7293034; omega⟩ hS (fun q h => by show o ≤ q; have := h.1; omega) (fun q h => by show o ≤ q; have := h.1; omega) (fun H locs hQ zH fH hS => ?_)
      have hP := hQ
      have hV7 := hP
      have hk0 := bo_fr2 hV5 (fun q hz hq => fH q hz (bl_ne hq (by omega)))
      have hk1 := gg_fr2 hV1 (fun q hz hq => fH q hz (bl_ne hq (by omega)))
      have hk3 := la_fr2 hV6 (fun q hz hq => fH q hz (bl_ne hq (by omega)))
      have hk4 := dz_fr2 hV2 (fun q hz hq => fH q hz (bl_ne hq (by omega)))
      have hk5 := tr_fr2 hV3 (fun q hz hq => fH q hz (bl_ne hq (by omega)))
      have hk6 := hy_fr2 hV4 (fun q hz hq => fH q hz (bl_ne hq (by omega)))
      refine lv_istore (lv' := [(6, .int (bI (payP (cm3 z u) u))), (5, .int (nI 0)), (0, .ref b), (1, .ref o), (2, .ref (o + 477)), (3, .ref (o + 483)), (4, .int (nI (4*j)))]) hx hb dL_law_851 hl (by decide) rfl (fun ls hl => ?_)
      refine lv_aload_n hx hb dL_law_853 rfl (lv_at hl 4 rfl) ?_
      refine k_V (As := []) (rest := []) S hK (c_X7_thrown l E (o + 477) (cmZ z u) (svW z (w_th w (nI 0)) sn)) gL_law_X7_thrown rfl hd_X7_thrown ⟨rfl, rfl⟩ ⟨Nat.le_of_ble_eq_true rfl, Nat.le_of_ble_eq_true rfl⟩ (k_recv hK hV7.1 rfl) hV7 rfl hl.1 rfl (Nat.le_of_ble_eq_true rfl) dL_law_854 ⟨by show _ ≤ 601024; omega, by show _ ≤ 7293034; omega⟩ ?_
      refine k_top (y := nI 0) rfl ?_
      refine lv_iload hx hb dL_law_857 (lv_at hl 1 rfl) ?_
      refine n_ieq (tgt := 864) hx hb dL_law_859 (by decide) (by omega) (by omega) (fun c859 => ?_) (fun h => absurd h (by decide))
      refine lv_iload hx hb dL_law_864 (lv_at hl 1 rfl) ?_
      refine lv_if_ne (tgt := 881) hx hb dL_law_866 (by decide) (fun h => absurd h (by decide)) (fun c866 => ?_)
      refine lv_aload_n hx hb dL_law_869 rfl (lv_at hl 5 rfl) ?_
      refine lv_iconst (v := nI 0) hx hb dL_law_870 (by decide) ?_
      refine l_lald hx hb hK hk3 dL_law_871 ?_
      refine lv_iload hx hb dL_law_872 (lv_at hl 0 rfl) ?_
      refine lv_i2l hx hb dL_law_874 rfl ?_
      refine l_lcmp hx hb dL_law_875 ?_
      refine lv_if_eq (tgt := 881) hx hb dL_law_876 (by decide) (fun c876 => ?_) (fun h => absurd h (by decide))
      refine lv_goto (tgt := 1824) hx hb dL_law_881 (by decide) ?_
      refine W.widen (k := 484 + (j + 1)) (n := 5828 + 6*(j + 1)) (by omega) (by omega) ?_
      exact T (cmZ z u) (svW z (w_th w (nI 0)) sn) (svN sn) bn _ _ _ (PI_sv hPI ⟨iv_cmZ hI hu, kw_cm hI hu g9.2.2 hk9.2⟩ rfl rfl hbm hbn) (LI_mk hk1 hk4 hk5 hk6 hk0 hV7 hk3) hS (lv_sub hl [2, 3, 4, 5, 6] rfl)
    · refine lv_aload_n hx hb dL_law_828 rfl (lv_at hl 1 rfl) ?_
      refine lv_aload_n hx hb dL_law_829 rfl (lv_at hl 0 rfl) ?_
      refine lv_iload hx hb dL_law_830 (lv_at hl 4 rfl) ?_
      refine lv_iconst (v := nI 1) hx hb dL_law_832 (by decide) ?_
      refine n_iadd (n := 4*j + 1) hx hb dL_law_833 (by omega) ?_
      refine va_sld hx hb hX hbl hbA hS (vp_in_nI (by omega) (by omega)) dL_law_834 ?_
      refine k_top (y := nI u) (by rw [nI_clamp (by omega)]; exact eu) ?_
      refine lv_aload_n hx hb dL_law_835 rfl (lv_at hl 3 rfl) ?_
      refine l_SW (As := [.ref o, .int (nI u), .ref (o + 483)]) (rest := []) S hK hX9 hXh (y_L_claim_2 l hlS E (nb o) o z u (o + 483) x9 hI hu g9 (by omega)) gL_law_L_claim rfl hd_L_claim ⟨rfl, rfl⟩ ⟨Nat.le_of_ble_eq_true rfl, Nat.le_of_ble_eq_true rfl⟩ ⟨hWG, hWQ, hWO⟩ rfl hl.1 rfl (Nat.le_of_ble_eq_true rfl) dL_law_836 ⟨by show _ ≤ 601024; omega, by show _ ≤ 7293034; omega⟩ hS (fun q h => by show o ≤ q; have := h.1; omega) (fun q h => by show o ≤ q; have := h.1; omega) (fun H locs hQ zH fH hS => ?_)
      have hR0 := hQ
      have hV1 := hR0
      have hk0 := bo_fr2 hWB (fun q hz hq => fH q hz (bl_ne hq (by omega)))
      have hk1 := gg_fr2 hWG (fun q hz hq => fH q hz (bl_ne hq (by omega)))
      have hk2 := md_fr2 hWM (fun q hz hq => fH q hz (bl_ne hq (by omega)))
      have hk4 := dz_fr2 hWQ (fun q hz hq => fH q hz (bl_ne hq (by omega)))
      have hk5 := tr_fr2 hWT (fun q hz hq => fH q hz (bl_ne hq (by omega)))
      have hk6 := hy_fr2 hWY (fun q hz hq => fH q hz (bl_ne hq (by omega)))
      refine lv_istore (lv' := [(5, .int (nI 2)), (0, .ref b), (1, .ref o), (2, .ref (o + 477)), (3, .ref (o + 483)), (4, .int (nI (4*j)))]) hx hb dL_law_839 hl (by decide) rfl (fun ls hl => ?_)
      refine lv_aload_n hx hb dL_law_841 rfl (lv_at hl 3 rfl) ?_
      refine lv_aload_n hx hb dL_law_842 rfl (lv_at hl 1 rfl) ?_
      refine lv_iload hx hb dL_law_843 (lv_at hl 5 rfl) ?_
      refine lv_iconst (v := nI 1) hx hb dL_law_845 (by decide) ?_
      refine n_iadd (n := 4*j + 1) hx hb dL_law_846 (by omega) ?_
      refine va_sld hx hb hX hbl hbA hS (vp_in_nI (by omega) (by omega)) dL_law_847 ?_
      refine k_top (y := nI u) (by rw [nI_clamp (by omega)]; exact eu) ?_
      refine k_VM (As := [.int (nI u)]) (rest := []) S hK (c_X7_claim_f2 l E (o + 477) z w u hI hu g9) gL_law_X7_claim rfl hd_X7_claim ⟨rfl, rfl⟩ ⟨Nat.le_of_ble_eq_true rfl, Nat.le_of_ble_eq_true rfl⟩ (k_recv hK hk2.1 rfl) hk2 rfl hl.1 rfl (Nat.le_of_ble_eq_true rfl) dL_law_848 ⟨by show _ ≤ 601024; omega, by show _ ≤ 7293034; omega⟩ hS (fun q h => by show o ≤ q; have := h.1; omega) (fun q h => by show o ≤ q; have := h.1; omega) (fun H locs hQ zH fH hS => ?_)
      have hP := hQ
      have hV2 := hP
      have hk0 := bo_fr2 hk0 (fun q hz hq => fH q hz (bl_ne hq (by omega)))
      have hk1 := gg_fr2 hk1 (fun q hz hq => fH q hz (bl_ne hq (by omega)))
      have hk3 := la_fr2 hV1 (fun q hz hq => fH q hz (bl_ne hq (by omega)))
      have hk4 := dz_fr2 hk4 (fun q hz hq => fH q hz (bl_ne hq (by omega)))
      have hk5 := tr_fr2 hk5 (fun q hz hq => fH q hz (bl_ne hq (by omega)))
      have hk6 := hy_fr2 hk6 (fun q hz hq => fH q hz (bl_ne hq (by omega)))
      refine lv_istore (lv' := [(6, .int (nI 0)), (5, .int (nI 2)), (0, .ref b), (1, .ref o), (2, .ref (o + 477)), (3, .ref (o + 483)), (4, .int (nI (4*j)))]) hx hb dL_law_851 hl (by decide) rfl (fun ls hl => ?_)
      refine lv_aload_n hx hb dL_law_853 rfl (lv_at hl 4 rfl) ?_
      refine k_V (As := []) (rest := []) S hK (c_X7_thrown l E (o + 477) z (w_th w (nI 2))) gL_law_X7_thrown rfl hd_X7_thrown ⟨rfl, rfl⟩ ⟨Nat.le_of_ble_eq_true rfl, Nat.le_of_ble_eq_true rfl⟩ (k_recv hK hV2.1 rfl) hV2 rfl hl.1 rfl (Nat.le_of_ble_eq_true rfl) dL_law_854 ⟨by show _ ≤ 601024; omega, by show _ ≤ 7293034; omega⟩ ?_
      refine k_top (y := nI 2) rfl ?_
      refine lv_iload hx hb dL_law_857 (lv_at hl 1 rfl) ?_
      refine n_ieq (tgt := 864) hx hb dL_law_859 (by decide) (by omega) (by omega) (fun c859 => ?_) (fun h => absurd h (by decide))
      refine lv_iload hx hb dL_law_864 (lv_at hl 1 rfl) ?_
      refine lv_if_ne (tgt := 881) hx hb dL_law_866 (by decide) (fun c866 => ?_) (fun h => absurd h (by decide))
      refine lv_goto (tgt := 1824) hx hb dL_law_881 (by decide) ?_
      refine W.widen (k := 484 + (j + 1)) (n := 5828 + 6*(j + 1)) (by omega) (by omega) ?_
      exact T z (w_th w (nI 2)) sn bn _ _ _ hPI (LI_mk hk1 hk4 hk5 hk6 hk0 hV2 hk3) hS (lv_sub hl [2, 3, 4, 5, 6] rfl)
  · refine lv_aload_n hx hb dL_law_828 rfl (lv_at hl 1 rfl) ?_
    refine lv_aload_n hx hb dL_law_829 rfl (lv_at hl 0 rfl) ?_
    refine lv_iload hx hb dL_law_830 (lv_at hl 4 rfl) ?_
    refine lv_iconst (v := nI 1) hx hb dL_law_832 (by decide) ?_
    refine n_iadd (n := 4*j + 1) hx hb dL_law_833 (by omega) ?_
    refine va_sld hx hb hX hbl hbA hS (vp_in_nI (by omega) (by omega)) dL_law_834 ?_
    refine k_top (y := xs (4*j + 1)) (by rw [nI_clamp (by omega)]) ?_
    refine lv_aload_n hx hb dL_law_835 rfl (lv_at hl 3 rfl) ?_
    refine l_SW (As := [.ref o, .int (xs (4*j + 1)), .ref (o + 483)]) (rest := []) S hK hX9 hXh (y_L_claim_1 l hlS E (nb o) o z (xs (4*j + 1)) (o + 483) x9 hI g1 (by omega)) gL_law_L_claim rfl hd_L_claim ⟨rfl, rfl⟩ ⟨Nat.le_of_ble_eq_true rfl, Nat.le_of_ble_eq_true rfl⟩ ⟨hWG, hWQ, hWO⟩ rfl hl.1 rfl (Nat.le_of_ble_eq_true rfl) dL_law_836 ⟨by show _ ≤ 601024; omega, by show _ ≤ 7293034; omega⟩ hS (fun q h => by show o ≤ q; have := h.1; omega) (fun q h => by show o ≤ q; have := h.1; omega) (fun H locs hQ zH fH hS => ?_)
    have hR0 := hQ
    have hV1 := hR0
    have hk0 := bo_fr2 hWB (fun q hz hq => fH q hz (bl_ne hq (by omega)))
    have hk1 := gg_fr2 hWG (fun q hz hq => fH q hz (bl_ne hq (by omega)))
    have hk2 := md_fr2 hWM (fun q hz hq => fH q hz (bl_ne hq (by omega)))
    have hk4 := dz_fr2 hWQ (fun q hz hq => fH q hz (bl_ne hq (by omega)))
    have hk5 := tr_fr2 hWT (fun q hz hq => fH q hz (bl_ne hq (by omega)))
    have hk6 := hy_fr2 hWY (fun q hz hq => fH q hz (bl_ne hq (by omega)))
    refine lv_istore (lv' := [(5, .int (nI 1)), (0, .ref b), (1, .ref o), (2, .ref (o + 477)), (3, .ref (o + 483)), (4, .int (nI (4*j)))]) hx hb dL_law_839 hl (by decide) rfl (fun ls hl => ?_)
    refine lv_aload_n hx hb dL_law_841 rfl (lv_at hl 3 rfl) ?_
    refine lv_aload_n hx hb dL_law_842 rfl (lv_at hl 1 rfl) ?_
    refine lv_iload hx hb dL_law_843 (lv_at hl 5 rfl) ?_
    refine lv_iconst (v := nI 1) hx hb dL_law_845 (by decide) ?_
    refine n_iadd (n := 4*j + 1) hx hb dL_law_846 (by omega) ?_
    refine va_sld hx hb hX hbl hbA hS (vp_in_nI (by omega) (by omega)) dL_law_847 ?_
    refine k_top (y := xs (4*j + 1)) (by rw [nI_clamp (by omega)]) ?_
    refine k_VM (As := [.int (xs (4*j + 1))]) (rest := []) S hK (c_X7_claim_f1 l E (o + 477) z w (xs (4*j + 1)) hI g1) gL_law_X7_claim rfl hd_X7_claim ⟨rfl, rfl⟩ ⟨Nat.le_of_ble_eq_true rfl, Nat.le_of_ble_eq_true rfl⟩ (k_recv hK hk2.1 rfl) hk2 rfl hl.1 rfl (Nat.le_of_ble_eq_true rfl) dL_law_848 ⟨by show _ ≤ 601024; omega, by show _ ≤ 7293034; omega⟩ hS (fun q h => by show o ≤ q; have := h.1; omega) (fun q h => by show o ≤ q; have := h.1; omega) (fun H locs hQ zH fH hS => ?_)
    have hP := hQ
    have hV2 := hP
    have hk0 := bo_fr2 hk0 (fun q hz hq => fH q hz (bl_ne hq (by omega)))
    have hk1 := gg_fr2 hk1 (fun q hz hq => fH q hz (bl_ne hq (by omega)))
    have hk3 := la_fr2 hV1 (fun q hz hq => fH q hz (bl_ne hq (by omega)))
    have hk4 := dz_fr2 hk4 (fun q hz hq => fH q hz (bl_ne hq (by omega)))
    have hk5 := tr_fr2 hk5 (fun q hz hq => fH q hz (bl_ne hq (by omega)))
    have hk6 := hy_fr2 hk6 (fun q hz hq => fH q hz (bl_ne hq (by omega)))
    refine lv_istore (lv' := [(6, .int (nI 0)), (5, .int (nI 1)), (0, .ref b), (1, .ref o), (2, .ref (o + 477)), (3, .ref (o + 483)), (4, .int (nI (4*j)))]) hx hb dL_law_851 hl (by decide) rfl (fun ls hl => ?_)
    refine lv_aload_n hx hb dL_law_853 rfl (lv_at hl 4 rfl) ?_
    refine k_V (As := []) (rest := []) S hK (c_X7_thrown l E (o + 477) z (w_th w (nI 1))) gL_law_X7_thrown rfl hd_X7_thrown ⟨rfl, rfl⟩ ⟨Nat.le_of_ble_eq_true rfl, Nat.le_of_ble_eq_true rfl⟩ (k_recv hK hV2.1 rfl) hV2 rfl hl.1 rfl (Nat.le_of_ble_eq_true rfl) dL_law_854 ⟨by show _ ≤ 601024; omega, by show _ ≤ 7293034; omega⟩ ?_
    refine k_top (y := nI 1) rfl ?_
    refine lv_iload hx hb dL_law_857 (lv_at hl 1 rfl) ?_
    refine n_ieq (tgt := 864) hx hb dL_law_859 (by decide) (by omega) (by omega) (fun c859 => ?_) (fun h => absurd h (by decide))
    refine lv_iload hx hb dL_law_864 (lv_at hl 1 rfl) ?_
    refine lv_if_ne (tgt := 881) hx hb dL_law_866 (by decide) (fun c866 => ?_) (fun h => absurd h (by decide))
    refine lv_goto (tgt := 1824) hx hb dL_law_881 (by decide) ?_
    refine W.widen (k := 484 + (j + 1)) (n := 5828 + 6*(j + 1)) (by omega) (by omega) ?_
    exact T z (w_th w (nI 1)) sn bn _ _ _ hPI (LI_mk hk1 hk4 hk5 hk6 hk0 hV2 hk3) hS (lv_sub hl [2, 3, 4, 5, 6] rfl)
set_option maxHeartbeats 4000000 in
set_option maxRecDepth 100000 in
theorem law_10 {p : Program} {l : Launch} {e : Env} {s : State} {m : MethodId} {below : List Frame} {meth : Method} {c : Code} {E : ke_E} {b o L j : Nat} {xs : Nat → Int32} {Q : State → Prop} (C : LC9 p l s m c E b o L xs) (hj : 4*j + 4 ≤ L) (T : LT9 p l e s m below meth c E b o j Q) : ∀ (z : Nat → Int32) (w : md_w) (sn bn : Nat) (H : Heap) (locs : List Loc) (ls : Array Slot), PI9 z w sn bn → LI9 E o z w sn bn H → va_S (nb o) s.heap H locs → lv_has ls 9 [(0, .ref b), (1, .ref o), (2, .ref (o + 477)), (3, .ref (o + 483)), (4, .int (nI (4*j)))] → W p l e room_1 s m #[.ref b] below meth c H locs (484 + j) (5828 + 6*j) Q (F0 m 884 ls []) := by
  intro z w sn bn H locs ls hPI hLI hS hl
  obtain ⟨S, hlS, hK, hX9, hXh, hX, hbo, hsz9, hL⟩ := C
  have hx := S.1
  have hb := S.2.1
  have hts := S.2.2.2.2
  obtain ⟨hs, hsn, hbm, hbn, hk9, hrows⟩ := id hPI
  have hI := hk9.1
  have hJ := hk9.2.1
  have hpw := hk9.2.2
  have hc20 := iv_c hI
  obtain ⟨hWG, hWQ, hWT, hWY, hWB, hWM, x9, hWO⟩ := hLI
  have hbl : b < s.heap.size := by omega
  have hbA : ¬ nb o b := by show ¬ o ≤ b; omega
  refine lv_aload_n hx hb dL_law_884 rfl (lv_at hl 1 rfl) ?_
  refine k_VM (As := []) (rest := []) S hK (c_X6_closePeriod l E o z sn (q_rows w) bn (q_buf w) hI hsn) gL_law_X6_closePeriod rfl hd_X6_closePeriod ⟨rfl, rfl⟩ ⟨Nat.le_of_ble_eq_true rfl, Nat.le_of_ble_eq_true rfl⟩ (k_recv hK hWG rfl) ⟨hWG, hWQ, hWT, hWY, hWB⟩ rfl hl.1 rfl (Nat.le_of_ble_eq_true rfl) dL_law_885 ⟨by show _ ≤ 601024; omega, by show _ ≤ 7293034; omega⟩ hS (fun q h => by show o ≤ q; have := h.1; omega) (fun q h => by show o ≤ q; have := h.1; omega) (fun H locs hQ zH fH hS => ?_)
  obtain ⟨hR0, hR1, hR2, hR3, hR4⟩ := hQ
  have hV1 := hR0
  have hV2 := hR1
  have hV3 := hR2
  have hV4 := hR3
  have hV5 := hR4
  have hk2 := md_fr2 hWM (fun q hz hq => fH q hz (bl_ne hq (by omega)))
  have hk3 := la_fr2 hWO (fun q hz hq => fH q hz (bl_ne hq (by omega)))
  refine lv_aload_n hx hb dL_law_888 rfl (lv_at hl 2 rfl) ?_
  refine k_VM (As := []) (rest := [.int (cloZ z).2]) S hK (c_X7_closePeriod l E (o + 477) z w sn hI hs hsn) gL_law_X7_closePeriod rfl hd_X7_closePeriod ⟨rfl, rfl⟩ ⟨Nat.le_of_ble_eq_true rfl, Nat.le_of_ble_eq_true rfl⟩ (k_recv hK hk2.1 rfl) hk2 rfl hl.1 rfl (Nat.le_of_ble_eq_true rfl) dL_law_889 ⟨by show _ ≤ 601024; omega, by show _ ≤ 7293034; omega⟩ hS (fun q h => by show o ≤ q; have := h.1; omega) (fun q h => by show o ≤ q; have := h.1; omega) (fun H locs hQ zH fH hS => ?_)
  have hP := hQ
  have hV6 := hP
  have hk0 := bo_fr2 hV5 (fun q hz hq => fH q hz (bl_ne hq (by omega)))
  have hk1 := gg_fr2 hV1 (fun q hz hq => fH q hz (bl_ne hq (by omega)))
  have hk3 := la_fr2 hk3 (fun q hz hq => fH q hz (bl_ne hq (by omega)))
  have hk4 := dz_fr2 hV2 (fun q hz hq => fH q hz (bl_ne hq (by omega)))
  have hk5 := tr_fr2 hV3 (fun q hz hq => fH q hz (bl_ne hq (by omega)))
  have hk6 := hy_fr2 hV4 (fun q hz hq => fH q hz (bl_ne hq (by omega)))
  refine lv_icmp_eq (tgt := 1824) hx hb dL_law_892 (by decide) (fun c892 => ?_) (fun h => absurd rfl h)
  refine W.widen (k := 484 + (j + 1)) (n := 5828 + 6*(j + 1)) (by omega) (by omega) ?_
  exact T (cloZ z).1 (svW z (w_th w (nI 0)) sn) (svN sn) bn _ _ _ (PI_sv hPI ⟨(clo_iv 20 (iv_clz hI)).1, kw_cl hI hk9.2⟩ rfl rfl hbm hbn) (LI_mk hk1 hk4 hk5 hk6 hk0 hV6 hk3) hS (lv_sub hl [0, 1, 2, 3, 4] rfl)
set_option maxHeartbeats 4000000 in
set_option maxRecDepth 100000 in
theorem law_11 {p : Program} {l : Launch} {e : Env} {s : State} {m : MethodId} {below : List Frame} {meth : Method} {c : Code} {E : ke_E} {b o L j : Nat} {xs : Nat → Int32} {Q : State → Prop} (C : LC9 p l s m c E b o L xs) (hj : 4*j + 4 ≤ L) (T : LT9 p l e s m below meth c E b o j Q) : ∀ (z : Nat → Int32) (w : md_w) (sn bn : Nat) (H : Heap) (locs : List Loc) (ls : Array Slot), PI9 z w sn bn → LI9 E o z w sn bn H → va_S (nb o) s.heap H locs → lv_has ls 9 [(0, .ref b), (1, .ref o), (2, .ref (o + 477)), (3, .ref (o + 483)), (4, .int (nI (4*j)))] → W p l e room_1 s m #[.ref b] below meth c H locs (484 + j) (5828 + 6*j) Q (F0 m 897 ls []) := by
  intro z w sn bn H locs ls hPI hLI hS hl
  obtain ⟨S, hlS, hK, hX9, hXh, hX, hbo, hsz9, hL⟩ := C
  have hx := S.1
  have hb := S.2.1
  have hts := S.2.2.2.2
  obtain ⟨hs, hsn, hbm, hbn, hk9, hrows⟩ := id hPI
  have hI := hk9.1
  have hJ := hk9.2.1
  have hpw := hk9.2.2
  have hc20 := iv_c hI
  obtain ⟨hWG, hWQ, hWT, hWY, hWB, hWM, x9, hWO⟩ := hLI
  have hbl : b < s.heap.size := by omega
  have hbA : ¬ nb o b := by show ¬ o ≤ b; omega
  by_cases g1 : nI 33 ≤ (xs (4*j + 1)) ∧ (xs (4*j + 1)) ≤ nI 126
  · by_cases g9 : bn = 60
    · refine lv_aload_n hx hb dL_law_897 rfl (lv_at hl 1 rfl) ?_
      refine lv_aload_n hx hb dL_law_898 rfl (lv_at hl 0 rfl) ?_
      refine lv_iload hx hb dL_law_899 (lv_at hl 4 rfl) ?_
      refine lv_iconst (v := nI 1) hx hb dL_law_901 (by decide) ?_
      refine n_iadd (n := 4*j + 1) hx hb dL_law_902 (by omega) ?_
      refine va_sld hx hb hX hbl hbA hS (vp_in_nI (by omega) (by omega)) dL_law_903 ?_
      refine k_top (y := xs (4*j + 1)) (by rw [nI_clamp (by omega)]) ?_
      refine lv_aload_n hx hb dL_law_904 rfl (lv_at hl 3 rfl) ?_
      refine l_SW (As := [.ref o, .int (xs (4*j + 1)), .ref (o + 483)]) (rest := []) S hK hX9 hXh (y_L_append_2 l hlS E (nb o) o z bn (q_buf w) (xs (4*j + 1)) (o + 483) x9 g1 g9 (by omega)) gL_law_L_append rfl hd_L_append ⟨rfl, rfl⟩ ⟨Nat.le_of_ble_eq_true rfl, Nat.le_of_ble_eq_true rfl⟩ ⟨hWG, hWB, hWO⟩ rfl hl.1 rfl (Nat.le_of_ble_eq_true rfl) dL_law_905 ⟨by show _ ≤ 601024; omega, by show _ ≤ 7293034; omega⟩ hS (fun q h => by show o ≤ q; have := h.1; omega) (fun q h => by show o ≤ q; have := h.1; omega) (fun H locs hQ zH fH hS => ?_)
      have hR0 := hQ
      have hV1 := hR0
      have hk0 := bo_fr2 hWB (fun q hz hq => fH q hz (bl_ne hq (by omega)))
      have hk1 := gg_fr2 hWG (fun q hz hq => fH q hz (bl_ne hq (by omega)))
      have hk2 := md_fr2 hWM (fun q hz hq => fH q hz (bl_ne hq (by omega)))
      have hk4 := dz_fr2 hWQ (fun q hz hq => fH q hz (bl_ne hq (by omega)))
      have hk5 := tr_fr2 hWT (fun q hz hq => fH q hz (bl_ne hq (by omega)))
      have hk6 := hy_fr2 hWY (fun q hz hq => fH q hz (bl_ne hq (by omega)))
      refine lv_istore (lv' := [(5, .int (nI 2)), (0, .ref b), (1, .ref o), (2, .ref (o + 477)), (3, .ref (o + 483)), (4, .int (nI (4*j)))]) hx hb dL_law_908 hl (by decide) rfl (fun ls hl => ?_)
      refine lv_aload_n hx hb dL_law_910 rfl (lv_at hl 3 rfl) ?_
      refine lv_aload_n hx hb dL_law_911 rfl (lv_at hl 1 rfl) ?_
      refine lv_iload hx hb dL_law_912 (lv_at hl 5 rfl) ?_
      refine lv_iconst (v := nI 1) hx hb dL_law_914 (by decide) ?_
      refine n_iadd (n := 4*j + 1) hx hb dL_law_915 (by omega) ?_
      refine va_sld hx hb hX hbl hbA hS (vp_in_nI (by omega) (by omega)) dL_law_916 ?_
      refine k_top (y := xs (4*j + 1)) (by rw [nI_clamp (by omega)]) ?_
      refine k_VM (As := [.int (xs (4*j + 1))]) (rest := []) S hK (c_X7_append_f2 l E (o + 477) z w (xs (4*j + 1)) g1 (by rw [hbm, g9])) gL_law_X7_append rfl hd_X7_append ⟨rfl, rfl⟩ ⟨Nat.le_of_ble_eq_true rfl, Nat.le_of_ble_eq_true rfl⟩ (k_recv hK hk2.1 rfl) hk2 rfl hl.1 rfl (Nat.le_of_ble_eq_true rfl) dL_law_917 ⟨by show _ ≤ 601024; omega, by show _ ≤ 7293034; omega⟩ hS (fun q h => by show o ≤ q; have := h.1; omega) (fun q h => by show o ≤ q; have := h.1; omega) (fun H locs hQ zH fH hS => ?_)
      have hP := hQ
      have hV2 := hP
      have hk0 := bo_fr2 hk0 (fun q hz hq => fH q hz (bl_ne hq (by omega)))
      have hk1 := gg_fr2 hk1 (fun q hz hq => fH q hz (bl_ne hq (by omega)))
      have hk3 := la_fr2 hV1 (fun q hz hq => fH q hz (bl_ne hq (by omega)))
      have hk4 := dz_fr2 hk4 (fun q hz hq => fH q hz (bl_ne hq (by omega)))
      have hk5 := tr_fr2 hk5 (fun q hz hq => fH q hz (bl_ne hq (by omega)))
      have hk6 := hy_fr2 hk6 (fun q hz hq => fH q hz (bl_ne hq (by omega)))
      refine lv_istore (lv' := [(6, .int (nI 0)), (5, .int (nI 2)), (0, .ref b), (1, .ref o), (2, .ref (o + 477)), (3, .ref (o + 483)), (4, .int (nI (4*j)))]) hx hb dL_law_920 hl (by decide) rfl (fun ls hl => ?_)
      refine lv_aload_n hx hb dL_law_922 rfl (lv_at hl 4 rfl) ?_
      refine k_V (As := []) (rest := []) S hK (c_X7_thrown l E (o + 477) z (w_th w (nI 2))) gL_law_X7_thrown rfl hd_X7_thrown ⟨rfl, rfl⟩ ⟨Nat.le_of_ble_eq_true rfl, Nat.le_of_ble_eq_true rfl⟩ (k_recv hK hV2.1 rfl) hV2 rfl hl.1 rfl (Nat.le_of_ble_eq_true rfl) dL_law_923 ⟨by show _ ≤ 601024; omega, by show _ ≤ 7293034; omega⟩ ?_
      refine k_top (y := nI 2) rfl ?_
      refine lv_iload hx hb dL_law_926 (lv_at hl 1 rfl) ?_
      refine n_ieq (tgt := 933) hx hb dL_law_928 (by decide) (by omega) (by omega) (fun c928 => ?_) (fun h => absurd h (by decide))
      refine lv_iload hx hb dL_law_933 (lv_at hl 1 rfl) ?_
      refine lv_if_ne (tgt := 950) hx hb dL_law_935 (by decide) (fun c935 => ?_) (fun h => absurd h (by decide))
      refine lv_goto (tgt := 1824) hx hb dL_law_950 (by decide) ?_
      refine W.widen (k := 484 + (j + 1)) (n := 5828 + 6*(j + 1)) (by omega) (by omega) ?_
      exact T z (w_th w (nI 2)) sn bn _ _ _ hPI (LI_mk hk1 hk4 hk5 hk6 hk0 hV2 hk3) hS (lv_sub hl [2, 3, 4, 5, 6] rfl)
    · refine lv_aload_n hx hb dL_law_897 rfl (lv_at hl 1 rfl) ?_
      refine lv_aload_n hx hb dL_law_898 rfl (lv_at hl 0 rfl) ?_
      refine lv_iload hx hb dL_law_899 (lv_at hl 4 rfl) ?_
      refine lv_iconst (v := nI 1) hx hb dL_law_901 (by decide) ?_
      refine n_iadd (n := 4*j + 1) hx hb dL_law_902 (by omega) ?_
      refine va_sld hx hb hX hbl hbA hS (vp_in_nI (by omega) (by omega)) dL_law_903 ?_
      refine k_top (y := xs (4*j + 1)) (by rw [nI_clamp (by omega)]) ?_
      refine lv_aload_n hx hb dL_law_904 rfl (lv_at hl 3 rfl) ?_
      refine l_SW (As := [.ref o, .int (xs (4*j + 1)), .ref (o + 483)]) (rest := []) S hK hX9 hXh (c_L_append l hlS E (nb o) o z sn (q_rows w) bn (q_buf w) (xs (4*j + 1)) (o + 483) x9 (by omega) g1 (by omega)) gL_law_L_append rfl hd_L_append ⟨rfl, rfl⟩ ⟨Nat.le_of_ble_eq_true rfl, Nat.le_of_ble_eq_true rfl⟩ ⟨hWG, hWQ, hWT, hWY, hWB, hWO⟩ rfl hl.1 rfl (Nat.le_of_ble_eq_true rfl) dL_law_905 ⟨by show _ ≤ 601024; omega, by show _ ≤ 7293034; omega⟩ hS (fun q h => h.elim (fun h => by show o ≤ q; have := h.1; omega) (fun h => by show o ≤ q; have := h.1; omega)) (fun q h => h.elim (fun h => by show o ≤ q; have := h.1; omega) (fun h => by show o ≤ q; have := h.1; omega)) (fun H locs hQ zH fH hS => ?_)
      obtain ⟨hR0, hR1, hR2, hR3, hR4, hR5⟩ := hQ
      have hV1 := hR0
      have hV2 := hR1
      have hV3 := hR2
      have hV4 := hR3
      have hV5 := hR4
      have hV6 := hR5
      have hk2 := md_fr2 hWM (fun q hz hq => fH q hz (ow_ne hq (by omega)))
      refine lv_istore (lv' := [(5, .int (nI 0)), (0, .ref b), (1, .ref o), (2, .ref (o + 477)), (3, .ref (o + 483)), (4, .int (nI (4*j)))]) hx hb dL_law_908 hl (by decide) rfl (fun ls hl => ?_)
      refine lv_aload_n hx hb dL_law_910 rfl (lv_at hl 3 rfl) ?_
      refine lv_aload_n hx hb dL_law_911 rfl (lv_at hl 1 rfl) ?_
      refine lv_iload hx hb dL_law_912 (lv_at hl 5 rfl) ?_
      refine lv_iconst (v := nI 1) hx hb dL_law_914 (by decide) ?_
      refine n_iadd (n := 4*j + 1) hx hb dL_law_915 (by omega) ?_
      refine va_sld hx hb hX hbl hbA hS (vp_in_nI (by omega) (by omega)) dL_law_916 ?_
      refine k_top (y := xs (4*j + 1)) (by rw [nI_clamp (by omega)]) ?_
      refine k_VM (As := [.int (xs (4*j + 1))]) (rest := []) S hK (c_X7_append l E (o + 477) z w (xs (4*j + 1)) bn g1 hbm (by omega)) gL_law_X7_append rfl hd_X7_append ⟨rfl, rfl⟩ ⟨Nat.le_of_ble_eq_true rfl, Nat.le_of_ble_eq_true rfl⟩ (k_recv hK hk2.1 rfl) hk2 rfl hl.1 rfl (Nat.le_of_ble_eq_true rfl) dL_law_917 ⟨by show _ ≤ 601024; omega, by show _ ≤ 7293034; omega⟩ hS (fun q h => by show o ≤ q; have := h.1; omega) (fun q h => by show o ≤ q; have := h.1; omega) (fun H locs hQ zH fH hS => ?_)
      have hP := hQ
      have hV7 := hP
      have hk0 := bo_fr2 hV5 (fun q hz hq => fH q hz (bl_ne hq (by omega)))
      have hk1 := gg_fr2 hV1 (fun q hz hq => fH q hz (bl_ne hq (by omega)))
      have hk3 := la_fr2 hV6 (fun q hz hq => fH q hz (bl_ne hq (by omega)))
      have hk4 := dz_fr2 hV2 (fun q hz hq => fH q hz (bl_ne hq (by omega)))
      have hk5 := tr_fr2 hV3 (fun q hz hq => fH q hz (bl_ne hq (by omega)))
      have hk6 := hy_fr2 hV4 (fun q hz hq => fH q hz (bl_ne hq (by omega)))
      refine lv_istore (lv' := [(6, .int (nI (bn + 1))), (5, .int (nI 0)), (0, .ref b), (1, .ref o), (2, .ref (o + 477)), (3, .ref (o + 483)), (4, .int (nI (4*j)))]) hx hb dL_law_920 hl (by decide) rfl (fun ls hl => ?_)
      refine lv_aload_n hx hb dL_law_922 rfl (lv_at hl 4 rfl) ?_
      refine k_V (As := []) (rest := []) S hK (c_X7_thrown l E (o + 477) z (w_bm (w_buf (w_th w (nI 0)) (upd (q_buf w) bn (xs (4*j + 1)))) (nI (bn + 1)))) gL_law_X7_thrown rfl hd_X7_thrown ⟨rfl, rfl⟩ ⟨Nat.le_of_ble_eq_true rfl, Nat.le_of_ble_eq_true rfl⟩ (k_recv hK hV7.1 rfl) hV7 rfl hl.1 rfl (Nat.le_of_ble_eq_true rfl) dL_law_923 ⟨by show _ ≤ 601024; omega, by show _ ≤ 7293034; omega⟩ ?_
      refine k_top (y := nI 0) rfl ?_
      refine lv_iload hx hb dL_law_926 (lv_at hl 1 rfl) ?_
      refine n_ieq (tgt := 933) hx hb dL_law_928 (by decide) (by omega) (by omega) (fun c928 => ?_) (fun h => absurd h (by decide))
      refine lv_iload hx hb dL_law_933 (lv_at hl 1 rfl) ?_
      refine lv_if_ne (tgt := 950) hx hb dL_law_935 (by decide) (fun h => absurd h (by decide)) (fun c935 => ?_)
      refine lv_aload_n hx hb dL_law_938 rfl (lv_at hl 5 rfl) ?_
      refine lv_iconst (v := nI 0) hx hb dL_law_939 (by decide) ?_
      refine l_lald hx hb hK hk3 dL_law_940 ?_
      refine lv_iload hx hb dL_law_941 (lv_at hl 0 rfl) ?_
      refine lv_i2l hx hb dL_law_943 rfl ?_
      refine l_lcmp hx hb dL_law_944 ?_
      refine lv_if_eq (tgt := 950) hx hb dL_law_945 (by decide) (fun c945 => ?_) (fun h => absurd h (by decide))
      refine lv_goto (tgt := 1824) hx hb dL_law_950 (by decide) ?_
      refine W.widen (k := 484 + (j + 1)) (n := 5828 + 6*(j + 1)) (by omega) (by omega) ?_
      exact T z (w_bm (w_buf (w_th w (nI 0)) (upd (q_buf w) bn (xs (4*j + 1)))) (nI (bn + 1))) sn (bn + 1) _ _ _ ⟨hs, hsn, rfl, by omega, hk9, hrows⟩ (LI_mk hk1 hk4 hk5 hk6 hk0 hV7 hk3) hS (lv_sub hl [2, 3, 4, 5, 6] rfl)
  · refine lv_aload_n hx hb dL_law_897 rfl (lv_at hl 1 rfl) ?_
    refine lv_aload_n hx hb dL_law_898 rfl (lv_at hl 0 rfl) ?_
    refine lv_iload hx hb dL_law_899 (lv_at hl 4 rfl) ?_
    refine lv_iconst (v := nI 1) hx hb dL_law_901 (by decide) ?_
    refine n_iadd (n := 4*j + 1) hx hb dL_law_902 (by omega) ?_
    refine va_sld hx hb hX hbl hbA hS (vp_in_nI (by omega) (by omega)) dL_law_903 ?_
    refine k_top (y := xs (4*j + 1)) (by rw [nI_clamp (by omega)]) ?_
    refine lv_aload_n hx hb dL_law_904 rfl (lv_at hl 3 rfl) ?_
    refine l_SW (As := [.ref o, .int (xs (4*j + 1)), .ref (o + 483)]) (rest := []) S hK hX9 hXh (y_L_append_1 l hlS E (nb o) o z bn (q_buf w) (xs (4*j + 1)) (o + 483) x9 g1 (by omega)) gL_law_L_append rfl hd_L_append ⟨rfl, rfl⟩ ⟨Nat.le_of_ble_eq_true rfl, Nat.le_of_ble_eq_true rfl⟩ ⟨hWG, hWB, hWO⟩ rfl hl.1 rfl (Nat.le_of_ble_eq_true rfl) dL_law_905 ⟨by show _ ≤ 601024; omega, by show _ ≤ 7293034; omega⟩ hS (fun q h => by show o ≤ q; have := h.1; omega) (fun q h => by show o ≤ q; have := h.1; omega) (fun H locs hQ zH fH hS => ?_)
    have hR0 := hQ
    have hV1 := hR0
    have hk0 := bo_fr2 hWB (fun q hz hq => fH q hz (bl_ne hq (by omega)))
    have hk1 := gg_fr2 hWG (fun q hz hq => fH q hz (bl_ne hq (by omega)))
    have hk2 := md_fr2 hWM (fun q hz hq => fH q hz (bl_ne hq (by omega)))
    have hk4 := dz_fr2 hWQ (fun q hz hq => fH q hz (bl_ne hq (by omega)))
    have hk5 := tr_fr2 hWT (fun q hz hq => fH q hz (bl_ne hq (by omega)))
    have hk6 := hy_fr2 hWY (fun q hz hq => fH q hz (bl_ne hq (by omega)))
    refine lv_istore (lv' := [(5, .int (nI 1)), (0, .ref b), (1, .ref o), (2, .ref (o + 477)), (3, .ref (o + 483)), (4, .int (nI (4*j)))]) hx hb dL_law_908 hl (by decide) rfl (fun ls hl => ?_)
    refine lv_aload_n hx hb dL_law_910 rfl (lv_at hl 3 rfl) ?_
    refine lv_aload_n hx hb dL_law_911 rfl (lv_at hl 1 rfl) ?_
    refine lv_iload hx hb dL_law_912 (lv_at hl 5 rfl) ?_
    refine lv_iconst (v := nI 1) hx hb dL_law_914 (by decide) ?_
    refine n_iadd (n := 4*j + 1) hx hb dL_law_915 (by omega) ?_
    refine va_sld hx hb hX hbl hbA hS (vp_in_nI (by omega) (by omega)) dL_law_916 ?_
    refine k_top (y := xs (4*j + 1)) (by rw [nI_clamp (by omega)]) ?_
    refine k_VM (As := [.int (xs (4*j + 1))]) (rest := []) S hK (c_X7_append_f1 l E (o + 477) z w (xs (4*j + 1)) g1) gL_law_X7_append rfl hd_X7_append ⟨rfl, rfl⟩ ⟨Nat.le_of_ble_eq_true rfl, Nat.le_of_ble_eq_true rfl⟩ (k_recv hK hk2.1 rfl) hk2 rfl hl.1 rfl (Nat.le_of_ble_eq_true rfl) dL_law_917 ⟨by show _ ≤ 601024; omega, by show _ ≤ 7293034; omega⟩ hS (fun q h => by show o ≤ q; have := h.1; omega) (fun q h => by show o ≤ q; have := h.1; omega) (fun H locs hQ zH fH hS => ?_)
    have hP := hQ
    have hV2 := hP
    have hk0 := bo_fr2 hk0 (fun q hz hq => fH q hz (bl_ne hq (by omega)))
    have hk1 := gg_fr2 hk1 (fun q hz hq => fH q hz (bl_ne hq (by omega)))
    have hk3 := la_fr2 hV1 (fun q hz hq => fH q hz (bl_ne hq (by omega)))
    have hk4 := dz_fr2 hk4 (fun q hz hq => fH q hz (bl_ne hq (by omega)))
    have hk5 := tr_fr2 hk5 (fun q hz hq => fH q hz (bl_ne hq (by omega)))
    have hk6 := hy_fr2 hk6 (fun q hz hq => fH q hz (bl_ne hq (by omega)))
    refine lv_istore (lv' := [(6, .int (nI 0)), (5, .int (nI 1)), (0, .ref b), (1, .ref o), (2, .ref (o + 477)), (3, .ref (o + 483)), (4, .int (nI (4*j)))]) hx hb dL_law_920 hl (by decide) rfl (fun ls hl => ?_)
    refine lv_aload_n hx hb dL_law_922 rfl (lv_at hl 4 rfl) ?_
    refine k_V (As := []) (rest := []) S hK (c_X7_thrown l E (o + 477) z (w_th w (nI 1))) gL_law_X7_thrown rfl hd_X7_thrown ⟨rfl, rfl⟩ ⟨Nat.le_of_ble_eq_true rfl, Nat.le_of_ble_eq_true rfl⟩ (k_recv hK hV2.1 rfl) hV2 rfl hl.1 rfl (Nat.le_of_ble_eq_true rfl) dL_law_923 ⟨by show _ ≤ 601024; omega, by show _ ≤ 7293034; omega⟩ ?_
    refine k_top (y := nI 1) rfl ?_
    refine lv_iload hx hb dL_law_926 (lv_at hl 1 rfl) ?_
    refine n_ieq (tgt := 933) hx hb dL_law_928 (by decide) (by omega) (by omega) (fun c928 => ?_) (fun h => absurd h (by decide))
    refine lv_iload hx hb dL_law_933 (lv_at hl 1 rfl) ?_
    refine lv_if_ne (tgt := 950) hx hb dL_law_935 (by decide) (fun c935 => ?_) (fun h => absurd h (by decide))
    refine lv_goto (tgt := 1824) hx hb dL_law_950 (by decide) ?_
    refine W.widen (k := 484 + (j + 1)) (n := 5828 + 6*(j + 1)) (by omega) (by omega) ?_
    exact T z (w_th w (nI 1)) sn bn _ _ _ hPI (LI_mk hk1 hk4 hk5 hk6 hk0 hV2 hk3) hS (lv_sub hl [2, 3, 4, 5, 6] rfl)
set_option maxHeartbeats 4000000 in
set_option maxRecDepth 100000 in
theorem law_12 {p : Program} {l : Launch} {e : Env} {s : State} {m : MethodId} {below : List Frame} {meth : Method} {c : Code} {E : ke_E} {b o L j : Nat} {xs : Nat → Int32} {Q : State → Prop} (C : LC9 p l s m c E b o L xs) (hj : 4*j + 4 ≤ L) (T : LT9 p l e s m below meth c E b o j Q) : ∀ (z : Nat → Int32) (w : md_w) (sn bn : Nat) (H : Heap) (locs : List Loc) (ls : Array Slot), PI9 z w sn bn → LI9 E o z w sn bn H → va_S (nb o) s.heap H locs → lv_has ls 9 [(0, .ref b), (1, .ref o), (2, .ref (o + 477)), (3, .ref (o + 483)), (4, .int (nI (4*j)))] → W p l e room_1 s m #[.ref b] below meth c H locs (484 + j) (5828 + 6*j) Q (F0 m 953 ls []) := by
  intro z w sn bn H locs ls hPI hLI hS hl
  obtain ⟨S, hlS, hK, hX9, hXh, hX, hbo, hsz9, hL⟩ := C
  have hx := S.1
  have hb := S.2.1
  have hts := S.2.2.2.2
  obtain ⟨hs, hsn, hbm, hbn, hk9, hrows⟩ := id hPI
  have hI := hk9.1
  have hJ := hk9.2.1
  have hpw := hk9.2.2
  have hc20 := iv_c hI
  obtain ⟨hWG, hWQ, hWT, hWY, hWB, hWM, x9, hWO⟩ := hLI
  have hbl : b < s.heap.size := by omega
  have hbA : ¬ nb o b := by show ¬ o ≤ b; omega
  refine lv_aload_n hx hb dL_law_953 rfl (lv_at hl 1 rfl) ?_
  refine k_VM (As := []) (rest := []) S hK (c_X6_clearBuffer l E o z sn (q_rows w) bn (q_buf w)) gL_law_X6_clearBuffer rfl hd_X6_clearBuffer ⟨rfl, rfl⟩ ⟨Nat.le_of_ble_eq_true rfl, Nat.le_of_ble_eq_true rfl⟩ (k_recv hK hWG rfl) ⟨hWG, hWQ, hWT, hWY, hWB⟩ rfl hl.1 rfl (Nat.le_of_ble_eq_true rfl) dL_law_954 ⟨by show _ ≤ 601024; omega, by show _ ≤ 7293034; omega⟩ hS (fun q h => by show o ≤ q; have := h.1; omega) (fun q h => by show o ≤ q; have := h.1; omega) (fun H locs hQ zH fH hS => ?_)
  obtain ⟨hR0, hR1, hR2, hR3, hR4⟩ := hQ
  have hV1 := hR0
  have hV2 := hR1
  have hV3 := hR2
  have hV4 := hR3
  have hV5 := hR4
  have hk2 := md_fr2 hWM (fun q hz hq => fH q hz (bl_ne hq (by omega)))
  have hk3 := la_fr2 hWO (fun q hz hq => fH q hz (bl_ne hq (by omega)))
  refine lv_aload_n hx hb dL_law_957 rfl (lv_at hl 2 rfl) ?_
  refine k_VM (As := []) (rest := [.int (nI bn)]) S hK (c_X7_clearBuffer l E (o + 477) z w) gL_law_X7_clearBuffer rfl hd_X7_clearBuffer ⟨rfl, rfl⟩ ⟨Nat.le_of_ble_eq_true rfl, Nat.le_of_ble_eq_true rfl⟩ (k_recv hK hk2.1 rfl) hk2 rfl hl.1 rfl (Nat.le_of_ble_eq_true rfl) dL_law_958 ⟨by show _ ≤ 601024; omega, by show _ ≤ 7293034; omega⟩ hS (fun q h => by show o ≤ q; have := h.1; omega) (fun q h => by show o ≤ q; have := h.1; omega) (fun H locs hQ zH fH hS => ?_)
  have hP := hQ
  have hV6 := hP
  have hk0 := bo_fr2 hV5 (fun q hz hq => fH q hz (bl_ne hq (by omega)))
  have hk1 := gg_fr2 hV1 (fun q hz hq => fH q hz (bl_ne hq (by omega)))
  have hk3 := la_fr2 hk3 (fun q hz hq => fH q hz (bl_ne hq (by omega)))
  have hk4 := dz_fr2 hV2 (fun q hz hq => fH q hz (bl_ne hq (by omega)))
  have hk5 := tr_fr2 hV3 (fun q hz hq => fH q hz (bl_ne hq (by omega)))
  have hk6 := hy_fr2 hV4 (fun q hz hq => fH q hz (bl_ne hq (by omega)))
  refine k_top (y := nI bn) (hbm) ?_
  refine n_ieq (tgt := 1824) hx hb dL_law_961 (by decide) (by omega) (by omega) (fun c961 => ?_) (fun h => absurd h (by omega))
  refine W.widen (k := 484 + (j + 1)) (n := 5828 + 6*(j + 1)) (by omega) (by omega) ?_
  exact T z (w_bm (w_th w (nI 0)) (nI 0)) sn 0 _ _ _ ⟨hs, hsn, rfl, by omega, hk9, hrows⟩ (LI_mk hk1 hk4 hk5 hk6 hk0 hV6 hk3) hS (lv_sub hl [0, 1, 2, 3, 4] rfl)
set_option maxHeartbeats 4000000 in
set_option maxRecDepth 100000 in
theorem law_13 {p : Program} {l : Launch} {e : Env} {s : State} {m : MethodId} {below : List Frame} {meth : Method} {c : Code} {E : ke_E} {b o L j : Nat} {xs : Nat → Int32} {Q : State → Prop} (C : LC9 p l s m c E b o L xs) (hj : 4*j + 4 ≤ L) (T : LT9 p l e s m below meth c E b o j Q) : ∀ (z : Nat → Int32) (w : md_w) (sn bn : Nat) (H : Heap) (locs : List Loc) (ls : Array Slot), PI9 z w sn bn → LI9 E o z w sn bn H → va_S (nb o) s.heap H locs → lv_has ls 9 [(0, .ref b), (1, .ref o), (2, .ref (o + 477)), (3, .ref (o + 483)), (4, .int (nI (4*j)))] → W p l e room_1 s m #[.ref b] below meth c H locs (484 + j) (5828 + 6*j) Q (F0 m 966 ls []) := by
  intro z w sn bn H locs ls hPI hLI hS hl
  obtain ⟨S, hlS, hK, hX9, hXh, hX, hbo, hsz9, hL⟩ := C
  have hx := S.1
  have hb := S.2.1
  have hts := S.2.2.2.2
  obtain ⟨hs, hsn, hbm, hbn, hk9, hrows⟩ := id hPI
  have hI := hk9.1
  have hJ := hk9.2.1
  have hpw := hk9.2.2
  have hc20 := iv_c hI
  obtain ⟨hWG, hWQ, hWT, hWY, hWB, hWM, x9, hWO⟩ := hLI
  have hbl : b < s.heap.size := by omega
  have hbA : ¬ nb o b := by show ¬ o ≤ b; omega
  refine lv_aload_n hx hb dL_law_966 rfl (lv_at hl 1 rfl) ?_
  refine k_V (As := []) (rest := []) S hK (c_X6_firstError l E o bn (q_buf w)) gL_law_X6_firstError rfl hd_X6_firstError ⟨rfl, rfl⟩ ⟨Nat.le_of_ble_eq_true rfl, Nat.le_of_ble_eq_true rfl⟩ (k_recv hK hWG rfl) ⟨hWG, hWB⟩ rfl hl.1 rfl (Nat.le_of_ble_eq_true rfl) dL_law_967 ⟨by show _ ≤ 601024; omega, by show _ ≤ 7293034; omega⟩ ?_
  refine lv_aload_n hx hb dL_law_970 rfl (lv_at hl 2 rfl) ?_
  refine k_VM (As := []) (rest := [.int (iF (auE (au (q_buf w) bn) = -1) (nI bn) (auE (au (q_buf w) bn)))]) S hK (c_X7_firstError l E (o + 477) z w (q_buf w) bn rfl hbm hbn) gL_law_X7_firstError rfl hd_X7_firstError ⟨rfl, rfl⟩ ⟨Nat.le_of_ble_eq_true rfl, Nat.le_of_ble_eq_true rfl⟩ (k_recv hK hWM.1 rfl) hWM rfl hl.1 rfl (Nat.le_of_ble_eq_true rfl) dL_law_971 ⟨by show _ ≤ 601024; omega, by show _ ≤ 7293034; omega⟩ hS (fun q h => by show o ≤ q; have := h.1; omega) (fun q h => by show o ≤ q; have := h.1; omega) (fun H locs hQ zH fH hS => ?_)
  have hP := hQ
  have hV1 := hP
  have hk0 := bo_fr2 hWB (fun q hz hq => fH q hz (bl_ne hq (by omega)))
  have hk1 := gg_fr2 hWG (fun q hz hq => fH q hz (bl_ne hq (by omega)))
  have hk3 := la_fr2 hWO (fun q hz hq => fH q hz (bl_ne hq (by omega)))
  have hk4 := dz_fr2 hWQ (fun q hz hq => fH q hz (bl_ne hq (by omega)))
  have hk5 := tr_fr2 hWT (fun q hz hq => fH q hz (bl_ne hq (by omega)))
  have hk6 := hy_fr2 hWY (fun q hz hq => fH q hz (bl_ne hq (by omega)))
  refine k_top (y := iF (auE (au (q_buf w) bn) = -1) (nI bn) (auE (au (q_buf w) bn))) (fe_eq hbn) ?_
  refine lv_icmp_eq (tgt := 1824) hx hb dL_law_974 (by decide) (fun c974 => ?_) (fun h => absurd rfl h)
  refine W.widen (k := 484 + (j + 1)) (n := 5828 + 6*(j + 1)) (by omega) (by omega) ?_
  exact T z (w_td (w_pl (w_th (w_rd w (arT (q_buf w) bn (q_rd w) (arK (q_buf w) bn (q_rd w))).2.2) (nI 0)) (nI (arT (q_buf w) bn (q_rd w) (arK (q_buf w) bn (q_rd w))).1)) (nI ((arK (q_buf w) bn (q_rd w)) + 1))) sn bn _ _ _ hPI (LI_mk hk1 hk4 hk5 hk6 hk0 hV1 hk3) hS (lv_sub hl [0, 1, 2, 3, 4] rfl)
set_option maxHeartbeats 4000000 in
set_option maxRecDepth 100000 in
theorem law_14 {p : Program} {l : Launch} {e : Env} {s : State} {m : MethodId} {below : List Frame} {meth : Method} {c : Code} {E : ke_E} {b o L j : Nat} {xs : Nat → Int32} {Q : State → Prop} (C : LC9 p l s m c E b o L xs) (hj : 4*j + 4 ≤ L) (T : LT9 p l e s m below meth c E b o j Q) : ∀ (z : Nat → Int32) (w : md_w) (sn bn : Nat) (H : Heap) (locs : List Loc) (ls : Array Slot), PI9 z w sn bn → LI9 E o z w sn bn H → va_S (nb o) s.heap H locs → lv_has ls 9 [(0, .ref b), (1, .ref o), (2, .ref (o + 477)), (3, .ref (o + 483)), (4, .int (nI (4*j)))] → W p l e room_1 s m #[.ref b] below meth c H locs (484 + j) (5828 + 6*j) Q (F0 m 979 ls []) := by
  intro z w sn bn H locs ls hPI hLI hS hl
  obtain ⟨S, hlS, hK, hX9, hXh, hX, hbo, hsz9, hL⟩ := C
  have hx := S.1
  have hb := S.2.1
  have hts := S.2.2.2.2
  obtain ⟨hs, hsn, hbm, hbn, hk9, hrows⟩ := id hPI
  have hI := hk9.1
  have hJ := hk9.2.1
  have hpw := hk9.2.2
  have hc20 := iv_c hI
  obtain ⟨hWG, hWQ, hWT, hWY, hWB, hWM, x9, hWO⟩ := hLI
  have hbl : b < s.heap.size := by omega
  have hbA : ¬ nb o b := by show ¬ o ≤ b; omega
  by_cases g9 : arG (q_buf w) bn (q_rd w)
  · by_cases g8 : 20 < cn z + arK (q_buf w) bn (q_rd w) + 1
    · refine lv_aload_n hx hb dL_law_979 rfl (lv_at hl 1 rfl) ?_
      refine lv_aload_n hx hb dL_law_980 rfl (lv_at hl 3 rfl) ?_
      refine l_SW (As := [.ref o, .ref (o + 483)]) (rest := []) S hK hX9 hXh (y_L_receiveAll_2 l hlS E (nb o) o z bn (q_buf w) (o + 483) x9 hI ((cp_iff hbn).mpr g9) hbn (by rw [sC_all hbn g9]; exact g8) (by omega)) gL_law_L_receiveAll rfl hd_L_receiveAll ⟨rfl, rfl⟩ ⟨Nat.le_of_ble_eq_true rfl, Nat.le_of_ble_eq_true rfl⟩ ⟨hWG, hWQ, hWB, hWO⟩ rfl hl.1 rfl (Nat.le_of_ble_eq_true rfl) dL_law_981 ⟨by show _ ≤ 601024; omega, by show _ ≤ 7293034; omega⟩ hS (fun q h => by show o ≤ q; have := h.1; omega) (fun q h => by show o ≤ q; have := h.1; omega) (fun H locs hQ zH fH hS => ?_)
      have hR0 := hQ
      have hV1 := hR0
      have hk0 := bo_fr2 hWB (fun q hz hq => fH q hz (bl_ne hq (by omega)))
      have hk1 := gg_fr2 hWG (fun q hz hq => fH q hz (bl_ne hq (by omega)))
      have hk2 := md_fr2 hWM (fun q hz hq => fH q hz (bl_ne hq (by omega)))
      have hk4 := dz_fr2 hWQ (fun q hz hq => fH q hz (bl_ne hq (by omega)))
      have hk5 := tr_fr2 hWT (fun q hz hq => fH q hz (bl_ne hq (by omega)))
      have hk6 := hy_fr2 hWY (fun q hz hq => fH q hz (bl_ne hq (by omega)))
      refine lv_istore (lv' := [(5, .int (nI 2)), (0, .ref b), (1, .ref o), (2, .ref (o + 477)), (3, .ref (o + 483)), (4, .int (nI (4*j)))]) hx hb dL_law_984 hl (by decide) rfl (fun ls hl => ?_)
      refine lv_aload_n hx hb dL_law_986 rfl (lv_at hl 3 rfl) ?_
      refine k_VM (As := []) (rest := []) S hK (c_X7_receiveAll_f2 l E (o + 477) z w (q_buf w) bn hI rfl hbm hbn g9 g8) gL_law_X7_receiveAll rfl hd_X7_receiveAll ⟨rfl, rfl⟩ ⟨Nat.le_of_ble_eq_true rfl, Nat.le_of_ble_eq_true rfl⟩ (k_recv hK hk2.1 rfl) hk2 rfl hl.1 rfl (Nat.le_of_ble_eq_true rfl) dL_law_987 ⟨by show _ ≤ 601024; omega, by show _ ≤ 7293034; omega⟩ hS (fun q h => by show o ≤ q; have := h.1; omega) (fun q h => by show o ≤ q; have := h.1; omega) (fun H locs hQ zH fH hS => ?_)
      have hP := hQ
      have hV2 := hP
      have hk0 := bo_fr2 hk0 (fun q hz hq => fH q hz (bl_ne hq (by omega)))
      have hk1 := gg_fr2 hk1 (fun q hz hq => fH q hz (bl_ne hq (by omega)))
      have hk3 := la_fr2 hV1 (fun q hz hq => fH q hz (bl_ne hq (by omega)))
      have hk4 := dz_fr2 hk4 (fun q hz hq => fH q hz (bl_ne hq (by omega)))
      have hk5 := tr_fr2 hk5 (fun q hz hq => fH q hz (bl_ne hq (by omega)))
      have hk6 := hy_fr2 hk6 (fun q hz hq => fH q hz (bl_ne hq (by omega)))
      refine lv_istore (lv' := [(6, .int (nI 0)), (5, .int (nI 2)), (0, .ref b), (1, .ref o), (2, .ref (o + 477)), (3, .ref (o + 483)), (4, .int (nI (4*j)))]) hx hb dL_law_990 hl (by decide) rfl (fun ls hl => ?_)
      refine lv_aload_n hx hb dL_law_992 rfl (lv_at hl 4 rfl) ?_
      refine k_V (As := []) (rest := []) S hK (c_X7_thrown l E (o + 477) z (w_td (w_pl (w_th (w_rd w (arT (q_buf w) bn (q_rd w) (arK (q_buf w) bn (q_rd w))).2.2) (nI 2)) (nI (arT (q_buf w) bn (q_rd w) (arK (q_buf w) bn (q_rd w))).1)) (nI ((arK (q_buf w) bn (q_rd w)) + 1)))) gL_law_X7_thrown rfl hd_X7_thrown ⟨rfl, rfl⟩ ⟨Nat.le_of_ble_eq_true rfl, Nat.le_of_ble_eq_true rfl⟩ (k_recv hK hV2.1 rfl) hV2 rfl hl.1 rfl (Nat.le_of_ble_eq_true rfl) dL_law_993 ⟨by show _ ≤ 601024; omega, by show _ ≤ 7293034; omega⟩ ?_
      refine k_top (y := nI 2) rfl ?_
      refine lv_iload hx hb dL_law_996 (lv_at hl 1 rfl) ?_
      refine n_ieq (tgt := 1003) hx hb dL_law_998 (by decide) (by omega) (by omega) (fun c998 => ?_) (fun h => absurd h (by decide))
      refine lv_iload hx hb dL_law_1003 (lv_at hl 1 rfl) ?_
      refine lv_if_ne (tgt := 1020) hx hb dL_law_1005 (by decide) (fun c1005 => ?_) (fun h => absurd h (by decide))
      refine lv_goto (tgt := 1824) hx hb dL_law_1020 (by decide) ?_
      refine W.widen (k := 484 + (j + 1)) (n := 5828 + 6*(j + 1)) (by omega) (by omega) ?_
      exact T z (w_td (w_pl (w_th (w_rd w (arT (q_buf w) bn (q_rd w) (arK (q_buf w) bn (q_rd w))).2.2) (nI 2)) (nI (arT (q_buf w) bn (q_rd w) (arK (q_buf w) bn (q_rd w))).1)) (nI ((arK (q_buf w) bn (q_rd w)) + 1))) sn bn _ _ _ hPI (LI_mk hk1 hk4 hk5 hk6 hk0 hV2 hk3) hS (lv_sub hl [2, 3, 4, 5, 6] rfl)
    · obtain ⟨ee, hee, hE⟩ := cp_ex hbn g9
      obtain ⟨p1, p2, p3⟩ := pu_all (z := z) hbn g9 (by omega)
      refine lv_aload_n hx hb dL_law_979 rfl (lv_at hl 1 rfl) ?_
      refine lv_aload_n hx hb dL_law_980 rfl (lv_at hl 3 rfl) ?_
      refine l_SW (As := [.ref o, .ref (o + 483)]) (rest := []) S hK hX9 hXh (c_L_receiveAll l hlS E (nb o) o z sn (q_rows w) bn (q_buf w) ee (o + 483) x9 hI hsn hee hE (by omega) (by omega) hbn (by omega)) gL_law_L_receiveAll rfl hd_L_receiveAll ⟨rfl, rfl⟩ ⟨Nat.le_of_ble_eq_true rfl, Nat.le_of_ble_eq_true rfl⟩ ⟨hWG, hWQ, hWT, hWY, hWB, hWO⟩ rfl hl.1 rfl (Nat.le_of_ble_eq_true rfl) dL_law_981 ⟨by show _ ≤ 601024; omega, by show _ ≤ 7293034; omega⟩ hS (fun q h => h.elim (fun h => by show o ≤ q; have := h.1; omega) (fun h => by show o ≤ q; have := h.1; omega)) (fun q h => h.elim (fun h => by show o ≤ q; have := h.1; omega) (fun h => by show o ≤ q; have := h.1; omega)) (fun H locs hQ zH fH hS => ?_)
      obtain ⟨hR0, hR1, hR2, hR3, hR4, hR5⟩ := hQ
      have hV1 := hR0
      have hV2 := hR1
      have hV3 := hR2
      have hV4 := hR3
      have hV5 := hR4
      have hV6 := hR5
      have hk2 := md_fr2 hWM (fun q hz hq => fH q hz (ow_ne hq (by omega)))
      refine lv_istore (lv' := [(5, .int (nI 0)), (0, .ref b), (1, .ref o), (2, .ref (o + 477)), (3, .ref (o + 483)), (4, .int (nI (4*j)))]) hx hb dL_law_984 hl (by decide) rfl (fun ls hl => ?_)
      refine lv_aload_n hx hb dL_law_986 rfl (lv_at hl 3 rfl) ?_
      refine k_VM (As := []) (rest := []) S hK (c_X7_receiveAll l E (o + 477) z w (q_buf w) bn sn hI rfl hbm hbn g9 (by omega) hs hsn) gL_law_X7_receiveAll rfl hd_X7_receiveAll ⟨rfl, rfl⟩ ⟨Nat.le_of_ble_eq_true rfl, Nat.le_of_ble_eq_true rfl⟩ (k_recv hK hk2.1 rfl) hk2 rfl hl.1 rfl (Nat.le_of_ble_eq_true rfl) dL_law_987 ⟨by show _ ≤ 601024; omega, by show _ ≤ 7293034; omega⟩ hS (fun q h => by show o ≤ q; have := h.1; omega) (fun q h => by show o ≤ q; have := h.1; omega) (fun H locs hQ zH fH hS => ?_)
      have hP := hQ
      have hV7 := hP
      have hk0 := bo_fr2 hV5 (fun q hz hq => fH q hz (bl_ne hq (by omega)))
      have hk1 := gg_fr2 hV1 (fun q hz hq => fH q hz (bl_ne hq (by omega)))
      have hk3 := la_fr2 hV6 (fun q hz hq => fH q hz (bl_ne hq (by omega)))
      have hk4 := dz_fr2 hV2 (fun q hz hq => fH q hz (bl_ne hq (by omega)))
      have hk5 := tr_fr2 hV3 (fun q hz hq => fH q hz (bl_ne hq (by omega)))
      have hk6 := hy_fr2 hV4 (fun q hz hq => fH q hz (bl_ne hq (by omega)))
      refine k_top (y := nI (cn (pu (q_buf w) z bn).1)) (by rw [p1, cn_raZ _ (by omega)]; congr 1; omega) ?_
      refine lv_istore (lv' := [(6, .int (nI (cn (pu (q_buf w) z bn).1))), (5, .int (nI 0)), (0, .ref b), (1, .ref o), (2, .ref (o + 477)), (3, .ref (o + 483)), (4, .int (nI (4*j)))]) hx hb dL_law_990 hl (by decide) rfl (fun ls hl => ?_)
      refine lv_aload_n hx hb dL_law_992 rfl (lv_at hl 4 rfl) ?_
      refine k_V (As := []) (rest := []) S hK (c_X7_thrown l E (o + 477) (raZ (q_buf w) bn (q_rd w) z ((arK (q_buf w) bn (q_rd w)) + 1)) (w_bm (svW z (w_td (w_pl (w_th (w_rd w (arT (q_buf w) bn (q_rd w) (arK (q_buf w) bn (q_rd w))).2.2) (nI 0)) (nI (arT (q_buf w) bn (q_rd w) (arK (q_buf w) bn (q_rd w))).1)) (nI ((arK (q_buf w) bn (q_rd w)) + 1))) sn) (nI 0))) gL_law_X7_thrown rfl hd_X7_thrown ⟨rfl, rfl⟩ ⟨Nat.le_of_ble_eq_true rfl, Nat.le_of_ble_eq_true rfl⟩ (k_recv hK hV7.1 rfl) hV7 rfl hl.1 rfl (Nat.le_of_ble_eq_true rfl) dL_law_993 ⟨by show _ ≤ 601024; omega, by show _ ≤ 7293034; omega⟩ ?_
      refine k_top (y := nI 0) rfl ?_
      refine lv_iload hx hb dL_law_996 (lv_at hl 1 rfl) ?_
      refine n_ieq (tgt := 1003) hx hb dL_law_998 (by decide) (by omega) (by omega) (fun c998 => ?_) (fun h => absurd h (by decide))
      refine lv_iload hx hb dL_law_1003 (lv_at hl 1 rfl) ?_
      refine lv_if_ne (tgt := 1020) hx hb dL_law_1005 (by decide) (fun h => absurd h (by decide)) (fun c1005 => ?_)
      refine lv_aload_n hx hb dL_law_1008 rfl (lv_at hl 5 rfl) ?_
      refine lv_iconst (v := nI 0) hx hb dL_law_1009 (by decide) ?_
      refine l_lald hx hb hK hk3 dL_law_1010 ?_
      refine lv_iload hx hb dL_law_1011 (lv_at hl 0 rfl) ?_
      refine lv_i2l hx hb dL_law_1013 rfl ?_
      refine l_lcmp hx hb dL_law_1014 ?_
      refine lv_if_eq (tgt := 1020) hx hb dL_law_1015 (by decide) (fun c1015 => ?_) (fun h => absurd h (by decide))
      refine lv_goto (tgt := 1824) hx hb dL_law_1020 (by decide) ?_
      refine W.widen (k := 484 + (j + 1)) (n := 5828 + 6*(j + 1)) (by omega) (by omega) ?_
      exact T (raZ (q_buf w) bn (q_rd w) z ((arK (q_buf w) bn (q_rd w)) + 1)) (w_bm (svW z (w_td (w_pl (w_th (w_rd w (arT (q_buf w) bn (q_rd w) (arK (q_buf w) bn (q_rd w))).2.2) (nI 0)) (nI (arT (q_buf w) bn (q_rd w) (arK (q_buf w) bn (q_rd w))).1)) (nI ((arK (q_buf w) bn (q_rd w)) + 1))) sn) (nI 0)) (svN sn) 0 _ _ _ (PI_sv hPI ⟨(raZ_iv hbn g9 hI (by omega) _ (Nat.le_refl _)).1, kw_ra hk9.2 _ (by omega)⟩ rfl rfl rfl (by omega)) (LI_mk hk1 (p1 ▸ hk4) hk5 hk6 hk0 hV7 hk3) hS (lv_sub hl [2, 3, 4, 5, 6] rfl)
  · refine lv_aload_n hx hb dL_law_979 rfl (lv_at hl 1 rfl) ?_
    refine lv_aload_n hx hb dL_law_980 rfl (lv_at hl 3 rfl) ?_
    refine l_SW (As := [.ref o, .ref (o + 483)]) (rest := []) S hK hX9 hXh (y_L_receiveAll_1 l hlS E (nb o) o z bn (q_buf w) (o + 483) x9 hI (fun q => g9 ((cp_iff hbn).mp q)) (by omega)) gL_law_L_receiveAll rfl hd_L_receiveAll ⟨rfl, rfl⟩ ⟨Nat.le_of_ble_eq_true rfl, Nat.le_of_ble_eq_true rfl⟩ ⟨hWG, hWQ, hWB, hWO⟩ rfl hl.1 rfl (Nat.le_of_ble_eq_true rfl) dL_law_981 ⟨by show _ ≤ 601024; omega, by show _ ≤ 7293034; omega⟩ hS (fun q h => by show o ≤ q; have := h.1; omega) (fun q h => by show o ≤ q; have := h.1; omega) (fun H locs hQ zH fH hS => ?_)
    have hR0 := hQ
    have hV1 := hR0
    have hk0 := bo_fr2 hWB (fun q hz hq => fH q hz (bl_ne hq (by omega)))
    have hk1 := gg_fr2 hWG (fun q hz hq => fH q hz (bl_ne hq (by omega)))
    have hk2 := md_fr2 hWM (fun q hz hq => fH q hz (bl_ne hq (by omega)))
    have hk4 := dz_fr2 hWQ (fun q hz hq => fH q hz (bl_ne hq (by omega)))
    have hk5 := tr_fr2 hWT (fun q hz hq => fH q hz (bl_ne hq (by omega)))
    have hk6 := hy_fr2 hWY (fun q hz hq => fH q hz (bl_ne hq (by omega)))
    refine lv_istore (lv' := [(5, .int (nI 1)), (0, .ref b), (1, .ref o), (2, .ref (o + 477)), (3, .ref (o + 483)), (4, .int (nI (4*j)))]) hx hb dL_law_984 hl (by decide) rfl (fun ls hl => ?_)
    refine lv_aload_n hx hb dL_law_986 rfl (lv_at hl 3 rfl) ?_
    refine k_VM (As := []) (rest := []) S hK (c_X7_receiveAll_f1 l E (o + 477) z w (q_buf w) bn hI rfl hbm hbn g9) gL_law_X7_receiveAll rfl hd_X7_receiveAll ⟨rfl, rfl⟩ ⟨Nat.le_of_ble_eq_true rfl, Nat.le_of_ble_eq_true rfl⟩ (k_recv hK hk2.1 rfl) hk2 rfl hl.1 rfl (Nat.le_of_ble_eq_true rfl) dL_law_987 ⟨by show _ ≤ 601024; omega, by show _ ≤ 7293034; omega⟩ hS (fun q h => by show o ≤ q; have := h.1; omega) (fun q h => by show o ≤ q; have := h.1; omega) (fun H locs hQ zH fH hS => ?_)
    have hP := hQ
    have hV2 := hP
    have hk0 := bo_fr2 hk0 (fun q hz hq => fH q hz (bl_ne hq (by omega)))
    have hk1 := gg_fr2 hk1 (fun q hz hq => fH q hz (bl_ne hq (by omega)))
    have hk3 := la_fr2 hV1 (fun q hz hq => fH q hz (bl_ne hq (by omega)))
    have hk4 := dz_fr2 hk4 (fun q hz hq => fH q hz (bl_ne hq (by omega)))
    have hk5 := tr_fr2 hk5 (fun q hz hq => fH q hz (bl_ne hq (by omega)))
    have hk6 := hy_fr2 hk6 (fun q hz hq => fH q hz (bl_ne hq (by omega)))
    refine lv_istore (lv' := [(6, .int (nI 0)), (5, .int (nI 1)), (0, .ref b), (1, .ref o), (2, .ref (o + 477)), (3, .ref (o + 483)), (4, .int (nI (4*j)))]) hx hb dL_law_990 hl (by decide) rfl (fun ls hl => ?_)
    refine lv_aload_n hx hb dL_law_992 rfl (lv_at hl 4 rfl) ?_
    refine k_V (As := []) (rest := []) S hK (c_X7_thrown l E (o + 477) z (w_td (w_pl (w_th (w_rd w (arT (q_buf w) bn (q_rd w) (arK (q_buf w) bn (q_rd w))).2.2) (nI 1)) (nI (arT (q_buf w) bn (q_rd w) (arK (q_buf w) bn (q_rd w))).1)) (nI ((arK (q_buf w) bn (q_rd w)) + 1)))) gL_law_X7_thrown rfl hd_X7_thrown ⟨rfl, rfl⟩ ⟨Nat.le_of_ble_eq_true rfl, Nat.le_of_ble_eq_true rfl⟩ (k_recv hK hV2.1 rfl) hV2 rfl hl.1 rfl (Nat.le_of_ble_eq_true rfl) dL_law_993 ⟨by show _ ≤ 601024; omega, by show _ ≤ 7293034; omega⟩ ?_
    refine k_top (y := nI 1) rfl ?_
    refine lv_iload hx hb dL_law_996 (lv_at hl 1 rfl) ?_
    refine n_ieq (tgt := 1003) hx hb dL_law_998 (by decide) (by omega) (by omega) (fun c998 => ?_) (fun h => absurd h (by decide))
    refine lv_iload hx hb dL_law_1003 (lv_at hl 1 rfl) ?_
    refine lv_if_ne (tgt := 1020) hx hb dL_law_1005 (by decide) (fun c1005 => ?_) (fun h => absurd h (by decide))
    refine lv_goto (tgt := 1824) hx hb dL_law_1020 (by decide) ?_
    refine W.widen (k := 484 + (j + 1)) (n := 5828 + 6*(j + 1)) (by omega) (by omega) ?_
    exact T z (w_td (w_pl (w_th (w_rd w (arT (q_buf w) bn (q_rd w) (arK (q_buf w) bn (q_rd w))).2.2) (nI 1)) (nI (arT (q_buf w) bn (q_rd w) (arK (q_buf w) bn (q_rd w))).1)) (nI ((arK (q_buf w) bn (q_rd w)) + 1))) sn bn _ _ _ hPI (LI_mk hk1 hk4 hk5 hk6 hk0 hV2 hk3) hS (lv_sub hl [2, 3, 4, 5, 6] rfl)
set_option maxHeartbeats 4000000 in
set_option maxRecDepth 100000 in
theorem law_15 {p : Program} {l : Launch} {e : Env} {s : State} {m : MethodId} {below : List Frame} {meth : Method} {c : Code} {E : ke_E} {b o L j : Nat} {xs : Nat → Int32} {Q : State → Prop} (C : LC9 p l s m c E b o L xs) (hj : 4*j + 4 ≤ L) (T : LT9 p l e s m below meth c E b o j Q) : ∀ (z : Nat → Int32) (w : md_w) (sn bn : Nat) (H : Heap) (locs : List Loc) (ls : Array Slot), PI9 z w sn bn → LI9 E o z w sn bn H → va_S (nb o) s.heap H locs → lv_has ls 9 [(0, .ref b), (1, .ref o), (2, .ref (o + 477)), (3, .ref (o + 483)), (4, .int (nI (4*j)))] → W p l e room_1 s m #[.ref b] below meth c H locs (484 + j) (5828 + 6*j) Q (F0 m 1023 ls []) := by
  intro z w sn bn H locs ls hPI hLI hS hl
  obtain ⟨S, hlS, hK, hX9, hXh, hX, hbo, hsz9, hL⟩ := C
  have hx := S.1
  have hb := S.2.1
  have hts := S.2.2.2.2
  obtain ⟨hs, hsn, hbm, hbn, hk9, hrows⟩ := id hPI
  have hI := hk9.1
  have hJ := hk9.2.1
  have hpw := hk9.2.2
  have hc20 := iv_c hI
  obtain ⟨hWG, hWQ, hWT, hWY, hWB, hWM, x9, hWO⟩ := hLI
  have hbl : b < s.heap.size := by omega
  have hbA : ¬ nb o b := by show ¬ o ≤ b; omega
  rcases sn with _ | k
  · refine lv_aload_n hx hb dL_law_1023 rfl (lv_at hl 1 rfl) ?_
    refine lv_aload_n hx hb dL_law_1024 rfl (lv_at hl 3 rfl) ?_
    refine l_SW (As := [.ref o, .ref (o + 483)]) (rest := []) S hK hX9 hXh (y_L_undo_1 l hlS E (nb o) o z (q_rows w) (o + 483) x9 (by omega)) gL_law_L_undo rfl hd_L_undo ⟨rfl, rfl⟩ ⟨Nat.le_of_ble_eq_true rfl, Nat.le_of_ble_eq_true rfl⟩ ⟨hWG, hWY, hWO⟩ rfl hl.1 rfl (Nat.le_of_ble_eq_true rfl) dL_law_1025 ⟨by show _ ≤ 601024; omega, by show _ ≤ 7293034; omega⟩ hS (fun q h => by show o ≤ q; have := h.1; omega) (fun q h => by show o ≤ q; have := h.1; omega) (fun H locs hQ zH fH hS => ?_)
    have hR0 := hQ
    have hV1 := hR0
    have hk0 := bo_fr2 hWB (fun q hz hq => fH q hz (bl_ne hq (by omega)))
    have hk1 := gg_fr2 hWG (fun q hz hq => fH q hz (bl_ne hq (by omega)))
    have hk2 := md_fr2 hWM (fun q hz hq => fH q hz (bl_ne hq (by omega)))
    have hk4 := dz_fr2 hWQ (fun q hz hq => fH q hz (bl_ne hq (by omega)))
    have hk5 := tr_fr2 hWT (fun q hz hq => fH q hz (bl_ne hq (by omega)))
    have hk6 := hy_fr2 hWY (fun q hz hq => fH q hz (bl_ne hq (by omega)))
    refine lv_istore (lv' := [(5, .int (nI 1)), (0, .ref b), (1, .ref o), (2, .ref (o + 477)), (3, .ref (o + 483)), (4, .int (nI (4*j)))]) hx hb dL_law_1028 hl (by decide) rfl (fun ls hl => ?_)
    refine lv_aload_n hx hb dL_law_1030 rfl (lv_at hl 3 rfl) ?_
    refine k_VM (As := []) (rest := []) S hK (c_X7_undo_f1 l E (o + 477) z w hs) gL_law_X7_undo rfl hd_X7_undo ⟨rfl, rfl⟩ ⟨Nat.le_of_ble_eq_true rfl, Nat.le_of_ble_eq_true rfl⟩ (k_recv hK hk2.1 rfl) hk2 rfl hl.1 rfl (Nat.le_of_ble_eq_true rfl) dL_law_1031 ⟨by show _ ≤ 601024; omega, by show _ ≤ 7293034; omega⟩ hS (fun q h => by show o ≤ q; have := h.1; omega) (fun q h => by show o ≤ q; have := h.1; omega) (fun H locs hQ zH fH hS => ?_)
    have hP := hQ
    have hV2 := hP
    have hk0 := bo_fr2 hk0 (fun q hz hq => fH q hz (bl_ne hq (by omega)))
    have hk1 := gg_fr2 hk1 (fun q hz hq => fH q hz (bl_ne hq (by omega)))
    have hk3 := la_fr2 hV1 (fun q hz hq => fH q hz (bl_ne hq (by omega)))
    have hk4 := dz_fr2 hk4 (fun q hz hq => fH q hz (bl_ne hq (by omega)))
    have hk5 := tr_fr2 hk5 (fun q hz hq => fH q hz (bl_ne hq (by omega)))
    have hk6 := hy_fr2 hk6 (fun q hz hq => fH q hz (bl_ne hq (by omega)))
    refine lv_istore (lv' := [(6, .int (nI 0)), (5, .int (nI 1)), (0, .ref b), (1, .ref o), (2, .ref (o + 477)), (3, .ref (o + 483)), (4, .int (nI (4*j)))]) hx hb dL_law_1034 hl (by decide) rfl (fun ls hl => ?_)
    refine lv_aload_n hx hb dL_law_1036 rfl (lv_at hl 4 rfl) ?_
    refine k_V (As := []) (rest := []) S hK (c_X7_thrown l E (o + 477) z (w_th w (nI 1))) gL_law_X7_thrown rfl hd_X7_thrown ⟨rfl, rfl⟩ ⟨Nat.le_of_ble_eq_true rfl, Nat.le_of_ble_eq_true rfl⟩ (k_recv hK hV2.1 rfl) hV2 rfl hl.1 rfl (Nat.le_of_ble_eq_true rfl) dL_law_1037 ⟨by show _ ≤ 601024; omega, by show _ ≤ 7293034; omega⟩ ?_
    refine k_top (y := nI 1) rfl ?_
    refine lv_iload hx hb dL_law_1040 (lv_at hl 1 rfl) ?_
    refine n_ieq (tgt := 1047) hx hb dL_law_1042 (by decide) (by omega) (by omega) (fun c1042 => ?_) (fun h => absurd h (by decide))
    refine lv_iload hx hb dL_law_1047 (lv_at hl 1 rfl) ?_
    refine lv_if_ne (tgt := 1064) hx hb dL_law_1049 (by decide) (fun c1049 => ?_) (fun h => absurd h (by decide))
    refine lv_goto (tgt := 1824) hx hb dL_law_1064 (by decide) ?_
    refine W.widen (k := 484 + (j + 1)) (n := 5828 + 6*(j + 1)) (by omega) (by omega) ?_
    exact T z (w_th w (nI 1)) 0 bn _ _ _ hPI (LI_mk hk1 hk4 hk5 hk6 hk0 hV2 hk3) hS (lv_sub hl [2, 3, 4, 5, 6] rfl)
  · refine lv_aload_n hx hb dL_law_1023 rfl (lv_at hl 1 rfl) ?_
    refine lv_aload_n hx hb dL_law_1024 rfl (lv_at hl 3 rfl) ?_
    refine l_SW (As := [.ref o, .ref (o + 483)]) (rest := []) S hK hX9 hXh (c_L_undo l hlS E (nb o) o z (q_rows w) bn (q_buf w) k (o + 483) x9 (hrows k (by omega)).1 (by omega) (by omega)) gL_law_L_undo rfl hd_L_undo ⟨rfl, rfl⟩ ⟨Nat.le_of_ble_eq_true rfl, Nat.le_of_ble_eq_true rfl⟩ ⟨hWG, hWQ, hWT, hWY, hWB, hWO⟩ rfl hl.1 rfl (Nat.le_of_ble_eq_true rfl) dL_law_1025 ⟨by show _ ≤ 601024; omega, by show _ ≤ 7293034; omega⟩ hS (fun q h => h.elim (fun h => by show o ≤ q; have := h.1; omega) (fun h => by show o ≤ q; have := h.1; omega)) (fun q h => h.elim (fun h => by show o ≤ q; have := h.1; omega) (fun h => by show o ≤ q; have := h.1; omega)) (fun H locs hQ zH fH hS => ?_)
    obtain ⟨hR0, hR1, hR2, hR3, hR4, hR5⟩ := hQ
    have hV1 := hR0
    have hV2 := hR1
    have hV3 := hR2
    have hV4 := hR3
    have hV5 := hR4
    have hV6 := hR5
    have hk2 := md_fr2 hWM (fun q hz hq => fH q hz (ow_ne hq (by omega)))
    refine lv_istore (lv' := [(5, .int (nI 0)), (0, .ref b), (1, .ref o), (2, .ref (o + 477)), (3, .ref (o + 483)), (4, .int (nI (4*j)))]) hx hb dL_law_1028 hl (by decide) rfl (fun ls hl => ?_)
    refine lv_aload_n hx hb dL_law_1030 rfl (lv_at hl 3 rfl) ?_
    refine k_VM (As := []) (rest := []) S hK (c_X7_undo l E (o + 477) z w k hs (by omega)) gL_law_X7_undo rfl hd_X7_undo ⟨rfl, rfl⟩ ⟨Nat.le_of_ble_eq_true rfl, Nat.le_of_ble_eq_true rfl⟩ (k_recv hK hk2.1 rfl) hk2 rfl hl.1 rfl (Nat.le_of_ble_eq_true rfl) dL_law_1031 ⟨by show _ ≤ 601024; omega, by show _ ≤ 7293034; omega⟩ hS (fun q h => by show o ≤ q; have := h.1; omega) (fun q h => by show o ≤ q; have := h.1; omega) (fun H locs hQ zH fH hS => ?_)
    have hP := hQ
    have hV7 := hP
    have hk0 := bo_fr2 hV5 (fun q hz hq => fH q hz (bl_ne hq (by omega)))
    have hk1 := gg_fr2 hV1 (fun q hz hq => fH q hz (bl_ne hq (by omega)))
    have hk3 := la_fr2 hV6 (fun q hz hq => fH q hz (bl_ne hq (by omega)))
    have hk4 := dz_fr2 hV2 (fun q hz hq => fH q hz (bl_ne hq (by omega)))
    have hk5 := tr_fr2 hV3 (fun q hz hq => fH q hz (bl_ne hq (by omega)))
    have hk6 := hy_fr2 hV4 (fun q hz hq => fH q hz (bl_ne hq (by omega)))
    refine lv_istore (lv' := [(6, .int (nI k)), (5, .int (nI 0)), (0, .ref b), (1, .ref o), (2, .ref (o + 477)), (3, .ref (o + 483)), (4, .int (nI (4*j)))]) hx hb dL_law_1034 hl (by decide) rfl (fun ls hl => ?_)
    refine lv_aload_n hx hb dL_law_1036 rfl (lv_at hl 4 rfl) ?_
    refine k_V (As := []) (rest := []) S hK (c_X7_thrown l E (o + 477) (unZ z (q_rows w) k) (w_sm (w_th w (nI 0)) (nI k))) gL_law_X7_thrown rfl hd_X7_thrown ⟨rfl, rfl⟩ ⟨Nat.le_of_ble_eq_true rfl, Nat.le_of_ble_eq_true rfl⟩ (k_recv hK hV7.1 rfl) hV7 rfl hl.1 rfl (Nat.le_of_ble_eq_true rfl) dL_law_1037 ⟨by show _ ≤ 601024; omega, by show _ ≤ 7293034; omega⟩ ?_
    refine k_top (y := nI 0) rfl ?_
    refine lv_iload hx hb dL_law_1040 (lv_at hl 1 rfl) ?_
    refine n_ieq (tgt := 1047) hx hb dL_law_1042 (by decide) (by omega) (by omega) (fun c1042 => ?_) (fun h => absurd h (by decide))
    refine lv_iload hx hb dL_law_1047 (lv_at hl 1 rfl) ?_
    refine lv_if_ne (tgt := 1064) hx hb dL_law_1049 (by decide) (fun h => absurd h (by decide)) (fun c1049 => ?_)
    refine lv_aload_n hx hb dL_law_1052 rfl (lv_at hl 5 rfl) ?_
    refine lv_iconst (v := nI 0) hx hb dL_law_1053 (by decide) ?_
    refine l_lald hx hb hK hk3 dL_law_1054 ?_
    refine lv_iload hx hb dL_law_1055 (lv_at hl 0 rfl) ?_
    refine lv_i2l hx hb dL_law_1057 rfl ?_
    refine l_lcmp hx hb dL_law_1058 ?_
    refine lv_if_eq (tgt := 1064) hx hb dL_law_1059 (by decide) (fun c1059 => ?_) (fun h => absurd h (by decide))
    refine lv_goto (tgt := 1824) hx hb dL_law_1064 (by decide) ?_
    refine W.widen (k := 484 + (j + 1)) (n := 5828 + 6*(j + 1)) (by omega) (by omega) ?_
    exact T (unZ z (q_rows w) k) (w_sm (w_th w (nI 0)) (nI k)) k bn _ _ _ ⟨rfl, by omega, hbm, hbn, kw_cg (hrows k (by omega)) (fun j hj => if_pos hj), fun i hi => hrows i (by omega)⟩ (LI_mk hk1 (un_dz (hrows k (by omega)).1 hk4) hk5 hk6 hk0 hV7 hk3) hS (lv_sub hl [2, 3, 4, 5, 6] rfl)
set_option maxHeartbeats 4000000 in
set_option maxRecDepth 100000 in
theorem law_16 {p : Program} {l : Launch} {e : Env} {s : State} {m : MethodId} {below : List Frame} {meth : Method} {c : Code} {E : ke_E} {b o L j : Nat} {xs : Nat → Int32} {Q : State → Prop} (C : LC9 p l s m c E b o L xs) (hj : 4*j + 4 ≤ L) (T : LT9 p l e s m below meth c E b o j Q) : ∀ (z : Nat → Int32) (w : md_w) (sn bn : Nat) (H : Heap) (locs : List Loc) (ls : Array Slot), PI9 z w sn bn → LI9 E o z w sn bn H → va_S (nb o) s.heap H locs → lv_has ls 9 [(0, .ref b), (1, .ref o), (2, .ref (o + 477)), (3, .ref (o + 483)), (4, .int (nI (4*j)))] → W p l e room_1 s m #[.ref b] below meth c H locs (484 + j) (5828 + 6*j) Q (F0 m 1067 ls []) := by
  intro z w sn bn H locs ls hPI hLI hS hl
  obtain ⟨S, hlS, hK, hX9, hXh, hX, hbo, hsz9, hL⟩ := C
  have hx := S.1
  have hb := S.2.1
  have hts := S.2.2.2.2
  obtain ⟨hs, hsn, hbm, hbn, hk9, hrows⟩ := id hPI
  have hI := hk9.1
  have hJ := hk9.2.1
  have hpw := hk9.2.2
  have hc20 := iv_c hI
  obtain ⟨hWG, hWQ, hWT, hWY, hWB, hWM, x9, hWO⟩ := hLI
  have hbl : b < s.heap.size := by omega
  have hbA : ¬ nb o b := by show ¬ o ≤ b; omega
  by_cases g1 : inR (xs (4*j + 1)) (cn z)
  · obtain ⟨u, hu, eu⟩ := g1
    by_cases g2 : inR (xs (4*j + 2)) 14
    · obtain ⟨k, hk, ek⟩ := g2
      refine lv_aload_n hx hb dL_law_1067 rfl (lv_at hl 1 rfl) ?_
      refine lv_aload_n hx hb dL_law_1068 rfl (lv_at hl 0 rfl) ?_
      refine lv_iload hx hb dL_law_1069 (lv_at hl 4 rfl) ?_
      refine lv_iconst (v := nI 1) hx hb dL_law_1071 (by decide) ?_
      refine n_iadd (n := 4*j + 1) hx hb dL_law_1072 (by omega) ?_
      refine va_sld hx hb hX hbl hbA hS (vp_in_nI (by omega) (by omega)) dL_law_1073 ?_
      refine k_top (y := nI u) (by rw [nI_clamp (by omega)]; exact eu) ?_
      refine lv_aload_n hx hb dL_law_1074 rfl (lv_at hl 0 rfl) ?_
      refine lv_iload hx hb dL_law_1075 (lv_at hl 4 rfl) ?_
      refine lv_iconst (v := nI 2) hx hb dL_law_1077 (by decide) ?_
      refine n_iadd (n := 4*j + 2) hx hb dL_law_1078 (by omega) ?_
      refine va_sld hx hb hX hbl hbA hS (vp_in_nI (by omega) (by omega)) dL_law_1079 ?_
      refine k_top (y := nI k) (by rw [nI_clamp (by omega)]; exact ek) ?_
      refine lv_aload_n hx hb dL_law_1080 rfl (lv_at hl 3 rfl) ?_
      refine l_SW (As := [.ref o, .int (nI u), .int (nI k), .ref (o + 483)]) (rest := []) S hK hX9 hXh (c_L_unit l hlS E (nb o) o z u k (o + 483) x9 hI hu hk (by omega)) gL_law_L_unit rfl hd_L_unit ⟨rfl, rfl⟩ ⟨Nat.le_of_ble_eq_true rfl, Nat.le_of_ble_eq_true rfl⟩ ⟨hWG, hWQ, hWO⟩ rfl hl.1 rfl (Nat.le_of_ble_eq_true rfl) dL_law_1081 ⟨by show _ ≤ 601024; omega, by show _ ≤ 7293034; omega⟩ hS (fun q h => by show o ≤ q; have := h.1; omega) (fun q h => by show o ≤ q; have := h.1; omega) (fun H locs hQ zH fH hS => ?_)
      have hR0 := hQ
      have hV1 := hR0
      have hk0 := bo_fr2 hWB (fun q hz hq => fH q hz (bl_ne hq (by omega)))
      have hk1 := gg_fr2 hWG (fun q hz hq => fH q hz (bl_ne hq (by omega)))
      have hk2 := md_fr2 hWM (fun q hz hq => fH q hz (bl_ne hq (by omega)))
      have hk4 := dz_fr2 hWQ (fun q hz hq => fH q hz (bl_ne hq (by omega)))
      have hk5 := tr_fr2 hWT (fun q hz hq => fH q hz (bl_ne hq (by omega)))
      have hk6 := hy_fr2 hWY (fun q hz hq => fH q hz (bl_ne hq (by omega)))
      refine lv_istore (lv' := [(5, .int (nI 0)), (0, .ref b), (1, .ref o), (2, .ref (o + 477)), (3, .ref (o + 483)), (4, .int (nI (4*j)))]) hx hb dL_law_1084 hl (by decide) rfl (fun ls hl => ?_)
      refine lv_aload_n hx hb dL_law_1086 rfl (lv_at hl 3 rfl) ?_
      refine lv_aload_n hx hb dL_law_1087 rfl (lv_at hl 1 rfl) ?_
      refine lv_iload hx hb dL_law_1088 (lv_at hl 5 rfl) ?_
      refine lv_iconst (v := nI 1) hx hb dL_law_1090 (by decide) ?_
      refine n_iadd (n := 4*j + 1) hx hb dL_law_1091 (by omega) ?_
      refine va_sld hx hb hX hbl hbA hS (vp_in_nI (by omega) (by omega)) dL_law_1092 ?_
      refine k_top (y := nI u) (by rw [nI_clamp (by omega)]; exact eu) ?_
      refine lv_aload_n hx hb dL_law_1093 rfl (lv_at hl 1 rfl) ?_
      refine lv_iload hx hb dL_law_1094 (lv_at hl 5 rfl) ?_
      refine lv_iconst (v := nI 2) hx hb dL_law_1096 (by decide) ?_
      refine n_iadd (n := 4*j + 2) hx hb dL_law_1097 (by omega) ?_
      refine va_sld hx hb hX hbl hbA hS (vp_in_nI (by omega) (by omega)) dL_law_1098 ?_
      refine k_top (y := nI k) (by rw [nI_clamp (by omega)]; exact ek) ?_
      refine k_VM (As := [.int (nI u), .int (nI k)]) (rest := []) S hK (c_X7_unit l E (o + 477) z w u k hI hu hk) gL_law_X7_unit rfl hd_X7_unit ⟨rfl, rfl⟩ ⟨Nat.le_of_ble_eq_true rfl, Nat.le_of_ble_eq_true rfl⟩ (k_recv hK hk2.1 rfl) hk2 rfl hl.1 rfl (Nat.le_of_ble_eq_true rfl) dL_law_1099 ⟨by show _ ≤ 601024; omega, by show _ ≤ 7293034; omega⟩ hS (fun q h => by show o ≤ q; have := h.1; omega) (fun q h => by show o ≤ q; have := h.1; omega) (fun H locs hQ zH fH hS => ?_)
      have hP := hQ
      have hV2 := hP
      have hk0 := bo_fr2 hk0 (fun q hz hq => fH q hz (bl_ne hq (by omega)))
      have hk1 := gg_fr2 hk1 (fun q hz hq => fH q hz (bl_ne hq (by omega)))
      have hk3 := la_fr2 hV1 (fun q hz hq => fH q hz (bl_ne hq (by omega)))
      have hk4 := dz_fr2 hk4 (fun q hz hq => fH q hz (bl_ne hq (by omega)))
      have hk5 := tr_fr2 hk5 (fun q hz hq => fH q hz (bl_ne hq (by omega)))
      have hk6 := hy_fr2 hk6 (fun q hz hq => fH q hz (bl_ne hq (by omega)))
      refine lv_istore (lv' := [(6, .int (unV z u k)), (5, .int (nI 0)), (0, .ref b), (1, .ref o), (2, .ref (o + 477)), (3, .ref (o + 483)), (4, .int (nI (4*j)))]) hx hb dL_law_1102 hl (by decide) rfl (fun ls hl => ?_)
      refine lv_aload_n hx hb dL_law_1104 rfl (lv_at hl 4 rfl) ?_
      refine k_V (As := []) (rest := []) S hK (c_X7_thrown l E (o + 477) z (w_th w (nI 0))) gL_law_X7_thrown rfl hd_X7_thrown ⟨rfl, rfl⟩ ⟨Nat.le_of_ble_eq_true rfl, Nat.le_of_ble_eq_true rfl⟩ (k_recv hK hV2.1 rfl) hV2 rfl hl.1 rfl (Nat.le_of_ble_eq_true rfl) dL_law_1105 ⟨by show _ ≤ 601024; omega, by show _ ≤ 7293034; omega⟩ ?_
      refine k_top (y := nI 0) rfl ?_
      refine lv_iload hx hb dL_law_1108 (lv_at hl 1 rfl) ?_
      refine n_ieq (tgt := 1115) hx hb dL_law_1110 (by decide) (by omega) (by omega) (fun c1110 => ?_) (fun h => absurd h (by decide))
      refine lv_iload hx hb dL_law_1115 (lv_at hl 1 rfl) ?_
      refine lv_if_ne (tgt := 1132) hx hb dL_law_1117 (by decide) (fun h => absurd h (by decide)) (fun c1117 => ?_)
      refine lv_aload_n hx hb dL_law_1120 rfl (lv_at hl 5 rfl) ?_
      refine lv_iconst (v := nI 0) hx hb dL_law_1121 (by decide) ?_
      refine l_lald hx hb hK hk3 dL_law_1122 ?_
      refine lv_iload hx hb dL_law_1123 (lv_at hl 0 rfl) ?_
      refine lv_i2l hx hb dL_law_1125 rfl ?_
      refine l_lcmp hx hb dL_law_1126 ?_
      refine lv_if_eq (tgt := 1132) hx hb dL_law_1127 (by decide) (fun c1127 => ?_) (fun h => absurd h (by decide))
      refine lv_goto (tgt := 1824) hx hb dL_law_1132 (by decide) ?_
      refine W.widen (k := 484 + (j + 1)) (n := 5828 + 6*(j + 1)) (by omega) (by omega) ?_
      exact T z (w_th w (nI 0)) sn bn _ _ _ hPI (LI_mk hk1 hk4 hk5 hk6 hk0 hV2 hk3) hS (lv_sub hl [2, 3, 4, 5, 6] rfl)
    · refine lv_aload_n hx hb dL_law_1067 rfl (lv_at hl 1 rfl) ?_
      refine lv_aload_n hx hb dL_law_1068 rfl (lv_at hl 0 rfl) ?_
      refine lv_iload hx hb dL_law_1069 (lv_at hl 4 rfl) ?_
      refine lv_iconst (v := nI 1) hx hb dL_law_1071 (by decide) ?_
      refine n_iadd (n := 4*j + 1) hx hb dL_law_1072 (by omega) ?_
      refine va_sld hx hb hX hbl hbA hS (vp_in_nI (by omega) (by omega)) dL_law_1073 ?_
      refine k_top (y := nI u) (by rw [nI_clamp (by omega)]; exact eu) ?_
      refine lv_aload_n hx hb dL_law_1074 rfl (lv_at hl 0 rfl) ?_
      refine lv_iload hx hb dL_law_1075 (lv_at hl 4 rfl) ?_
      refine lv_iconst (v := nI 2) hx hb dL_law_1077 (by decide) ?_
      refine n_iadd (n := 4*j + 2) hx hb dL_law_1078 (by omega) ?_
      refine va_sld hx hb hX hbl hbA hS (vp_in_nI (by omega) (by omega)) dL_law_1079 ?_
      refine k_top (y := xs (4*j + 2)) (by rw [nI_clamp (by omega)]) ?_
      refine lv_aload_n hx hb dL_law_1080 rfl (lv_at hl 3 rfl) ?_
      refine l_SW (As := [.ref o, .int (nI u), .int (xs (4*j + 2)), .ref (o + 483)]) (rest := []) S hK hX9 hXh (y_L_unit_2 l hlS E (nb o) o z u (xs (4*j + 2)) (o + 483) x9 hI hu g2 (by omega)) gL_law_L_unit rfl hd_L_unit ⟨rfl, rfl⟩ ⟨Nat.le_of_ble_eq_true rfl, Nat.le_of_ble_eq_true rfl⟩ ⟨hWG, hWQ, hWO⟩ rfl hl.1 rfl (Nat.le_of_ble_eq_true rfl) dL_law_1081 ⟨by show _ ≤ 601024; omega, by show _ ≤ 7293034; omega⟩ hS (fun q h => by show o ≤ q; have := h.1; omega) (fun q h => by show o ≤ q; have := h.1; omega) (fun H locs hQ zH fH hS => ?_)
      have hR0 := hQ
      have hV1 := hR0
      have hk0 := bo_fr2 hWB (fun q hz hq => fH q hz (bl_ne hq (by omega)))
      have hk1 := gg_fr2 hWG (fun q hz hq => fH q hz (bl_ne hq (by omega)))
      have hk2 := md_fr2 hWM (fun q hz hq => fH q hz (bl_ne hq (by omega)))
      have hk4 := dz_fr2 hWQ (fun q hz hq => fH q hz (bl_ne hq (by omega)))
      have hk5 := tr_fr2 hWT (fun q hz hq => fH q hz (bl_ne hq (by omega)))
      have hk6 := hy_fr2 hWY (fun q hz hq => fH q hz (bl_ne hq (by omega)))
      refine lv_istore (lv' := [(5, .int (nI 2)), (0, .ref b), (1, .ref o), (2, .ref (o + 477)), (3, .ref (o + 483)), (4, .int (nI (4*j)))]) hx hb dL_law_1084 hl (by decide) rfl (fun ls hl => ?_)
      refine lv_aload_n hx hb dL_law_1086 rfl (lv_at hl 3 rfl) ?_
      refine lv_aload_n hx hb dL_law_1087 rfl (lv_at hl 1 rfl) ?_
      refine lv_iload hx hb dL_law_1088 (lv_at hl 5 rfl) ?_
      refine lv_iconst (v := nI 1) hx hb dL_law_1090 (by decide) ?_
      refine n_iadd (n := 4*j + 1) hx hb dL_law_1091 (by omega) ?_
      refine va_sld hx hb hX hbl hbA hS (vp_in_nI (by omega) (by omega)) dL_law_1092 ?_
      refine k_top (y := nI u) (by rw [nI_clamp (by omega)]; exact eu) ?_
      refine lv_aload_n hx hb dL_law_1093 rfl (lv_at hl 1 rfl) ?_
      refine lv_iload hx hb dL_law_1094 (lv_at hl 5 rfl) ?_
      refine lv_iconst (v := nI 2) hx hb dL_law_1096 (by decide) ?_
      refine n_iadd (n := 4*j + 2) hx hb dL_law_1097 (by omega) ?_
      refine va_sld hx hb hX hbl hbA hS (vp_in_nI (by omega) (by omega)) dL_law_1098 ?_
      refine k_top (y := xs (4*j + 2)) (by rw [nI_clamp (by omega)]) ?_
      refine k_VM (As := [.int (nI u), .int (xs (4*j + 2))]) (rest := []) S hK (c_X7_unit_f2 l E (o + 477) z w u (xs (4*j + 2)) hI hu g2) gL_law_X7_unit rfl hd_X7_unit ⟨rfl, rfl⟩ ⟨Nat.le_of_ble_eq_true rfl, Nat.le_of_ble_eq_true rfl⟩ (k_recv hK hk2.1 rfl) hk2 rfl hl.1 rfl (Nat.le_of_ble_eq_true rfl) dL_law_1099 ⟨by show _ ≤ 601024; omega, by show _ ≤ 7293034; omega⟩ hS (fun q h => by show o ≤ q; have := h.1; omega) (fun q h => by show o ≤ q; have := h.1; omega) (fun H locs hQ zH fH hS => ?_)
      have hP := hQ
      have hV2 := hP
      have hk0 := bo_fr2 hk0 (fun q hz hq => fH q hz (bl_ne hq (by omega)))
      have hk1 := gg_fr2 hk1 (fun q hz hq => fH q hz (bl_ne hq (by omega)))
      have hk3 := la_fr2 hV1 (fun q hz hq => fH q hz (bl_ne hq (by omega)))
      have hk4 := dz_fr2 hk4 (fun q hz hq => fH q hz (bl_ne hq (by omega)))
      have hk5 := tr_fr2 hk5 (fun q hz hq => fH q hz (bl_ne hq (by omega)))
      have hk6 := hy_fr2 hk6 (fun q hz hq => fH q hz (bl_ne hq (by omega)))
      refine lv_istore (lv' := [(6, .int (nI 0)), (5, .int (nI 2)), (0, .ref b), (1, .ref o), (2, .ref (o + 477)), (3, .ref (o + 483)), (4, .int (nI (4*j)))]) hx hb dL_law_1102 hl (by decide) rfl (fun ls hl => ?_)
      refine lv_aload_n hx hb dL_law_1104 rfl (lv_at hl 4 rfl) ?_
      refine k_V (As := []) (rest := []) S hK (c_X7_thrown l E (o + 477) z (w_th w (nI 2))) gL_law_X7_thrown rfl hd_X7_thrown ⟨rfl, rfl⟩ ⟨Nat.le_of_ble_eq_true rfl, Nat.le_of_ble_eq_true rfl⟩ (k_recv hK hV2.1 rfl) hV2 rfl hl.1 rfl (Nat.le_of_ble_eq_true rfl) dL_law_1105 ⟨by show _ ≤ 601024; omega, by show _ ≤ 7293034; omega⟩ ?_
      refine k_top (y := nI 2) rfl ?_
      refine lv_iload hx hb dL_law_1108 (lv_at hl 1 rfl) ?_
      refine n_ieq (tgt := 1115) hx hb dL_law_1110 (by decide) (by omega) (by omega) (fun c1110 => ?_) (fun h => absurd h (by decide))
      refine lv_iload hx hb dL_law_1115 (lv_at hl 1 rfl) ?_
      refine lv_if_ne (tgt := 1132) hx hb dL_law_1117 (by decide) (fun c1117 => ?_) (fun h => absurd h (by decide))
      refine lv_goto (tgt := 1824) hx hb dL_law_1132 (by decide) ?_
      refine W.widen (k := 484 + (j + 1)) (n := 5828 + 6*(j + 1)) (by omega) (by omega) ?_
      exact T z (w_th w (nI 2)) sn bn _ _ _ hPI (LI_mk hk1 hk4 hk5 hk6 hk0 hV2 hk3) hS (lv_sub hl [2, 3, 4, 5, 6] rfl)
  · refine lv_aload_n hx hb dL_law_1067 rfl (lv_at hl 1 rfl) ?_
    refine lv_aload_n hx hb dL_law_1068 rfl (lv_at hl 0 rfl) ?_
    refine lv_iload hx hb dL_law_1069 (lv_at hl 4 rfl) ?_
    refine lv_iconst (v := nI 1) hx hb dL_law_1071 (by decide) ?_
    refine n_iadd (n := 4*j + 1) hx hb dL_law_1072 (by omega) ?_
    refine va_sld hx hb hX hbl hbA hS (vp_in_nI (by omega) (by omega)) dL_law_1073 ?_
    refine k_top (y := xs (4*j + 1)) (by rw [nI_clamp (by omega)]) ?_
    refine lv_aload_n hx hb dL_law_1074 rfl (lv_at hl 0 rfl) ?_
    refine lv_iload hx hb dL_law_1075 (lv_at hl 4 rfl) ?_
    refine lv_iconst (v := nI 2) hx hb dL_law_1077 (by decide) ?_
    refine n_iadd (n := 4*j + 2) hx hb dL_law_1078 (by omega) ?_
    refine va_sld hx hb hX hbl hbA hS (vp_in_nI (by omega) (by omega)) dL_law_1079 ?_
    refine k_top (y := xs (4*j + 2)) (by rw [nI_clamp (by omega)]) ?_
    refine lv_aload_n hx hb dL_law_1080 rfl (lv_at hl 3 rfl) ?_
    refine l_SW (As := [.ref o, .int (xs (4*j + 1)), .int (xs (4*j + 2)), .ref (o + 483)]) (rest := []) S hK hX9 hXh (y_L_unit_1 l hlS E (nb o) o z (xs (4*j + 1)) (xs (4*j + 2)) (o + 483) x9 hI g1 (by omega)) gL_law_L_unit rfl hd_L_unit ⟨rfl, rfl⟩ ⟨Nat.le_of_ble_eq_true rfl, Nat.le_of_ble_eq_true rfl⟩ ⟨hWG, hWQ, hWO⟩ rfl hl.1 rfl (Nat.le_of_ble_eq_true rfl) dL_law_1081 ⟨by show _ ≤ 601024; omega, by show _ ≤ 7293034; omega⟩ hS (fun q h => by show o ≤ q; have := h.1; omega) (fun q h => by show o ≤ q; have := h.1; omega) (fun H locs hQ zH fH hS => ?_)
    have hR0 := hQ
    have hV1 := hR0
    have hk0 := bo_fr2 hWB (fun q hz hq => fH q hz (bl_ne hq (by omega)))
    have hk1 := gg_fr2 hWG (fun q hz hq => fH q hz (bl_ne hq (by omega)))
    have hk2 := md_fr2 hWM (fun q hz hq => fH q hz (bl_ne hq (by omega)))
    have hk4 := dz_fr2 hWQ (fun q hz hq => fH q hz (bl_ne hq (by omega)))
    have hk5 := tr_fr2 hWT (fun q hz hq => fH q hz (bl_ne hq (by omega)))
    have hk6 := hy_fr2 hWY (fun q hz hq => fH q hz (bl_ne hq (by omega)))
    refine lv_istore (lv' := [(5, .int (nI 1)), (0, .ref b), (1, .ref o), (2, .ref (o + 477)), (3, .ref (o + 483)), (4, .int (nI (4*j)))]) hx hb dL_law_1084 hl (by decide) rfl (fun ls hl => ?_)
    refine lv_aload_n hx hb dL_law_1086 rfl (lv_at hl 3 rfl) ?_
    refine lv_aload_n hx hb dL_law_1087 rfl (lv_at hl 1 rfl) ?_
    refine lv_iload hx hb dL_law_1088 (lv_at hl 5 rfl) ?_
    refine lv_iconst (v := nI 1) hx hb dL_law_1090 (by decide) ?_
    refine n_iadd (n := 4*j + 1) hx hb dL_law_1091 (by omega) ?_
    refine va_sld hx hb hX hbl hbA hS (vp_in_nI (by omega) (by omega)) dL_law_1092 ?_
    refine k_top (y := xs (4*j + 1)) (by rw [nI_clamp (by omega)]) ?_
    refine lv_aload_n hx hb dL_law_1093 rfl (lv_at hl 1 rfl) ?_
    refine lv_iload hx hb dL_law_1094 (lv_at hl 5 rfl) ?_
    refine lv_iconst (v := nI 2) hx hb dL_law_1096 (by decide) ?_
    refine n_iadd (n := 4*j + 2) hx hb dL_law_1097 (by omega) ?_
    refine va_sld hx hb hX hbl hbA hS (vp_in_nI (by omega) (by omega)) dL_law_1098 ?_
    refine k_top (y := xs (4*j + 2)) (by rw [nI_clamp (by omega)]) ?_
    refine k_VM (As := [.int (xs (4*j + 1)), .int (xs (4*j + 2))]) (rest := []) S hK (c_X7_unit_f1 l E (o + 477) z w (xs (4*j + 1)) (xs (4*j + 2)) hI g1) gL_law_X7_unit rfl hd_X7_unit ⟨rfl, rfl⟩ ⟨Nat.le_of_ble_eq_true rfl, Nat.le_of_ble_eq_true rfl⟩ (k_recv hK hk2.1 rfl) hk2 rfl hl.1 rfl (Nat.le_of_ble_eq_true rfl) dL_law_1099 ⟨by show _ ≤ 601024; omega, by show _ ≤ 7293034; omega⟩ hS (fun q h => by show o ≤ q; have := h.1; omega) (fun q h => by show o ≤ q; have := h.1; omega) (fun H locs hQ zH fH hS => ?_)
    have hP := hQ
    have hV2 := hP
    have hk0 := bo_fr2 hk0 (fun q hz hq => fH q hz (bl_ne hq (by omega)))
    have hk1 := gg_fr2 hk1 (fun q hz hq => fH q hz (bl_ne hq (by omega)))
    have hk3 := la_fr2 hV1 (fun q hz hq => fH q hz (bl_ne hq (by omega)))
    have hk4 := dz_fr2 hk4 (fun q hz hq => fH q hz (bl_ne hq (by omega)))
    have hk5 := tr_fr2 hk5 (fun q hz hq => fH q hz (bl_ne hq (by omega)))
    have hk6 := hy_fr2 hk6 (fun q hz hq => fH q hz (bl_ne hq (by omega)))
    refine lv_istore (lv' := [(6, .int (nI 0)), (5, .int (nI 1)), (0, .ref b), (1, .ref o), (2, .ref (o + 477)), (3, .ref (o + 483)), (4, .int (nI (4*j)))]) hx hb dL_law_1102 hl (by decide) rfl (fun ls hl => ?_)
    refine lv_aload_n hx hb dL_law_1104 rfl (lv_at hl 4 rfl) ?_
    refine k_V (As := []) (rest := []) S hK (c_X7_thrown l E (o + 477) z (w_th w (nI 1))) gL_law_X7_thrown rfl hd_X7_thrown ⟨rfl, rfl⟩ ⟨Nat.le_of_ble_eq_true rfl, Nat.le_of_ble_eq_true rfl⟩ (k_recv hK hV2.1 rfl) hV2 rfl hl.1 rfl (Nat.le_of_ble_eq_true rfl) dL_law_1105 ⟨by show _ ≤ 601024; omega, by show _ ≤ 7293034; omega⟩ ?_
    refine k_top (y := nI 1) rfl ?_
    refine lv_iload hx hb dL_law_1108 (lv_at hl 1 rfl) ?_
    refine n_ieq (tgt := 1115) hx hb dL_law_1110 (by decide) (by omega) (by omega) (fun c1110 => ?_) (fun h => absurd h (by decide))
    refine lv_iload hx hb dL_law_1115 (lv_at hl 1 rfl) ?_
    refine lv_if_ne (tgt := 1132) hx hb dL_law_1117 (by decide) (fun c1117 => ?_) (fun h => absurd h (by decide))
    refine lv_goto (tgt := 1824) hx hb dL_law_1132 (by decide) ?_
    refine W.widen (k := 484 + (j + 1)) (n := 5828 + 6*(j + 1)) (by omega) (by omega) ?_
    exact T z (w_th w (nI 1)) sn bn _ _ _ hPI (LI_mk hk1 hk4 hk5 hk6 hk0 hV2 hk3) hS (lv_sub hl [2, 3, 4, 5, 6] rfl)
set_option maxHeartbeats 4000000 in
set_option maxRecDepth 100000 in
theorem law_17 {p : Program} {l : Launch} {e : Env} {s : State} {m : MethodId} {below : List Frame} {meth : Method} {c : Code} {E : ke_E} {b o L j : Nat} {xs : Nat → Int32} {Q : State → Prop} (C : LC9 p l s m c E b o L xs) (hj : 4*j + 4 ≤ L) (T : LT9 p l e s m below meth c E b o j Q) : ∀ (z : Nat → Int32) (w : md_w) (sn bn : Nat) (H : Heap) (locs : List Loc) (ls : Array Slot), PI9 z w sn bn → LI9 E o z w sn bn H → va_S (nb o) s.heap H locs → lv_has ls 9 [(0, .ref b), (1, .ref o), (2, .ref (o + 477)), (3, .ref (o + 483)), (4, .int (nI (4*j)))] → W p l e room_1 s m #[.ref b] below meth c H locs (484 + j) (5828 + 6*j) Q (F0 m 1135 ls []) := by
  intro z w sn bn H locs ls hPI hLI hS hl
  obtain ⟨S, hlS, hK, hX9, hXh, hX, hbo, hsz9, hL⟩ := C
  have hx := S.1
  have hb := S.2.1
  have hts := S.2.2.2.2
  obtain ⟨hs, hsn, hbm, hbn, hk9, hrows⟩ := id hPI
  have hI := hk9.1
  have hJ := hk9.2.1
  have hpw := hk9.2.2
  have hc20 := iv_c hI
  obtain ⟨hWG, hWQ, hWT, hWY, hWB, hWM, x9, hWO⟩ := hLI
  have hbl : b < s.heap.size := by omega
  have hbA : ¬ nb o b := by show ¬ o ≤ b; omega
  by_cases g1 : inR (xs (4*j + 1)) 6
  · obtain ⟨q, hq, eq⟩ := g1
    by_cases g2 : inR (xs (4*j + 2)) 6
    · obtain ⟨k, hk, ek⟩ := g2
      refine lv_aload_n hx hb dL_law_1135 rfl (lv_at hl 1 rfl) ?_
      refine lv_aload_n hx hb dL_law_1136 rfl (lv_at hl 0 rfl) ?_
      refine lv_iload hx hb dL_law_1137 (lv_at hl 4 rfl) ?_
      refine lv_iconst (v := nI 1) hx hb dL_law_1139 (by decide) ?_
      refine n_iadd (n := 4*j + 1) hx hb dL_law_1140 (by omega) ?_
      refine va_sld hx hb hX hbl hbA hS (vp_in_nI (by omega) (by omega)) dL_law_1141 ?_
      refine k_top (y := nI q) (by rw [nI_clamp (by omega)]; exact eq) ?_
      refine lv_aload_n hx hb dL_law_1142 rfl (lv_at hl 0 rfl) ?_
      refine lv_iload hx hb dL_law_1143 (lv_at hl 4 rfl) ?_
      refine lv_iconst (v := nI 2) hx hb dL_law_1145 (by decide) ?_
      refine n_iadd (n := 4*j + 2) hx hb dL_law_1146 (by omega) ?_
      refine va_sld hx hb hX hbl hbA hS (vp_in_nI (by omega) (by omega)) dL_law_1147 ?_
      refine k_top (y := nI k) (by rw [nI_clamp (by omega)]; exact ek) ?_
      refine lv_aload_n hx hb dL_law_1148 rfl (lv_at hl 3 rfl) ?_
      refine l_SW (As := [.ref o, .int (nI q), .int (nI k), .ref (o + 483)]) (rest := []) S hK hX9 hXh (c_L_productOf l hlS E (nb o) o z q k (o + 483) x9 hI hq hk (by omega)) gL_law_L_productOf rfl hd_L_productOf ⟨rfl, rfl⟩ ⟨Nat.le_of_ble_eq_true rfl, Nat.le_of_ble_eq_true rfl⟩ ⟨hWG, hWQ, hWO⟩ rfl hl.1 rfl (Nat.le_of_ble_eq_true rfl) dL_law_1149 ⟨by show _ ≤ 601024; omega, by show _ ≤ 7293034; omega⟩ hS (fun q h => by show o ≤ q; have := h.1; omega) (fun q h => by show o ≤ q; have := h.1; omega) (fun H locs hQ zH fH hS => ?_)
      have hR0 := hQ
      have hV1 := hR0
      have hk0 := bo_fr2 hWB (fun q hz hq => fH q hz (bl_ne hq (by omega)))
      have hk1 := gg_fr2 hWG (fun q hz hq => fH q hz (bl_ne hq (by omega)))
      have hk2 := md_fr2 hWM (fun q hz hq => fH q hz (bl_ne hq (by omega)))
      have hk4 := dz_fr2 hWQ (fun q hz hq => fH q hz (bl_ne hq (by omega)))
      have hk5 := tr_fr2 hWT (fun q hz hq => fH q hz (bl_ne hq (by omega)))
      have hk6 := hy_fr2 hWY (fun q hz hq => fH q hz (bl_ne hq (by omega)))
      refine lv_istore (lv' := [(5, .int (nI 0)), (0, .ref b), (1, .ref o), (2, .ref (o + 477)), (3, .ref (o + 483)), (4, .int (nI (4*j)))]) hx hb dL_law_1152 hl (by decide) rfl (fun ls hl => ?_)
      refine lv_aload_n hx hb dL_law_1154 rfl (lv_at hl 3 rfl) ?_
      refine lv_aload_n hx hb dL_law_1155 rfl (lv_at hl 1 rfl) ?_
      refine lv_iload hx hb dL_law_1156 (lv_at hl 5 rfl) ?_
      refine lv_iconst (v := nI 1) hx hb dL_law_1158 (by decide) ?_
      refine n_iadd (n := 4*j + 1) hx hb dL_law_1159 (by omega) ?_
      refine va_sld hx hb hX hbl hbA hS (vp_in_nI (by omega) (by omega)) dL_law_1160 ?_
      refine k_top (y := nI q) (by rw [nI_clamp (by omega)]; exact eq) ?_
      refine lv_aload_n hx hb dL_law_1161 rfl (lv_at hl 1 rfl) ?_
      refine lv_iload hx hb dL_law_1162 (lv_at hl 5 rfl) ?_
      refine lv_iconst (v := nI 2) hx hb dL_law_1164 (by decide) ?_
      refine n_iadd (n := 4*j + 2) hx hb dL_law_1165 (by omega) ?_
      refine va_sld hx hb hX hbl hbA hS (vp_in_nI (by omega) (by omega)) dL_law_1166 ?_
      refine k_top (y := nI k) (by rw [nI_clamp (by omega)]; exact ek) ?_
      refine k_VM (As := [.int (nI q), .int (nI k)]) (rest := []) S hK (c_X7_productOf l E (o + 477) z w q k hI hq hk) gL_law_X7_productOf rfl hd_X7_productOf ⟨rfl, rfl⟩ ⟨Nat.le_of_ble_eq_true rfl, Nat.le_of_ble_eq_true rfl⟩ (k_recv hK hk2.1 rfl) hk2 rfl hl.1 rfl (Nat.le_of_ble_eq_true rfl) dL_law_1167 ⟨by show _ ≤ 601024; omega, by show _ ≤ 7293034; omega⟩ hS (fun q h => by show o ≤ q; have := h.1; omega) (fun q h => by show o ≤ q; have := h.1; omega) (fun H locs hQ zH fH hS => ?_)
      have hP := hQ
      have hV2 := hP
      have hk0 := bo_fr2 hk0 (fun q hz hq => fH q hz (bl_ne hq (by omega)))
      have hk1 := gg_fr2 hk1 (fun q hz hq => fH q hz (bl_ne hq (by omega)))
      have hk3 := la_fr2 hV1 (fun q hz hq => fH q hz (bl_ne hq (by omega)))
      have hk4 := dz_fr2 hk4 (fun q hz hq => fH q hz (bl_ne hq (by omega)))
      have hk5 := tr_fr2 hk5 (fun q hz hq => fH q hz (bl_ne hq (by omega)))
      have hk6 := hy_fr2 hk6 (fun q hz hq => fH q hz (bl_ne hq (by omega)))
      refine lv_istore (lv' := [(6, .int (gdV z q k)), (5, .int (nI 0)), (0, .ref b), (1, .ref o), (2, .ref (o + 477)), (3, .ref (o + 483)), (4, .int (nI (4*j)))]) hx hb dL_law_1170 hl (by decide) rfl (fun ls hl => ?_)
      refine lv_aload_n hx hb dL_law_1172 rfl (lv_at hl 4 rfl) ?_
      refine k_V (As := []) (rest := []) S hK (c_X7_thrown l E (o + 477) z (w_th w (nI 0))) gL_law_X7_thrown rfl hd_X7_thrown ⟨rfl, rfl⟩ ⟨Nat.le_of_ble_eq_true rfl, Nat.le_of_ble_eq_true rfl⟩ (k_recv hK hV2.1 rfl) hV2 rfl hl.1 rfl (Nat.le_of_ble_eq_true rfl) dL_law_1173 ⟨by show _ ≤ 601024; omega, by show _ ≤ 7293034; omega⟩ ?_
      refine k_top (y := nI 0) rfl ?_
      refine lv_iload hx hb dL_law_1176 (lv_at hl 1 rfl) ?_
      refine n_ieq (tgt := 1183) hx hb dL_law_1178 (by decide) (by omega) (by omega) (fun c1178 => ?_) (fun h => absurd h (by decide))
      refine lv_iload hx hb dL_law_1183 (lv_at hl 1 rfl) ?_
      refine lv_if_ne (tgt := 1200) hx hb dL_law_1185 (by decide) (fun h => absurd h (by decide)) (fun c1185 => ?_)
      refine lv_aload_n hx hb dL_law_1188 rfl (lv_at hl 5 rfl) ?_
      refine lv_iconst (v := nI 0) hx hb dL_law_1189 (by decide) ?_
      refine l_lald hx hb hK hk3 dL_law_1190 ?_
      refine lv_iload hx hb dL_law_1191 (lv_at hl 0 rfl) ?_
      refine lv_i2l hx hb dL_law_1193 rfl ?_
      refine l_lcmp hx hb dL_law_1194 ?_
      refine lv_if_eq (tgt := 1200) hx hb dL_law_1195 (by decide) (fun c1195 => ?_) (fun h => absurd h (by decide))
      refine lv_goto (tgt := 1824) hx hb dL_law_1200 (by decide) ?_
      refine W.widen (k := 484 + (j + 1)) (n := 5828 + 6*(j + 1)) (by omega) (by omega) ?_
      exact T z (w_th w (nI 0)) sn bn _ _ _ hPI (LI_mk hk1 hk4 hk5 hk6 hk0 hV2 hk3) hS (lv_sub hl [2, 3, 4, 5, 6] rfl)
    · refine lv_aload_n hx hb dL_law_1135 rfl (lv_at hl 1 rfl) ?_
      refine lv_aload_n hx hb dL_law_1136 rfl (lv_at hl 0 rfl) ?_
      refine lv_iload hx hb dL_law_1137 (lv_at hl 4 rfl) ?_
      refine lv_iconst (v := nI 1) hx hb dL_law_1139 (by decide) ?_
      refine n_iadd (n := 4*j + 1) hx hb dL_law_1140 (by omega) ?_
      refine va_sld hx hb hX hbl hbA hS (vp_in_nI (by omega) (by omega)) dL_law_1141 ?_
      refine k_top (y := nI q) (by rw [nI_clamp (by omega)]; exact eq) ?_
      refine lv_aload_n hx hb dL_law_1142 rfl (lv_at hl 0 rfl) ?_
      refine lv_iload hx hb dL_law_1143 (lv_at hl 4 rfl) ?_
      refine lv_iconst (v := nI 2) hx hb dL_law_1145 (by decide) ?_
      refine n_iadd (n := 4*j + 2) hx hb dL_law_1146 (by omega) ?_
      refine va_sld hx hb hX hbl hbA hS (vp_in_nI (by omega) (by omega)) dL_law_1147 ?_
      refine k_top (y := xs (4*j + 2)) (by rw [nI_clamp (by omega)]) ?_
      refine lv_aload_n hx hb dL_law_1148 rfl (lv_at hl 3 rfl) ?_
      refine l_SW (As := [.ref o, .int (nI q), .int (xs (4*j + 2)), .ref (o + 483)]) (rest := []) S hK hX9 hXh (y_L_productOf_2 l hlS E (nb o) o z q (xs (4*j + 2)) (o + 483) x9 hI hq g2 (by omega)) gL_law_L_productOf rfl hd_L_productOf ⟨rfl, rfl⟩ ⟨Nat.le_of_ble_eq_true rfl, Nat.le_of_ble_eq_true rfl⟩ ⟨hWG, hWQ, hWO⟩ rfl hl.1 rfl (Nat.le_of_ble_eq_true rfl) dL_law_1149 ⟨by show _ ≤ 601024; omega, by show _ ≤ 7293034; omega⟩ hS (fun q h => by show o ≤ q; have := h.1; omega) (fun q h => by show o ≤ q; have := h.1; omega) (fun H locs hQ zH fH hS => ?_)
      have hR0 := hQ
      have hV1 := hR0
      have hk0 := bo_fr2 hWB (fun q hz hq => fH q hz (bl_ne hq (by omega)))
      have hk1 := gg_fr2 hWG (fun q hz hq => fH q hz (bl_ne hq (by omega)))
      have hk2 := md_fr2 hWM (fun q hz hq => fH q hz (bl_ne hq (by omega)))
      have hk4 := dz_fr2 hWQ (fun q hz hq => fH q hz (bl_ne hq (by omega)))
      have hk5 := tr_fr2 hWT (fun q hz hq => fH q hz (bl_ne hq (by omega)))
      have hk6 := hy_fr2 hWY (fun q hz hq => fH q hz (bl_ne hq (by omega)))
      refine lv_istore (lv' := [(5, .int (nI 2)), (0, .ref b), (1, .ref o), (2, .ref (o + 477)), (3, .ref (o + 483)), (4, .int (nI (4*j)))]) hx hb dL_law_1152 hl (by decide) rfl (fun ls hl => ?_)
      refine lv_aload_n hx hb dL_law_1154 rfl (lv_at hl 3 rfl) ?_
      refine lv_aload_n hx hb dL_law_1155 rfl (lv_at hl 1 rfl) ?_
      refine lv_iload hx hb dL_law_1156 (lv_at hl 5 rfl) ?_
      refine lv_iconst (v := nI 1) hx hb dL_law_1158 (by decide) ?_
      refine n_iadd (n := 4*j + 1) hx hb dL_law_1159 (by omega) ?_
      refine va_sld hx hb hX hbl hbA hS (vp_in_nI (by omega) (by omega)) dL_law_1160 ?_
      refine k_top (y := nI q) (by rw [nI_clamp (by omega)]; exact eq) ?_
      refine lv_aload_n hx hb dL_law_1161 rfl (lv_at hl 1 rfl) ?_
      refine lv_iload hx hb dL_law_1162 (lv_at hl 5 rfl) ?_
      refine lv_iconst (v := nI 2) hx hb dL_law_1164 (by decide) ?_
      refine n_iadd (n := 4*j + 2) hx hb dL_law_1165 (by omega) ?_
      refine va_sld hx hb hX hbl hbA hS (vp_in_nI (by omega) (by omega)) dL_law_1166 ?_
      refine k_top (y := xs (4*j + 2)) (by rw [nI_clamp (by omega)]) ?_
      refine k_VM (As := [.int (nI q), .int (xs (4*j + 2))]) (rest := []) S hK (c_X7_productOf_f2 l E (o + 477) z w q (xs (4*j + 2)) hI hq g2) gL_law_X7_productOf rfl hd_X7_productOf ⟨rfl, rfl⟩ ⟨Nat.le_of_ble_eq_true rfl, Nat.le_of_ble_eq_true rfl⟩ (k_recv hK hk2.1 rfl) hk2 rfl hl.1 rfl (Nat.le_of_ble_eq_true rfl) dL_law_1167 ⟨by show _ ≤ 601024; omega, by show _ ≤ 7293034; omega⟩ hS (fun q h => by show o ≤ q; have := h.1; omega) (fun q h => by show o ≤ q; have := h.1; omega) (fun H locs hQ zH fH hS => ?_)
      have hP := hQ
      have hV2 := hP
      have hk0 := bo_fr2 hk0 (fun q hz hq => fH q hz (bl_ne hq (by omega)))
      have hk1 := gg_fr2 hk1 (fun q hz hq => fH q hz (bl_ne hq (by omega)))
      have hk3 := la_fr2 hV1 (fun q hz hq => fH q hz (bl_ne hq (by omega)))
      have hk4 := dz_fr2 hk4 (fun q hz hq => fH q hz (bl_ne hq (by omega)))
      have hk5 := tr_fr2 hk5 (fun q hz hq => fH q hz (bl_ne hq (by omega)))
      have hk6 := hy_fr2 hk6 (fun q hz hq => fH q hz (bl_ne hq (by omega)))
      refine lv_istore (lv' := [(6, .int (nI 0)), (5, .int (nI 2)), (0, .ref b), (1, .ref o), (2, .ref (o + 477)), (3, .ref (o + 483)), (4, .int (nI (4*j)))]) hx hb dL_law_1170 hl (by decide) rfl (fun ls hl => ?_)
      refine lv_aload_n hx hb dL_law_1172 rfl (lv_at hl 4 rfl) ?_
      refine k_V (As := []) (rest := []) S hK (c_X7_thrown l E (o + 477) z (w_th w (nI 2))) gL_law_X7_thrown rfl hd_X7_thrown ⟨rfl, rfl⟩ ⟨Nat.le_of_ble_eq_true rfl, Nat.le_of_ble_eq_true rfl⟩ (k_recv hK hV2.1 rfl) hV2 rfl hl.1 rfl (Nat.le_of_ble_eq_true rfl) dL_law_1173 ⟨by show _ ≤ 601024; omega, by show _ ≤ 7293034; omega⟩ ?_
      refine k_top (y := nI 2) rfl ?_
      refine lv_iload hx hb dL_law_1176 (lv_at hl 1 rfl) ?_
      refine n_ieq (tgt := 1183) hx hb dL_law_1178 (by decide) (by omega) (by omega) (fun c1178 => ?_) (fun h => absurd h (by decide))
      refine lv_iload hx hb dL_law_1183 (lv_at hl 1 rfl) ?_
      refine lv_if_ne (tgt := 1200) hx hb dL_law_1185 (by decide) (fun c1185 => ?_) (fun h => absurd h (by decide))
      refine lv_goto (tgt := 1824) hx hb dL_law_1200 (by decide) ?_
      refine W.widen (k := 484 + (j + 1)) (n := 5828 + 6*(j + 1)) (by omega) (by omega) ?_
      exact T z (w_th w (nI 2)) sn bn _ _ _ hPI (LI_mk hk1 hk4 hk5 hk6 hk0 hV2 hk3) hS (lv_sub hl [2, 3, 4, 5, 6] rfl)
  · refine lv_aload_n hx hb dL_law_1135 rfl (lv_at hl 1 rfl) ?_
    refine lv_aload_n hx hb dL_law_1136 rfl (lv_at hl 0 rfl) ?_
    refine lv_iload hx hb dL_law_1137 (lv_at hl 4 rfl) ?_
    refine lv_iconst (v := nI 1) hx hb dL_law_1139 (by decide) ?_
    refine n_iadd (n := 4*j + 1) hx hb dL_law_1140 (by omega) ?_
    refine va_sld hx hb hX hbl hbA hS (vp_in_nI (by omega) (by omega)) dL_law_1141 ?_
    refine k_top (y := xs (4*j + 1)) (by rw [nI_clamp (by omega)]) ?_
    refine lv_aload_n hx hb dL_law_1142 rfl (lv_at hl 0 rfl) ?_
    refine lv_iload hx hb dL_law_1143 (lv_at hl 4 rfl) ?_
    refine lv_iconst (v := nI 2) hx hb dL_law_1145 (by decide) ?_
    refine n_iadd (n := 4*j + 2) hx hb dL_law_1146 (by omega) ?_
    refine va_sld hx hb hX hbl hbA hS (vp_in_nI (by omega) (by omega)) dL_law_1147 ?_
    refine k_top (y := xs (4*j + 2)) (by rw [nI_clamp (by omega)]) ?_
    refine lv_aload_n hx hb dL_law_1148 rfl (lv_at hl 3 rfl) ?_
    refine l_SW (As := [.ref o, .int (xs (4*j + 1)), .int (xs (4*j + 2)), .ref (o + 483)]) (rest := []) S hK hX9 hXh (y_L_productOf_1 l hlS E (nb o) o z (xs (4*j + 1)) (xs (4*j + 2)) (o + 483) x9 hI g1 (by omega)) gL_law_L_productOf rfl hd_L_productOf ⟨rfl, rfl⟩ ⟨Nat.le_of_ble_eq_true rfl, Nat.le_of_ble_eq_true rfl⟩ ⟨hWG, hWQ, hWO⟩ rfl hl.1 rfl (Nat.le_of_ble_eq_true rfl) dL_law_1149 ⟨by show _ ≤ 601024; omega, by show _ ≤ 7293034; omega⟩ hS (fun q h => by show o ≤ q; have := h.1; omega) (fun q h => by show o ≤ q; have := h.1; omega) (fun H locs hQ zH fH hS => ?_)
    have hR0 := hQ
    have hV1 := hR0
    have hk0 := bo_fr2 hWB (fun q hz hq => fH q hz (bl_ne hq (by omega)))
    have hk1 := gg_fr2 hWG (fun q hz hq => fH q hz (bl_ne hq (by omega)))
    have hk2 := md_fr2 hWM (fun q hz hq => fH q hz (bl_ne hq (by omega)))
    have hk4 := dz_fr2 hWQ (fun q hz hq => fH q hz (bl_ne hq (by omega)))
    have hk5 := tr_fr2 hWT (fun q hz hq => fH q hz (bl_ne hq (by omega)))
    have hk6 := hy_fr2 hWY (fun q hz hq => fH q hz (bl_ne hq (by omega)))
    refine lv_istore (lv' := [(5, .int (nI 1)), (0, .ref b), (1, .ref o), (2, .ref (o + 477)), (3, .ref (o + 483)), (4, .int (nI (4*j)))]) hx hb dL_law_1152 hl (by decide) rfl (fun ls hl => ?_)
    refine lv_aload_n hx hb dL_law_1154 rfl (lv_at hl 3 rfl) ?_
    refine lv_aload_n hx hb dL_law_1155 rfl (lv_at hl 1 rfl) ?_
    refine lv_iload hx hb dL_law_1156 (lv_at hl 5 rfl) ?_
    refine lv_iconst (v := nI 1) hx hb dL_law_1158 (by decide) ?_
    refine n_iadd (n := 4*j + 1) hx hb dL_law_1159 (by omega) ?_
    refine va_sld hx hb hX hbl hbA hS (vp_in_nI (by omega) (by omega)) dL_law_1160 ?_
    refine k_top (y := xs (4*j + 1)) (by rw [nI_clamp (by omega)]) ?_
    refine lv_aload_n hx hb dL_law_1161 rfl (lv_at hl 1 rfl) ?_
    refine lv_iload hx hb dL_law_1162 (lv_at hl 5 rfl) ?_
    refine lv_iconst (v := nI 2) hx hb dL_law_1164 (by decide) ?_
    refine n_iadd (n := 4*j + 2) hx hb dL_law_1165 (by omega) ?_
    refine va_sld hx hb hX hbl hbA hS (vp_in_nI (by omega) (by omega)) dL_law_1166 ?_
    refine k_top (y := xs (4*j + 2)) (by rw [nI_clamp (by omega)]) ?_
    refine k_VM (As := [.int (xs (4*j + 1)), .int (xs (4*j + 2))]) (rest := []) S hK (c_X7_productOf_f1 l E (o + 477) z w (xs (4*j + 1)) (xs (4*j + 2)) hI g1) gL_law_X7_productOf rfl hd_X7_productOf ⟨rfl, rfl⟩ ⟨Nat.le_of_ble_eq_true rfl, Nat.le_of_ble_eq_true rfl⟩ (k_recv hK hk2.1 rfl) hk2 rfl hl.1 rfl (Nat.le_of_ble_eq_true rfl) dL_law_1167 ⟨by show _ ≤ 601024; omega, by show _ ≤ 7293034; omega⟩ hS (fun q h => by show o ≤ q; have := h.1; omega) (fun q h => by show o ≤ q; have := h.1; omega) (fun H locs hQ zH fH hS => ?_)
    have hP := hQ
    have hV2 := hP
    have hk0 := bo_fr2 hk0 (fun q hz hq => fH q hz (bl_ne hq (by omega)))
    have hk1 := gg_fr2 hk1 (fun q hz hq => fH q hz (bl_ne hq (by omega)))
    have hk3 := la_fr2 hV1 (fun q hz hq => fH q hz (bl_ne hq (by omega)))
    have hk4 := dz_fr2 hk4 (fun q hz hq => fH q hz (bl_ne hq (by omega)))
    have hk5 := tr_fr2 hk5 (fun q hz hq => fH q hz (bl_ne hq (by omega)))
    have hk6 := hy_fr2 hk6 (fun q hz hq => fH q hz (bl_ne hq (by omega)))
    refine lv_istore (lv' := [(6, .int (nI 0)), (5, .int (nI 1)), (0, .ref b), (1, .ref o), (2, .ref (o + 477)), (3, .ref (o + 483)), (4, .int (nI (4*j)))]) hx hb dL_law_1170 hl (by decide) rfl (fun ls hl => ?_)
    refine lv_aload_n hx hb dL_law_1172 rfl (lv_at hl 4 rfl) ?_
    refine k_V (As := []) (rest := []) S hK (c_X7_thrown l E (o + 477) z (w_th w (nI 1))) gL_law_X7_thrown rfl hd_X7_thrown ⟨rfl, rfl⟩ ⟨Nat.le_of_ble_eq_true rfl, Nat.le_of_ble_eq_true rfl⟩ (k_recv hK hV2.1 rfl) hV2 rfl hl.1 rfl (Nat.le_of_ble_eq_true rfl) dL_law_1173 ⟨by show _ ≤ 601024; omega, by show _ ≤ 7293034; omega⟩ ?_
    refine k_top (y := nI 1) rfl ?_
    refine lv_iload hx hb dL_law_1176 (lv_at hl 1 rfl) ?_
    refine n_ieq (tgt := 1183) hx hb dL_law_1178 (by decide) (by omega) (by omega) (fun c1178 => ?_) (fun h => absurd h (by decide))
    refine lv_iload hx hb dL_law_1183 (lv_at hl 1 rfl) ?_
    refine lv_if_ne (tgt := 1200) hx hb dL_law_1185 (by decide) (fun c1185 => ?_) (fun h => absurd h (by decide))
    refine lv_goto (tgt := 1824) hx hb dL_law_1200 (by decide) ?_
    refine W.widen (k := 484 + (j + 1)) (n := 5828 + 6*(j + 1)) (by omega) (by omega) ?_
    exact T z (w_th w (nI 1)) sn bn _ _ _ hPI (LI_mk hk1 hk4 hk5 hk6 hk0 hV2 hk3) hS (lv_sub hl [2, 3, 4, 5, 6] rfl)
set_option maxHeartbeats 4000000 in
set_option maxRecDepth 100000 in
theorem law_18 {p : Program} {l : Launch} {e : Env} {s : State} {m : MethodId} {below : List Frame} {meth : Method} {c : Code} {E : ke_E} {b o L j : Nat} {xs : Nat → Int32} {Q : State → Prop} (C : LC9 p l s m c E b o L xs) (hj : 4*j + 4 ≤ L) (T : LT9 p l e s m below meth c E b o j Q) : ∀ (z : Nat → Int32) (w : md_w) (sn bn : Nat) (H : Heap) (locs : List Loc) (ls : Array Slot), PI9 z w sn bn → LI9 E o z w sn bn H → va_S (nb o) s.heap H locs → lv_has ls 9 [(0, .ref b), (1, .ref o), (2, .ref (o + 477)), (3, .ref (o + 483)), (4, .int (nI (4*j)))] → W p l e room_1 s m #[.ref b] below meth c H locs (484 + j) (5828 + 6*j) Q (F0 m 1203 ls []) := by
  intro z w sn bn H locs ls hPI hLI hS hl
  obtain ⟨S, hlS, hK, hX9, hXh, hX, hbo, hsz9, hL⟩ := C
  have hx := S.1
  have hb := S.2.1
  have hts := S.2.2.2.2
  obtain ⟨hs, hsn, hbm, hbn, hk9, hrows⟩ := id hPI
  have hI := hk9.1
  have hJ := hk9.2.1
  have hpw := hk9.2.2
  have hc20 := iv_c hI
  obtain ⟨hWG, hWQ, hWT, hWY, hWB, hWM, x9, hWO⟩ := hLI
  have hbl : b < s.heap.size := by omega
  have hbA : ¬ nb o b := by show ¬ o ≤ b; omega
  by_cases g1 : inR (xs (4*j + 1)) 4
  · obtain ⟨v, hv, ev⟩ := g1
    by_cases g2 : inR (xs (4*j + 2)) 10
    · obtain ⟨k, hk, ek⟩ := g2
      refine lv_aload_n hx hb dL_law_1203 rfl (lv_at hl 1 rfl) ?_
      refine lv_aload_n hx hb dL_law_1204 rfl (lv_at hl 0 rfl) ?_
      refine lv_iload hx hb dL_law_1205 (lv_at hl 4 rfl) ?_
      refine lv_iconst (v := nI 1) hx hb dL_law_1207 (by decide) ?_
      refine n_iadd (n := 4*j + 1) hx hb dL_law_1208 (by omega) ?_
      refine va_sld hx hb hX hbl hbA hS (vp_in_nI (by omega) (by omega)) dL_law_1209 ?_
      refine k_top (y := nI v) (by rw [nI_clamp (by omega)]; exact ev) ?_
      refine lv_aload_n hx hb dL_law_1210 rfl (lv_at hl 0 rfl) ?_
      refine lv_iload hx hb dL_law_1211 (lv_at hl 4 rfl) ?_
      refine lv_iconst (v := nI 2) hx hb dL_law_1213 (by decide) ?_
      refine n_iadd (n := 4*j + 2) hx hb dL_law_1214 (by omega) ?_
      refine va_sld hx hb hX hbl hbA hS (vp_in_nI (by omega) (by omega)) dL_law_1215 ?_
      refine k_top (y := nI k) (by rw [nI_clamp (by omega)]; exact ek) ?_
      refine lv_aload_n hx hb dL_law_1216 rfl (lv_at hl 3 rfl) ?_
      refine l_SW (As := [.ref o, .int (nI v), .int (nI k), .ref (o + 483)]) (rest := []) S hK hX9 hXh (c_L_vendor l hlS E (nb o) o z v k (o + 483) x9 hI hv hk (by omega)) gL_law_L_vendor rfl hd_L_vendor ⟨rfl, rfl⟩ ⟨Nat.le_of_ble_eq_true rfl, Nat.le_of_ble_eq_true rfl⟩ ⟨hWG, hWQ, hWO⟩ rfl hl.1 rfl (Nat.le_of_ble_eq_true rfl) dL_law_1217 ⟨by show _ ≤ 601024; omega, by show _ ≤ 7293034; omega⟩ hS (fun q h => by show o ≤ q; have := h.1; omega) (fun q h => by show o ≤ q; have := h.1; omega) (fun H locs hQ zH fH hS => ?_)
      have hR0 := hQ
      have hV1 := hR0
      have hk0 := bo_fr2 hWB (fun q hz hq => fH q hz (bl_ne hq (by omega)))
      have hk1 := gg_fr2 hWG (fun q hz hq => fH q hz (bl_ne hq (by omega)))
      have hk2 := md_fr2 hWM (fun q hz hq => fH q hz (bl_ne hq (by omega)))
      have hk4 := dz_fr2 hWQ (fun q hz hq => fH q hz (bl_ne hq (by omega)))
      have hk5 := tr_fr2 hWT (fun q hz hq => fH q hz (bl_ne hq (by omega)))
      have hk6 := hy_fr2 hWY (fun q hz hq => fH q hz (bl_ne hq (by omega)))
      refine lv_istore (lv' := [(5, .int (nI 0)), (0, .ref b), (1, .ref o), (2, .ref (o + 477)), (3, .ref (o + 483)), (4, .int (nI (4*j)))]) hx hb dL_law_1220 hl (by decide) rfl (fun ls hl => ?_)
      refine lv_aload_n hx hb dL_law_1222 rfl (lv_at hl 3 rfl) ?_
      refine lv_aload_n hx hb dL_law_1223 rfl (lv_at hl 1 rfl) ?_
      refine lv_iload hx hb dL_law_1224 (lv_at hl 5 rfl) ?_
      refine lv_iconst (v := nI 1) hx hb dL_law_1226 (by decide) ?_
      refine n_iadd (n := 4*j + 1) hx hb dL_law_1227 (by omega) ?_
      refine va_sld hx hb hX hbl hbA hS (vp_in_nI (by omega) (by omega)) dL_law_1228 ?_
      refine k_top (y := nI v) (by rw [nI_clamp (by omega)]; exact ev) ?_
      refine lv_aload_n hx hb dL_law_1229 rfl (lv_at hl 1 rfl) ?_
      refine lv_iload hx hb dL_law_1230 (lv_at hl 5 rfl) ?_
      refine lv_iconst (v := nI 2) hx hb dL_law_1232 (by decide) ?_
      refine n_iadd (n := 4*j + 2) hx hb dL_law_1233 (by omega) ?_
      refine va_sld hx hb hX hbl hbA hS (vp_in_nI (by omega) (by omega)) dL_law_1234 ?_
      refine k_top (y := nI k) (by rw [nI_clamp (by omega)]; exact ek) ?_
      refine k_VM (As := [.int (nI v), .int (nI k)]) (rest := []) S hK (c_X7_vendor l E (o + 477) z w v k hI hv hk) gL_law_X7_vendor rfl hd_X7_vendor ⟨rfl, rfl⟩ ⟨Nat.le_of_ble_eq_true rfl, Nat.le_of_ble_eq_true rfl⟩ (k_recv hK hk2.1 rfl) hk2 rfl hl.1 rfl (Nat.le_of_ble_eq_true rfl) dL_law_1235 ⟨by show _ ≤ 601024; omega, by show _ ≤ 7293034; omega⟩ hS (fun q h => by show o ≤ q; have := h.1; omega) (fun q h => by show o ≤ q; have := h.1; omega) (fun H locs hQ zH fH hS => ?_)
      have hP := hQ
      have hV2 := hP
      have hk0 := bo_fr2 hk0 (fun q hz hq => fH q hz (bl_ne hq (by omega)))
      have hk1 := gg_fr2 hk1 (fun q hz hq => fH q hz (bl_ne hq (by omega)))
      have hk3 := la_fr2 hV1 (fun q hz hq => fH q hz (bl_ne hq (by omega)))
      have hk4 := dz_fr2 hk4 (fun q hz hq => fH q hz (bl_ne hq (by omega)))
      have hk5 := tr_fr2 hk5 (fun q hz hq => fH q hz (bl_ne hq (by omega)))
      have hk6 := hy_fr2 hk6 (fun q hz hq => fH q hz (bl_ne hq (by omega)))
      refine lv_istore (lv' := [(6, .int (veV z v k)), (5, .int (nI 0)), (0, .ref b), (1, .ref o), (2, .ref (o + 477)), (3, .ref (o + 483)), (4, .int (nI (4*j)))]) hx hb dL_law_1238 hl (by decide) rfl (fun ls hl => ?_)
      refine lv_aload_n hx hb dL_law_1240 rfl (lv_at hl 4 rfl) ?_
      refine k_V (As := []) (rest := []) S hK (c_X7_thrown l E (o + 477) z (w_th w (nI 0))) gL_law_X7_thrown rfl hd_X7_thrown ⟨rfl, rfl⟩ ⟨Nat.le_of_ble_eq_true rfl, Nat.le_of_ble_eq_true rfl⟩ (k_recv hK hV2.1 rfl) hV2 rfl hl.1 rfl (Nat.le_of_ble_eq_true rfl) dL_law_1241 ⟨by show _ ≤ 601024; omega, by show _ ≤ 7293034; omega⟩ ?_
      refine k_top (y := nI 0) rfl ?_
      refine lv_iload hx hb dL_law_1244 (lv_at hl 1 rfl) ?_
      refine n_ieq (tgt := 1251) hx hb dL_law_1246 (by decide) (by omega) (by omega) (fun c1246 => ?_) (fun h => absurd h (by decide))
      refine lv_iload hx hb dL_law_1251 (lv_at hl 1 rfl) ?_
      refine lv_if_ne (tgt := 1268) hx hb dL_law_1253 (by decide) (fun h => absurd h (by decide)) (fun c1253 => ?_)
      refine lv_aload_n hx hb dL_law_1256 rfl (lv_at hl 5 rfl) ?_
      refine lv_iconst (v := nI 0) hx hb dL_law_1257 (by decide) ?_
      refine l_lald hx hb hK hk3 dL_law_1258 ?_
      refine lv_iload hx hb dL_law_1259 (lv_at hl 0 rfl) ?_
      refine lv_i2l hx hb dL_law_1261 rfl ?_
      refine l_lcmp hx hb dL_law_1262 ?_
      refine lv_if_eq (tgt := 1268) hx hb dL_law_1263 (by decide) (fun c1263 => ?_) (fun h => absurd h (by decide))
      refine lv_goto (tgt := 1824) hx hb dL_law_1268 (by decide) ?_
      refine W.widen (k := 484 + (j + 1)) (n := 5828 + 6*(j + 1)) (by omega) (by omega) ?_
      exact T z (w_th w (nI 0)) sn bn _ _ _ hPI (LI_mk hk1 hk4 hk5 hk6 hk0 hV2 hk3) hS (lv_sub hl [2, 3, 4, 5, 6] rfl)
    · refine lv_aload_n hx hb dL_law_1203 rfl (lv_at hl 1 rfl) ?_
      refine lv_aload_n hx hb dL_law_1204 rfl (lv_at hl 0 rfl) ?_
      refine lv_iload hx hb dL_law_1205 (lv_at hl 4 rfl) ?_
      refine lv_iconst (v := nI 1) hx hb dL_law_1207 (by decide) ?_
      refine n_iadd (n := 4*j + 1) hx hb dL_law_1208 (by omega) ?_
      refine va_sld hx hb hX hbl hbA hS (vp_in_nI (by omega) (by omega)) dL_law_1209 ?_
      refine k_top (y := nI v) (by rw [nI_clamp (by omega)]; exact ev) ?_
      refine lv_aload_n hx hb dL_law_1210 rfl (lv_at hl 0 rfl) ?_
      refine lv_iload hx hb dL_law_1211 (lv_at hl 4 rfl) ?_
      refine lv_iconst (v := nI 2) hx hb dL_law_1213 (by decide) ?_
      refine n_iadd (n := 4*j + 2) hx hb dL_law_1214 (by omega) ?_
      refine va_sld hx hb hX hbl hbA hS (vp_in_nI (by omega) (by omega)) dL_law_1215 ?_
      refine k_top (y := xs (4*j + 2)) (by rw [nI_clamp (by omega)]) ?_
      refine lv_aload_n hx hb dL_law_1216 rfl (lv_at hl 3 rfl) ?_
      refine l_SW (As := [.ref o, .int (nI v), .int (xs (4*j + 2)), .ref (o + 483)]) (rest := []) S hK hX9 hXh (y_L_vendor_2 l hlS E (nb o) o z v (xs (4*j + 2)) (o + 483) x9 hI hv g2 (by omega)) gL_law_L_vendor rfl hd_L_vendor ⟨rfl, rfl⟩ ⟨Nat.le_of_ble_eq_true rfl, Nat.le_of_ble_eq_true rfl⟩ ⟨hWG, hWQ, hWO⟩ rfl hl.1 rfl (Nat.le_of_ble_eq_true rfl) dL_law_1217 ⟨by show _ ≤ 601024; omega, by show _ ≤ 7293034; omega⟩ hS (fun q h => by show o ≤ q; have := h.1; omega) (fun q h => by show o ≤ q; have := h.1; omega) (fun H locs hQ zH fH hS => ?_)
      have hR0 := hQ
      have hV1 := hR0
      have hk0 := bo_fr2 hWB (fun q hz hq => fH q hz (bl_ne hq (by omega)))
      have hk1 := gg_fr2 hWG (fun q hz hq => fH q hz (bl_ne hq (by omega)))
      have hk2 := md_fr2 hWM (fun q hz hq => fH q hz (bl_ne hq (by omega)))
      have hk4 := dz_fr2 hWQ (fun q hz hq => fH q hz (bl_ne hq (by omega)))
      have hk5 := tr_fr2 hWT (fun q hz hq => fH q hz (bl_ne hq (by omega)))
      have hk6 := hy_fr2 hWY (fun q hz hq => fH q hz (bl_ne hq (by omega)))
      refine lv_istore (lv' := [(5, .int (nI 2)), (0, .ref b), (1, .ref o), (2, .ref (o + 477)), (3, .ref (o + 483)), (4, .int (nI (4*j)))]) hx hb dL_law_1220 hl (by decide) rfl (fun ls hl => ?_)
      refine lv_aload_n hx hb dL_law_1222 rfl (lv_at hl 3 rfl) ?_
      refine lv_aload_n hx hb dL_law_1223 rfl (lv_at hl 1 rfl) ?_
      refine lv_iload hx hb dL_law_1224 (lv_at hl 5 rfl) ?_
      refine lv_iconst (v := nI 1) hx hb dL_law_1226 (by decide) ?_
      refine n_iadd (n := 4*j + 1) hx hb dL_law_1227 (by omega) ?_
      refine va_sld hx hb hX hbl hbA hS (vp_in_nI (by omega) (by omega)) dL_law_1228 ?_
      refine k_top (y := nI v) (by rw [nI_clamp (by omega)]; exact ev) ?_
      refine lv_aload_n hx hb dL_law_1229 rfl (lv_at hl 1 rfl) ?_
      refine lv_iload hx hb dL_law_1230 (lv_at hl 5 rfl) ?_
      refine lv_iconst (v := nI 2) hx hb dL_law_1232 (by decide) ?_
      refine n_iadd (n := 4*j + 2) hx hb dL_law_1233 (by omega) ?_
      refine va_sld hx hb hX hbl hbA hS (vp_in_nI (by omega) (by omega)) dL_law_1234 ?_
      refine k_top (y := xs (4*j + 2)) (by rw [nI_clamp (by omega)]) ?_
      refine k_VM (As := [.int (nI v), .int (xs (4*j + 2))]) (rest := []) S hK (c_X7_vendor_f2 l E (o + 477) z w v (xs (4*j + 2)) hI hv g2) gL_law_X7_vendor rfl hd_X7_vendor ⟨rfl, rfl⟩ ⟨Nat.le_of_ble_eq_true rfl, Nat.le_of_ble_eq_true rfl⟩ (k_recv hK hk2.1 rfl) hk2 rfl hl.1 rfl (Nat.le_of_ble_eq_true rfl) dL_law_1235 ⟨by show _ ≤ 601024; omega, by show _ ≤ 7293034; omega⟩ hS (fun q h => by show o ≤ q; have := h.1; omega) (fun q h => by show o ≤ q; have := h.1; omega) (fun H locs hQ zH fH hS => ?_)
      have hP := hQ
      have hV2 := hP
      have hk0 := bo_fr2 hk0 (fun q hz hq => fH q hz (bl_ne hq (by omega)))
      have hk1 := gg_fr2 hk1 (fun q hz hq => fH q hz (bl_ne hq (by omega)))
      have hk3 := la_fr2 hV1 (fun q hz hq => fH q hz (bl_ne hq (by omega)))
      have hk4 := dz_fr2 hk4 (fun q hz hq => fH q hz (bl_ne hq (by omega)))
      have hk5 := tr_fr2 hk5 (fun q hz hq => fH q hz (bl_ne hq (by omega)))
      have hk6 := hy_fr2 hk6 (fun q hz hq => fH q hz (bl_ne hq (by omega)))
      refine lv_istore (lv' := [(6, .int (nI 0)), (5, .int (nI 2)), (0, .ref b), (1, .ref o), (2, .ref (o + 477)), (3, .ref (o + 483)), (4, .int (nI (4*j)))]) hx hb dL_law_1238 hl (by decide) rfl (fun ls hl => ?_)
      refine lv_aload_n hx hb dL_law_1240 rfl (lv_at hl 4 rfl) ?_
      refine k_V (As := []) (rest := []) S hK (c_X7_thrown l E (o + 477) z (w_th w (nI 2))) gL_law_X7_thrown rfl hd_X7_thrown ⟨rfl, rfl⟩ ⟨Nat.le_of_ble_eq_true rfl, Nat.le_of_ble_eq_true rfl⟩ (k_recv hK hV2.1 rfl) hV2 rfl hl.1 rfl (Nat.le_of_ble_eq_true rfl) dL_law_1241 ⟨by show _ ≤ 601024; omega, by show _ ≤ 7293034; omega⟩ ?_
      refine k_top (y := nI 2) rfl ?_
      refine lv_iload hx hb dL_law_1244 (lv_at hl 1 rfl) ?_
      refine n_ieq (tgt := 1251) hx hb dL_law_1246 (by decide) (by omega) (by omega) (fun c1246 => ?_) (fun h => absurd h (by decide))
      refine lv_iload hx hb dL_law_1251 (lv_at hl 1 rfl) ?_
      refine lv_if_ne (tgt := 1268) hx hb dL_law_1253 (by decide) (fun c1253 => ?_) (fun h => absurd h (by decide))
      refine lv_goto (tgt := 1824) hx hb dL_law_1268 (by decide) ?_
      refine W.widen (k := 484 + (j + 1)) (n := 5828 + 6*(j + 1)) (by omega) (by omega) ?_
      exact T z (w_th w (nI 2)) sn bn _ _ _ hPI (LI_mk hk1 hk4 hk5 hk6 hk0 hV2 hk3) hS (lv_sub hl [2, 3, 4, 5, 6] rfl)
  · refine lv_aload_n hx hb dL_law_1203 rfl (lv_at hl 1 rfl) ?_
    refine lv_aload_n hx hb dL_law_1204 rfl (lv_at hl 0 rfl) ?_
    refine lv_iload hx hb dL_law_1205 (lv_at hl 4 rfl) ?_
    refine lv_iconst (v := nI 1) hx hb dL_law_1207 (by decide) ?_
    refine n_iadd (n := 4*j + 1) hx hb dL_law_1208 (by omega) ?_
    refine va_sld hx hb hX hbl hbA hS (vp_in_nI (by omega) (by omega)) dL_law_1209 ?_
    refine k_top (y := xs (4*j + 1)) (by rw [nI_clamp (by omega)]) ?_
    refine lv_aload_n hx hb dL_law_1210 rfl (lv_at hl 0 rfl) ?_
    refine lv_iload hx hb dL_law_1211 (lv_at hl 4 rfl) ?_
    refine lv_iconst (v := nI 2) hx hb dL_law_1213 (by decide) ?_
    refine n_iadd (n := 4*j + 2) hx hb dL_law_1214 (by omega) ?_
    refine va_sld hx hb hX hbl hbA hS (vp_in_nI (by omega) (by omega)) dL_law_1215 ?_
    refine k_top (y := xs (4*j + 2)) (by rw [nI_clamp (by omega)]) ?_
    refine lv_aload_n hx hb dL_law_1216 rfl (lv_at hl 3 rfl) ?_
    refine l_SW (As := [.ref o, .int (xs (4*j + 1)), .int (xs (4*j + 2)), .ref (o + 483)]) (rest := []) S hK hX9 hXh (y_L_vendor_1 l hlS E (nb o) o z (xs (4*j + 1)) (xs (4*j + 2)) (o + 483) x9 hI g1 (by omega)) gL_law_L_vendor rfl hd_L_vendor ⟨rfl, rfl⟩ ⟨Nat.le_of_ble_eq_true rfl, Nat.le_of_ble_eq_true rfl⟩ ⟨hWG, hWQ, hWO⟩ rfl hl.1 rfl (Nat.le_of_ble_eq_true rfl) dL_law_1217 ⟨by show _ ≤ 601024; omega, by show _ ≤ 7293034; omega⟩ hS (fun q h => by show o ≤ q; have := h.1; omega) (fun q h => by show o ≤ q; have := h.1; omega) (fun H locs hQ zH fH hS => ?_)
    have hR0 := hQ
    have hV1 := hR0
    have hk0 := bo_fr2 hWB (fun q hz hq => fH q hz (bl_ne hq (by omega)))
    have hk1 := gg_fr2 hWG (fun q hz hq => fH q hz (bl_ne hq (by omega)))
    have hk2 := md_fr2 hWM (fun q hz hq => fH q hz (bl_ne hq (by omega)))
    have hk4 := dz_fr2 hWQ (fun q hz hq => fH q hz (bl_ne hq (by omega)))
    have hk5 := tr_fr2 hWT (fun q hz hq => fH q hz (bl_ne hq (by omega)))
    have hk6 := hy_fr2 hWY (fun q hz hq => fH q hz (bl_ne hq (by omega)))
    refine lv_istore (lv' := [(5, .int (nI 1)), (0, .ref b), (1, .ref o), (2, .ref (o + 477)), (3, .ref (o + 483)), (4, .int (nI (4*j)))]) hx hb dL_law_1220 hl (by decide) rfl (fun ls hl => ?_)
    refine lv_aload_n hx hb dL_law_1222 rfl (lv_at hl 3 rfl) ?_
    refine lv_aload_n hx hb dL_law_1223 rfl (lv_at hl 1 rfl) ?_
    refine lv_iload hx hb dL_law_1224 (lv_at hl 5 rfl) ?_
    refine lv_iconst (v := nI 1) hx hb dL_law_1226 (by decide) ?_
    refine n_iadd (n := 4*j + 1) hx hb dL_law_1227 (by omega) ?_
    refine va_sld hx hb hX hbl hbA hS (vp_in_nI (by omega) (by omega)) dL_law_1228 ?_
    refine k_top (y := xs (4*j + 1)) (by rw [nI_clamp (by omega)]) ?_
    refine lv_aload_n hx hb dL_law_1229 rfl (lv_at hl 1 rfl) ?_
    refine lv_iload hx hb dL_law_1230 (lv_at hl 5 rfl) ?_
    refine lv_iconst (v := nI 2) hx hb dL_law_1232 (by decide) ?_
    refine n_iadd (n := 4*j + 2) hx hb dL_law_1233 (by omega) ?_
    refine va_sld hx hb hX hbl hbA hS (vp_in_nI (by omega) (by omega)) dL_law_1234 ?_
    refine k_top (y := xs (4*j + 2)) (by rw [nI_clamp (by omega)]) ?_
    refine k_VM (As := [.int (xs (4*j + 1)), .int (xs (4*j + 2))]) (rest := []) S hK (c_X7_vendor_f1 l E (o + 477) z w (xs (4*j + 1)) (xs (4*j + 2)) hI g1) gL_law_X7_vendor rfl hd_X7_vendor ⟨rfl, rfl⟩ ⟨Nat.le_of_ble_eq_true rfl, Nat.le_of_ble_eq_true rfl⟩ (k_recv hK hk2.1 rfl) hk2 rfl hl.1 rfl (Nat.le_of_ble_eq_true rfl) dL_law_1235 ⟨by show _ ≤ 601024; omega, by show _ ≤ 7293034; omega⟩ hS (fun q h => by show o ≤ q; have := h.1; omega) (fun q h => by show o ≤ q; have := h.1; omega) (fun H locs hQ zH fH hS => ?_)
    have hP := hQ
    have hV2 := hP
    have hk0 := bo_fr2 hk0 (fun q hz hq => fH q hz (bl_ne hq (by omega)))
    have hk1 := gg_fr2 hk1 (fun q hz hq => fH q hz (bl_ne hq (by omega)))
    have hk3 := la_fr2 hV1 (fun q hz hq => fH q hz (bl_ne hq (by omega)))
    have hk4 := dz_fr2 hk4 (fun q hz hq => fH q hz (bl_ne hq (by omega)))
    have hk5 := tr_fr2 hk5 (fun q hz hq => fH q hz (bl_ne hq (by omega)))
    have hk6 := hy_fr2 hk6 (fun q hz hq => fH q hz (bl_ne hq (by omega)))
    refine lv_istore (lv' := [(6, .int (nI 0)), (5, .int (nI 1)), (0, .ref b), (1, .ref o), (2, .ref (o + 477)), (3, .ref (o + 483)), (4, .int (nI (4*j)))]) hx hb dL_law_1238 hl (by decide) rfl (fun ls hl => ?_)
    refine lv_aload_n hx hb dL_law_1240 rfl (lv_at hl 4 rfl) ?_
    refine k_V (As := []) (rest := []) S hK (c_X7_thrown l E (o + 477) z (w_th w (nI 1))) gL_law_X7_thrown rfl hd_X7_thrown ⟨rfl, rfl⟩ ⟨Nat.le_of_ble_eq_true rfl, Nat.le_of_ble_eq_true rfl⟩ (k_recv hK hV2.1 rfl) hV2 rfl hl.1 rfl (Nat.le_of_ble_eq_true rfl) dL_law_1241 ⟨by show _ ≤ 601024; omega, by show _ ≤ 7293034; omega⟩ ?_
    refine k_top (y := nI 1) rfl ?_
    refine lv_iload hx hb dL_law_1244 (lv_at hl 1 rfl) ?_
    refine n_ieq (tgt := 1251) hx hb dL_law_1246 (by decide) (by omega) (by omega) (fun c1246 => ?_) (fun h => absurd h (by decide))
    refine lv_iload hx hb dL_law_1251 (lv_at hl 1 rfl) ?_
    refine lv_if_ne (tgt := 1268) hx hb dL_law_1253 (by decide) (fun c1253 => ?_) (fun h => absurd h (by decide))
    refine lv_goto (tgt := 1824) hx hb dL_law_1268 (by decide) ?_
    refine W.widen (k := 484 + (j + 1)) (n := 5828 + 6*(j + 1)) (by omega) (by omega) ?_
    exact T z (w_th w (nI 1)) sn bn _ _ _ hPI (LI_mk hk1 hk4 hk5 hk6 hk0 hV2 hk3) hS (lv_sub hl [2, 3, 4, 5, 6] rfl)
set_option maxHeartbeats 4000000 in
set_option maxRecDepth 100000 in
theorem law_19 {p : Program} {l : Launch} {e : Env} {s : State} {m : MethodId} {below : List Frame} {meth : Method} {c : Code} {E : ke_E} {b o L j : Nat} {xs : Nat → Int32} {Q : State → Prop} (C : LC9 p l s m c E b o L xs) (hj : 4*j + 4 ≤ L) (T : LT9 p l e s m below meth c E b o j Q) : ∀ (z : Nat → Int32) (w : md_w) (sn bn : Nat) (H : Heap) (locs : List Loc) (ls : Array Slot), PI9 z w sn bn → LI9 E o z w sn bn H → va_S (nb o) s.heap H locs → lv_has ls 9 [(0, .ref b), (1, .ref o), (2, .ref (o + 477)), (3, .ref (o + 483)), (4, .int (nI (4*j)))] → W p l e room_1 s m #[.ref b] below meth c H locs (484 + j) (5828 + 6*j) Q (F0 m 1271 ls []) := by
  intro z w sn bn H locs ls hPI hLI hS hl
  obtain ⟨S, hlS, hK, hX9, hXh, hX, hbo, hsz9, hL⟩ := C
  have hx := S.1
  have hb := S.2.1
  have hts := S.2.2.2.2
  obtain ⟨hs, hsn, hbm, hbn, hk9, hrows⟩ := id hPI
  have hI := hk9.1
  have hJ := hk9.2.1
  have hpw := hk9.2.2
  have hc20 := iv_c hI
  obtain ⟨hWG, hWQ, hWT, hWY, hWB, hWM, x9, hWO⟩ := hLI
  have hbl : b < s.heap.size := by omega
  have hbA : ¬ nb o b := by show ¬ o ≤ b; omega
  by_cases g1 : inR (xs (4*j + 1)) 20
  · obtain ⟨n, hn, en⟩ := g1
    refine lv_aload_n hx hb dL_law_1271 rfl (lv_at hl 1 rfl) ?_
    refine lv_aload_n hx hb dL_law_1272 rfl (lv_at hl 0 rfl) ?_
    refine lv_iload hx hb dL_law_1273 (lv_at hl 4 rfl) ?_
    refine lv_iconst (v := nI 1) hx hb dL_law_1275 (by decide) ?_
    refine n_iadd (n := 4*j + 1) hx hb dL_law_1276 (by omega) ?_
    refine va_sld hx hb hX hbl hbA hS (vp_in_nI (by omega) (by omega)) dL_law_1277 ?_
    refine k_top (y := nI n) (by rw [nI_clamp (by omega)]; exact en) ?_
    refine lv_aload_n hx hb dL_law_1278 rfl (lv_at hl 3 rfl) ?_
    refine l_SW (As := [.ref o, .int (nI n), .ref (o + 483)]) (rest := []) S hK hX9 hXh (c_L_inWorkshop l hlS E (nb o) o z n (o + 483) x9 hI hn (by omega)) gL_law_L_inWorkshop rfl hd_L_inWorkshop ⟨rfl, rfl⟩ ⟨Nat.le_of_ble_eq_true rfl, Nat.le_of_ble_eq_true rfl⟩ ⟨hWG, hWQ, hWO⟩ rfl hl.1 rfl (Nat.le_of_ble_eq_true rfl) dL_law_1279 ⟨by show _ ≤ 601024; omega, by show _ ≤ 7293034; omega⟩ hS (fun q h => by show o ≤ q; have := h.1; omega) (fun q h => by show o ≤ q; have := h.1; omega) (fun H locs hQ zH fH hS => ?_)
    have hR0 := hQ
    have hV1 := hR0
    have hk0 := bo_fr2 hWB (fun q hz hq => fH q hz (bl_ne hq (by omega)))
    have hk1 := gg_fr2 hWG (fun q hz hq => fH q hz (bl_ne hq (by omega)))
    have hk2 := md_fr2 hWM (fun q hz hq => fH q hz (bl_ne hq (by omega)))
    have hk4 := dz_fr2 hWQ (fun q hz hq => fH q hz (bl_ne hq (by omega)))
    have hk5 := tr_fr2 hWT (fun q hz hq => fH q hz (bl_ne hq (by omega)))
    have hk6 := hy_fr2 hWY (fun q hz hq => fH q hz (bl_ne hq (by omega)))
    refine lv_istore (lv' := [(5, .int (nI 0)), (0, .ref b), (1, .ref o), (2, .ref (o + 477)), (3, .ref (o + 483)), (4, .int (nI (4*j)))]) hx hb dL_law_1282 hl (by decide) rfl (fun ls hl => ?_)
    refine lv_aload_n hx hb dL_law_1284 rfl (lv_at hl 3 rfl) ?_
    refine lv_aload_n hx hb dL_law_1285 rfl (lv_at hl 1 rfl) ?_
    refine lv_iload hx hb dL_law_1286 (lv_at hl 5 rfl) ?_
    refine lv_iconst (v := nI 1) hx hb dL_law_1288 (by decide) ?_
    refine n_iadd (n := 4*j + 1) hx hb dL_law_1289 (by omega) ?_
    refine va_sld hx hb hX hbl hbA hS (vp_in_nI (by omega) (by omega)) dL_law_1290 ?_
    refine k_top (y := nI n) (by rw [nI_clamp (by omega)]; exact en) ?_
    refine k_VM (As := [.int (nI n)]) (rest := []) S hK (c_X7_inWorkshop l E (o + 477) z w n hI hn) gL_law_X7_inWorkshop rfl hd_X7_inWorkshop ⟨rfl, rfl⟩ ⟨Nat.le_of_ble_eq_true rfl, Nat.le_of_ble_eq_true rfl⟩ (k_recv hK hk2.1 rfl) hk2 rfl hl.1 rfl (Nat.le_of_ble_eq_true rfl) dL_law_1291 ⟨by show _ ≤ 601024; omega, by show _ ≤ 7293034; omega⟩ hS (fun q h => by show o ≤ q; have := h.1; omega) (fun q h => by show o ≤ q; have := h.1; omega) (fun H locs hQ zH fH hS => ?_)
    have hP := hQ
    have hV2 := hP
    have hk0 := bo_fr2 hk0 (fun q hz hq => fH q hz (bl_ne hq (by omega)))
    have hk1 := gg_fr2 hk1 (fun q hz hq => fH q hz (bl_ne hq (by omega)))
    have hk3 := la_fr2 hV1 (fun q hz hq => fH q hz (bl_ne hq (by omega)))
    have hk4 := dz_fr2 hk4 (fun q hz hq => fH q hz (bl_ne hq (by omega)))
    have hk5 := tr_fr2 hk5 (fun q hz hq => fH q hz (bl_ne hq (by omega)))
    have hk6 := hy_fr2 hk6 (fun q hz hq => fH q hz (bl_ne hq (by omega)))
    refine lv_istore (lv' := [(6, .int (oI (wa z n).2)), (5, .int (nI 0)), (0, .ref b), (1, .ref o), (2, .ref (o + 477)), (3, .ref (o + 483)), (4, .int (nI (4*j)))]) hx hb dL_law_1294 hl (by decide) rfl (fun ls hl => ?_)
    refine lv_aload_n hx hb dL_law_1296 rfl (lv_at hl 4 rfl) ?_
    refine k_V (As := []) (rest := []) S hK (c_X7_thrown l E (o + 477) z (w_th w (nI 0))) gL_law_X7_thrown rfl hd_X7_thrown ⟨rfl, rfl⟩ ⟨Nat.le_of_ble_eq_true rfl, Nat.le_of_ble_eq_true rfl⟩ (k_recv hK hV2.1 rfl) hV2 rfl hl.1 rfl (Nat.le_of_ble_eq_true rfl) dL_law_1297 ⟨by show _ ≤ 601024; omega, by show _ ≤ 7293034; omega⟩ ?_
    refine k_top (y := nI 0) rfl ?_
    refine lv_iload hx hb dL_law_1300 (lv_at hl 1 rfl) ?_
    refine n_ieq (tgt := 1307) hx hb dL_law_1302 (by decide) (by omega) (by omega) (fun c1302 => ?_) (fun h => absurd h (by decide))
    refine lv_iload hx hb dL_law_1307 (lv_at hl 1 rfl) ?_
    refine lv_if_ne (tgt := 1324) hx hb dL_law_1309 (by decide) (fun h => absurd h (by decide)) (fun c1309 => ?_)
    refine lv_aload_n hx hb dL_law_1312 rfl (lv_at hl 5 rfl) ?_
    refine lv_iconst (v := nI 0) hx hb dL_law_1313 (by decide) ?_
    refine l_lald hx hb hK hk3 dL_law_1314 ?_
    refine lv_iload hx hb dL_law_1315 (lv_at hl 0 rfl) ?_
    refine lv_i2l hx hb dL_law_1317 rfl ?_
    refine l_lcmp hx hb dL_law_1318 ?_
    refine lv_if_eq (tgt := 1324) hx hb dL_law_1319 (by decide) (fun c1319 => ?_) (fun h => absurd h (by decide))
    refine lv_goto (tgt := 1824) hx hb dL_law_1324 (by decide) ?_
    refine W.widen (k := 484 + (j + 1)) (n := 5828 + 6*(j + 1)) (by omega) (by omega) ?_
    exact T z (w_th w (nI 0)) sn bn _ _ _ hPI (LI_mk hk1 hk4 hk5 hk6 hk0 hV2 hk3) hS (lv_sub hl [2, 3, 4, 5, 6] rfl)
  · refine lv_aload_n hx hb dL_law_1271 rfl (lv_at hl 1 rfl) ?_
    refine lv_aload_n hx hb dL_law_1272 rfl (lv_at hl 0 rfl) ?_
    refine lv_iload hx hb dL_law_1273 (lv_at hl 4 rfl) ?_
    refine lv_iconst (v := nI 1) hx hb dL_law_1275 (by decide) ?_
    refine n_iadd (n := 4*j + 1) hx hb dL_law_1276 (by omega) ?_
    refine va_sld hx hb hX hbl hbA hS (vp_in_nI (by omega) (by omega)) dL_law_1277 ?_
    refine k_top (y := xs (4*j + 1)) (by rw [nI_clamp (by omega)]) ?_
    refine lv_aload_n hx hb dL_law_1278 rfl (lv_at hl 3 rfl) ?_
    refine l_SW (As := [.ref o, .int (xs (4*j + 1)), .ref (o + 483)]) (rest := []) S hK hX9 hXh (y_L_inWorkshop_1 l hlS E (nb o) o z (xs (4*j + 1)) (o + 483) x9 hI g1 (by omega)) gL_law_L_inWorkshop rfl hd_L_inWorkshop ⟨rfl, rfl⟩ ⟨Nat.le_of_ble_eq_true rfl, Nat.le_of_ble_eq_true rfl⟩ ⟨hWG, hWQ, hWO⟩ rfl hl.1 rfl (Nat.le_of_ble_eq_true rfl) dL_law_1279 ⟨by show _ ≤ 601024; omega, by show _ ≤ 7293034; omega⟩ hS (fun q h => by show o ≤ q; have := h.1; omega) (fun q h => by show o ≤ q; have := h.1; omega) (fun H locs hQ zH fH hS => ?_)
    have hR0 := hQ
    have hV1 := hR0
    have hk0 := bo_fr2 hWB (fun q hz hq => fH q hz (bl_ne hq (by omega)))
    have hk1 := gg_fr2 hWG (fun q hz hq => fH q hz (bl_ne hq (by omega)))
    have hk2 := md_fr2 hWM (fun q hz hq => fH q hz (bl_ne hq (by omega)))
    have hk4 := dz_fr2 hWQ (fun q hz hq => fH q hz (bl_ne hq (by omega)))
    have hk5 := tr_fr2 hWT (fun q hz hq => fH q hz (bl_ne hq (by omega)))
    have hk6 := hy_fr2 hWY (fun q hz hq => fH q hz (bl_ne hq (by omega)))
    refine lv_istore (lv' := [(5, .int (nI 1)), (0, .ref b), (1, .ref o), (2, .ref (o + 477)), (3, .ref (o + 483)), (4, .int (nI (4*j)))]) hx hb dL_law_1282 hl (by decide) rfl (fun ls hl => ?_)
    refine lv_aload_n hx hb dL_law_1284 rfl (lv_at hl 3 rfl) ?_
    refine lv_aload_n hx hb dL_law_1285 rfl (lv_at hl 1 rfl) ?_
    refine lv_iload hx hb dL_law_1286 (lv_at hl 5 rfl) ?_
    refine lv_iconst (v := nI 1) hx hb dL_law_1288 (by decide) ?_
    refine n_iadd (n := 4*j + 1) hx hb dL_law_1289 (by omega) ?_
    refine va_sld hx hb hX hbl hbA hS (vp_in_nI (by omega) (by omega)) dL_law_1290 ?_
    refine k_top (y := xs (4*j + 1)) (by rw [nI_clamp (by omega)]) ?_
    refine k_VM (As := [.int (xs (4*j + 1))]) (rest := []) S hK (c_X7_inWorkshop_f1 l E (o + 477) z w (xs (4*j + 1)) hI g1) gL_law_X7_inWorkshop rfl hd_X7_inWorkshop ⟨rfl, rfl⟩ ⟨Nat.le_of_ble_eq_true rfl, Nat.le_of_ble_eq_true rfl⟩ (k_recv hK hk2.1 rfl) hk2 rfl hl.1 rfl (Nat.le_of_ble_eq_true rfl) dL_law_1291 ⟨by show _ ≤ 601024; omega, by show _ ≤ 7293034; omega⟩ hS (fun q h => by show o ≤ q; have := h.1; omega) (fun q h => by show o ≤ q; have := h.1; omega) (fun H locs hQ zH fH hS => ?_)
    have hP := hQ
    have hV2 := hP
    have hk0 := bo_fr2 hk0 (fun q hz hq => fH q hz (bl_ne hq (by omega)))
    have hk1 := gg_fr2 hk1 (fun q hz hq => fH q hz (bl_ne hq (by omega)))
    have hk3 := la_fr2 hV1 (fun q hz hq => fH q hz (bl_ne hq (by omega)))
    have hk4 := dz_fr2 hk4 (fun q hz hq => fH q hz (bl_ne hq (by omega)))
    have hk5 := tr_fr2 hk5 (fun q hz hq => fH q hz (bl_ne hq (by omega)))
    have hk6 := hy_fr2 hk6 (fun q hz hq => fH q hz (bl_ne hq (by omega)))
    refine lv_istore (lv' := [(6, .int (nI 0)), (5, .int (nI 1)), (0, .ref b), (1, .ref o), (2, .ref (o + 477)), (3, .ref (o + 483)), (4, .int (nI (4*j)))]) hx hb dL_law_1294 hl (by decide) rfl (fun ls hl => ?_)
    refine lv_aload_n hx hb dL_law_1296 rfl (lv_at hl 4 rfl) ?_
    refine k_V (As := []) (rest := []) S hK (c_X7_thrown l E (o + 477) z (w_th w (nI 1))) gL_law_X7_thrown rfl hd_X7_thrown ⟨rfl, rfl⟩ ⟨Nat.le_of_ble_eq_true rfl, Nat.le_of_ble_eq_true rfl⟩ (k_recv hK hV2.1 rfl) hV2 rfl hl.1 rfl (Nat.le_of_ble_eq_true rfl) dL_law_1297 ⟨by show _ ≤ 601024; omega, by show _ ≤ 7293034; omega⟩ ?_
    refine k_top (y := nI 1) rfl ?_
    refine lv_iload hx hb dL_law_1300 (lv_at hl 1 rfl) ?_
    refine n_ieq (tgt := 1307) hx hb dL_law_1302 (by decide) (by omega) (by omega) (fun c1302 => ?_) (fun h => absurd h (by decide))
    refine lv_iload hx hb dL_law_1307 (lv_at hl 1 rfl) ?_
    refine lv_if_ne (tgt := 1324) hx hb dL_law_1309 (by decide) (fun c1309 => ?_) (fun h => absurd h (by decide))
    refine lv_goto (tgt := 1824) hx hb dL_law_1324 (by decide) ?_
    refine W.widen (k := 484 + (j + 1)) (n := 5828 + 6*(j + 1)) (by omega) (by omega) ?_
    exact T z (w_th w (nI 1)) sn bn _ _ _ hPI (LI_mk hk1 hk4 hk5 hk6 hk0 hV2 hk3) hS (lv_sub hl [2, 3, 4, 5, 6] rfl)
set_option maxHeartbeats 4000000 in
set_option maxRecDepth 100000 in
theorem law_20 {p : Program} {l : Launch} {e : Env} {s : State} {m : MethodId} {below : List Frame} {meth : Method} {c : Code} {E : ke_E} {b o L j : Nat} {xs : Nat → Int32} {Q : State → Prop} (C : LC9 p l s m c E b o L xs) (hj : 4*j + 4 ≤ L) (T : LT9 p l e s m below meth c E b o j Q) : ∀ (z : Nat → Int32) (w : md_w) (sn bn : Nat) (H : Heap) (locs : List Loc) (ls : Array Slot), PI9 z w sn bn → LI9 E o z w sn bn H → va_S (nb o) s.heap H locs → lv_has ls 9 [(0, .ref b), (1, .ref o), (2, .ref (o + 477)), (3, .ref (o + 483)), (4, .int (nI (4*j)))] → W p l e room_1 s m #[.ref b] below meth c H locs (484 + j) (5828 + 6*j) Q (F0 m 1327 ls []) := by
  intro z w sn bn H locs ls hPI hLI hS hl
  obtain ⟨S, hlS, hK, hX9, hXh, hX, hbo, hsz9, hL⟩ := C
  have hx := S.1
  have hb := S.2.1
  have hts := S.2.2.2.2
  obtain ⟨hs, hsn, hbm, hbn, hk9, hrows⟩ := id hPI
  have hI := hk9.1
  have hJ := hk9.2.1
  have hpw := hk9.2.2
  have hc20 := iv_c hI
  obtain ⟨hWG, hWQ, hWT, hWY, hWB, hWM, x9, hWO⟩ := hLI
  have hbl : b < s.heap.size := by omega
  have hbA : ¬ nb o b := by show ¬ o ≤ b; omega
  by_cases g1 : inR (xs (4*j + 1)) 20
  · obtain ⟨n, hn, en⟩ := g1
    refine lv_aload_n hx hb dL_law_1327 rfl (lv_at hl 1 rfl) ?_
    refine lv_aload_n hx hb dL_law_1328 rfl (lv_at hl 0 rfl) ?_
    refine lv_iload hx hb dL_law_1329 (lv_at hl 4 rfl) ?_
    refine lv_iconst (v := nI 1) hx hb dL_law_1331 (by decide) ?_
    refine n_iadd (n := 4*j + 1) hx hb dL_law_1332 (by omega) ?_
    refine va_sld hx hb hX hbl hbA hS (vp_in_nI (by omega) (by omega)) dL_law_1333 ?_
    refine k_top (y := nI n) (by rw [nI_clamp (by omega)]; exact en) ?_
    refine lv_aload_n hx hb dL_law_1334 rfl (lv_at hl 3 rfl) ?_
    refine l_SW (As := [.ref o, .int (nI n), .ref (o + 483)]) (rest := []) S hK hX9 hXh (c_L_waiting l hlS E (nb o) o z n (o + 483) x9 hI hn (by omega)) gL_law_L_waiting rfl hd_L_waiting ⟨rfl, rfl⟩ ⟨Nat.le_of_ble_eq_true rfl, Nat.le_of_ble_eq_true rfl⟩ ⟨hWG, hWQ, hWO⟩ rfl hl.1 rfl (Nat.le_of_ble_eq_true rfl) dL_law_1335 ⟨by show _ ≤ 601024; omega, by show _ ≤ 7293034; omega⟩ hS (fun q h => by show o ≤ q; have := h.1; omega) (fun q h => by show o ≤ q; have := h.1; omega) (fun H locs hQ zH fH hS => ?_)
    have hR0 := hQ
    have hV1 := hR0
    have hk0 := bo_fr2 hWB (fun q hz hq => fH q hz (bl_ne hq (by omega)))
    have hk1 := gg_fr2 hWG (fun q hz hq => fH q hz (bl_ne hq (by omega)))
    have hk2 := md_fr2 hWM (fun q hz hq => fH q hz (bl_ne hq (by omega)))
    have hk4 := dz_fr2 hWQ (fun q hz hq => fH q hz (bl_ne hq (by omega)))
    have hk5 := tr_fr2 hWT (fun q hz hq => fH q hz (bl_ne hq (by omega)))
    have hk6 := hy_fr2 hWY (fun q hz hq => fH q hz (bl_ne hq (by omega)))
    refine lv_istore (lv' := [(5, .int (nI 0)), (0, .ref b), (1, .ref o), (2, .ref (o + 477)), (3, .ref (o + 483)), (4, .int (nI (4*j)))]) hx hb dL_law_1338 hl (by decide) rfl (fun ls hl => ?_)
    refine lv_aload_n hx hb dL_law_1340 rfl (lv_at hl 3 rfl) ?_
    refine lv_aload_n hx hb dL_law_1341 rfl (lv_at hl 1 rfl) ?_
    refine lv_iload hx hb dL_law_1342 (lv_at hl 5 rfl) ?_
    refine lv_iconst (v := nI 1) hx hb dL_law_1344 (by decide) ?_
    refine n_iadd (n := 4*j + 1) hx hb dL_law_1345 (by omega) ?_
    refine va_sld hx hb hX hbl hbA hS (vp_in_nI (by omega) (by omega)) dL_law_1346 ?_
    refine k_top (y := nI n) (by rw [nI_clamp (by omega)]; exact en) ?_
    refine k_VM (As := [.int (nI n)]) (rest := []) S hK (c_X7_waiting l E (o + 477) z w n hI hn) gL_law_X7_waiting rfl hd_X7_waiting ⟨rfl, rfl⟩ ⟨Nat.le_of_ble_eq_true rfl, Nat.le_of_ble_eq_true rfl⟩ (k_recv hK hk2.1 rfl) hk2 rfl hl.1 rfl (Nat.le_of_ble_eq_true rfl) dL_law_1347 ⟨by show _ ≤ 601024; omega, by show _ ≤ 7293034; omega⟩ hS (fun q h => by show o ≤ q; have := h.1; omega) (fun q h => by show o ≤ q; have := h.1; omega) (fun H locs hQ zH fH hS => ?_)
    have hP := hQ
    have hV2 := hP
    have hk0 := bo_fr2 hk0 (fun q hz hq => fH q hz (bl_ne hq (by omega)))
    have hk1 := gg_fr2 hk1 (fun q hz hq => fH q hz (bl_ne hq (by omega)))
    have hk3 := la_fr2 hV1 (fun q hz hq => fH q hz (bl_ne hq (by omega)))
    have hk4 := dz_fr2 hk4 (fun q hz hq => fH q hz (bl_ne hq (by omega)))
    have hk5 := tr_fr2 hk5 (fun q hz hq => fH q hz (bl_ne hq (by omega)))
    have hk6 := hy_fr2 hk6 (fun q hz hq => fH q hz (bl_ne hq (by omega)))
    refine lv_istore (lv' := [(6, .int (oI (ca z n).2)), (5, .int (nI 0)), (0, .ref b), (1, .ref o), (2, .ref (o + 477)), (3, .ref (o + 483)), (4, .int (nI (4*j)))]) hx hb dL_law_1350 hl (by decide) rfl (fun ls hl => ?_)
    refine lv_aload_n hx hb dL_law_1352 rfl (lv_at hl 4 rfl) ?_
    refine k_V (As := []) (rest := []) S hK (c_X7_thrown l E (o + 477) z (w_th w (nI 0))) gL_law_X7_thrown rfl hd_X7_thrown ⟨rfl, rfl⟩ ⟨Nat.le_of_ble_eq_true rfl, Nat.le_of_ble_eq_true rfl⟩ (k_recv hK hV2.1 rfl) hV2 rfl hl.1 rfl (Nat.le_of_ble_eq_true rfl) dL_law_1353 ⟨by show _ ≤ 601024; omega, by show _ ≤ 7293034; omega⟩ ?_
    refine k_top (y := nI 0) rfl ?_
    refine lv_iload hx hb dL_law_1356 (lv_at hl 1 rfl) ?_
    refine n_ieq (tgt := 1363) hx hb dL_law_1358 (by decide) (by omega) (by omega) (fun c1358 => ?_) (fun h => absurd h (by decide))
    refine lv_iload hx hb dL_law_1363 (lv_at hl 1 rfl) ?_
    refine lv_if_ne (tgt := 1380) hx hb dL_law_1365 (by decide) (fun h => absurd h (by decide)) (fun c1365 => ?_)
    refine lv_aload_n hx hb dL_law_1368 rfl (lv_at hl 5 rfl) ?_
    refine lv_iconst (v := nI 0) hx hb dL_law_1369 (by decide) ?_
    refine l_lald hx hb hK hk3 dL_law_1370 ?_
    refine lv_iload hx hb dL_law_1371 (lv_at hl 0 rfl) ?_
    refine lv_i2l hx hb dL_law_1373 rfl ?_
    refine l_lcmp hx hb dL_law_1374 ?_
    refine lv_if_eq (tgt := 1380) hx hb dL_law_1375 (by decide) (fun c1375 => ?_) (fun h => absurd h (by decide))
    refine lv_goto (tgt := 1824) hx hb dL_law_1380 (by decide) ?_
    refine W.widen (k := 484 + (j + 1)) (n := 5828 + 6*(j + 1)) (by omega) (by omega) ?_
    exact T z (w_th w (nI 0)) sn bn _ _ _ hPI (LI_mk hk1 hk4 hk5 hk6 hk0 hV2 hk3) hS (lv_sub hl [2, 3, 4, 5, 6] rfl)
  · refine lv_aload_n hx hb dL_law_1327 rfl (lv_at hl 1 rfl) ?_
    refine lv_aload_n hx hb dL_law_1328 rfl (lv_at hl 0 rfl) ?_
    refine lv_iload hx hb dL_law_1329 (lv_at hl 4 rfl) ?_
    refine lv_iconst (v := nI 1) hx hb dL_law_1331 (by decide) ?_
    refine n_iadd (n := 4*j + 1) hx hb dL_law_1332 (by omega) ?_
    refine va_sld hx hb hX hbl hbA hS (vp_in_nI (by omega) (by omega)) dL_law_1333 ?_
    refine k_top (y := xs (4*j + 1)) (by rw [nI_clamp (by omega)]) ?_
    refine lv_aload_n hx hb dL_law_1334 rfl (lv_at hl 3 rfl) ?_
    refine l_SW (As := [.ref o, .int (xs (4*j + 1)), .ref (o + 483)]) (rest := []) S hK hX9 hXh (y_L_waiting_1 l hlS E (nb o) o z (xs (4*j + 1)) (o + 483) x9 hI g1 (by omega)) gL_law_L_waiting rfl hd_L_waiting ⟨rfl, rfl⟩ ⟨Nat.le_of_ble_eq_true rfl, Nat.le_of_ble_eq_true rfl⟩ ⟨hWG, hWQ, hWO⟩ rfl hl.1 rfl (Nat.le_of_ble_eq_true rfl) dL_law_1335 ⟨by show _ ≤ 601024; omega, by show _ ≤ 7293034; omega⟩ hS (fun q h => by show o ≤ q; have := h.1; omega) (fun q h => by show o ≤ q; have := h.1; omega) (fun H locs hQ zH fH hS => ?_)
    have hR0 := hQ
    have hV1 := hR0
    have hk0 := bo_fr2 hWB (fun q hz hq => fH q hz (bl_ne hq (by omega)))
    have hk1 := gg_fr2 hWG (fun q hz hq => fH q hz (bl_ne hq (by omega)))
    have hk2 := md_fr2 hWM (fun q hz hq => fH q hz (bl_ne hq (by omega)))
    have hk4 := dz_fr2 hWQ (fun q hz hq => fH q hz (bl_ne hq (by omega)))
    have hk5 := tr_fr2 hWT (fun q hz hq => fH q hz (bl_ne hq (by omega)))
    have hk6 := hy_fr2 hWY (fun q hz hq => fH q hz (bl_ne hq (by omega)))
    refine lv_istore (lv' := [(5, .int (nI 1)), (0, .ref b), (1, .ref o), (2, .ref (o + 477)), (3, .ref (o + 483)), (4, .int (nI (4*j)))]) hx hb dL_law_1338 hl (by decide) rfl (fun ls hl => ?_)
    refine lv_aload_n hx hb dL_law_1340 rfl (lv_at hl 3 rfl) ?_
    refine lv_aload_n hx hb dL_law_1341 rfl (lv_at hl 1 rfl) ?_
    refine lv_iload hx hb dL_law_1342 (lv_at hl 5 rfl) ?_
    refine lv_iconst (v := nI 1) hx hb dL_law_1344 (by decide) ?_
    refine n_iadd (n := 4*j + 1) hx hb dL_law_1345 (by omega) ?_
    refine va_sld hx hb hX hbl hbA hS (vp_in_nI (by omega) (by omega)) dL_law_1346 ?_
    refine k_top (y := xs (4*j + 1)) (by rw [nI_clamp (by omega)]) ?_
    refine k_VM (As := [.int (xs (4*j + 1))]) (rest := []) S hK (c_X7_waiting_f1 l E (o + 477) z w (xs (4*j + 1)) hI g1) gL_law_X7_waiting rfl hd_X7_waiting ⟨rfl, rfl⟩ ⟨Nat.le_of_ble_eq_true rfl, Nat.le_of_ble_eq_true rfl⟩ (k_recv hK hk2.1 rfl) hk2 rfl hl.1 rfl (Nat.le_of_ble_eq_true rfl) dL_law_1347 ⟨by show _ ≤ 601024; omega, by show _ ≤ 7293034; omega⟩ hS (fun q h => by show o ≤ q; have := h.1; omega) (fun q h => by show o ≤ q; have := h.1; omega) (fun H locs hQ zH fH hS => ?_)
    have hP := hQ
    have hV2 := hP
    have hk0 := bo_fr2 hk0 (fun q hz hq => fH q hz (bl_ne hq (by omega)))
    have hk1 := gg_fr2 hk1 (fun q hz hq => fH q hz (bl_ne hq (by omega)))
    have hk3 := la_fr2 hV1 (fun q hz hq => fH q hz (bl_ne hq (by omega)))
    have hk4 := dz_fr2 hk4 (fun q hz hq => fH q hz (bl_ne hq (by omega)))
    have hk5 := tr_fr2 hk5 (fun q hz hq => fH q hz (bl_ne hq (by omega)))
    have hk6 := hy_fr2 hk6 (fun q hz hq => fH q hz (bl_ne hq (by omega)))
    refine lv_istore (lv' := [(6, .int (nI 0)), (5, .int (nI 1)), (0, .ref b), (1, .ref o), (2, .ref (o + 477)), (3, .ref (o + 483)), (4, .int (nI (4*j)))]) hx hb dL_law_1350 hl (by decide) rfl (fun ls hl => ?_)
    refine lv_aload_n hx hb dL_law_1352 rfl (lv_at hl 4 rfl) ?_
    refine k_V (As := []) (rest := []) S hK (c_X7_thrown l E (o + 477) z (w_th w (nI 1))) gL_law_X7_thrown rfl hd_X7_thrown ⟨rfl, rfl⟩ ⟨Nat.le_of_ble_eq_true rfl, Nat.le_of_ble_eq_true rfl⟩ (k_recv hK hV2.1 rfl) hV2 rfl hl.1 rfl (Nat.le_of_ble_eq_true rfl) dL_law_1353 ⟨by show _ ≤ 601024; omega, by show _ ≤ 7293034; omega⟩ ?_
    refine k_top (y := nI 1) rfl ?_
    refine lv_iload hx hb dL_law_1356 (lv_at hl 1 rfl) ?_
    refine n_ieq (tgt := 1363) hx hb dL_law_1358 (by decide) (by omega) (by omega) (fun c1358 => ?_) (fun h => absurd h (by decide))
    refine lv_iload hx hb dL_law_1363 (lv_at hl 1 rfl) ?_
    refine lv_if_ne (tgt := 1380) hx hb dL_law_1365 (by decide) (fun c1365 => ?_) (fun h => absurd h (by decide))
    refine lv_goto (tgt := 1824) hx hb dL_law_1380 (by decide) ?_
    refine W.widen (k := 484 + (j + 1)) (n := 5828 + 6*(j + 1)) (by omega) (by omega) ?_
    exact T z (w_th w (nI 1)) sn bn _ _ _ hPI (LI_mk hk1 hk4 hk5 hk6 hk0 hV2 hk3) hS (lv_sub hl [2, 3, 4, 5, 6] rfl)
set_option maxHeartbeats 4000000 in
set_option maxRecDepth 100000 in
theorem law_21 {p : Program} {l : Launch} {e : Env} {s : State} {m : MethodId} {below : List Frame} {meth : Method} {c : Code} {E : ke_E} {b o L j : Nat} {xs : Nat → Int32} {Q : State → Prop} (C : LC9 p l s m c E b o L xs) (hj : 4*j + 4 ≤ L) (T : LT9 p l e s m below meth c E b o j Q) : ∀ (z : Nat → Int32) (w : md_w) (sn bn : Nat) (H : Heap) (locs : List Loc) (ls : Array Slot), PI9 z w sn bn → LI9 E o z w sn bn H → va_S (nb o) s.heap H locs → lv_has ls 9 [(0, .ref b), (1, .ref o), (2, .ref (o + 477)), (3, .ref (o + 483)), (4, .int (nI (4*j)))] → W p l e room_1 s m #[.ref b] below meth c H locs (484 + j) (5828 + 6*j) Q (F0 m 1383 ls []) := by
  intro z w sn bn H locs ls hPI hLI hS hl
  obtain ⟨S, hlS, hK, hX9, hXh, hX, hbo, hsz9, hL⟩ := C
  have hx := S.1
  have hb := S.2.1
  have hts := S.2.2.2.2
  obtain ⟨hs, hsn, hbm, hbn, hk9, hrows⟩ := id hPI
  have hI := hk9.1
  have hJ := hk9.2.1
  have hpw := hk9.2.2
  have hc20 := iv_c hI
  obtain ⟨hWG, hWQ, hWT, hWY, hWB, hWM, x9, hWO⟩ := hLI
  have hbl : b < s.heap.size := by omega
  have hbA : ¬ nb o b := by show ¬ o ≤ b; omega
  by_cases g1 : inR (xs (4*j + 1)) 14
  · obtain ⟨k, hk, ek⟩ := g1
    refine lv_aload_n hx hb dL_law_1383 rfl (lv_at hl 1 rfl) ?_
    refine lv_aload_n hx hb dL_law_1384 rfl (lv_at hl 0 rfl) ?_
    refine lv_iload hx hb dL_law_1385 (lv_at hl 4 rfl) ?_
    refine lv_iconst (v := nI 1) hx hb dL_law_1387 (by decide) ?_
    refine n_iadd (n := 4*j + 1) hx hb dL_law_1388 (by omega) ?_
    refine va_sld hx hb hX hbl hbA hS (vp_in_nI (by omega) (by omega)) dL_law_1389 ?_
    refine k_top (y := nI k) (by rw [nI_clamp (by omega)]; exact ek) ?_
    refine lv_aload_n hx hb dL_law_1390 rfl (lv_at hl 3 rfl) ?_
    refine l_SW (As := [.ref o, .int (nI k), .ref (o + 483)]) (rest := []) S hK hX9 hXh (c_L_count l hlS E (nb o) o z sn (q_rows w) k (o + 483) x9 hI hJ hk (by omega)) gL_law_L_count rfl hd_L_count ⟨rfl, rfl⟩ ⟨Nat.le_of_ble_eq_true rfl, Nat.le_of_ble_eq_true rfl⟩ ⟨hWG, hWQ, hWY, hWO⟩ rfl hl.1 rfl (Nat.le_of_ble_eq_true rfl) dL_law_1391 ⟨by show _ ≤ 601024; omega, by show _ ≤ 7293034; omega⟩ hS (fun q h => by show o ≤ q; have := h.1; omega) (fun q h => by show o ≤ q; have := h.1; omega) (fun H locs hQ zH fH hS => ?_)
    have hR0 := hQ
    have hV1 := hR0
    have hk0 := bo_fr2 hWB (fun q hz hq => fH q hz (bl_ne hq (by omega)))
    have hk1 := gg_fr2 hWG (fun q hz hq => fH q hz (bl_ne hq (by omega)))
    have hk2 := md_fr2 hWM (fun q hz hq => fH q hz (bl_ne hq (by omega)))
    have hk4 := dz_fr2 hWQ (fun q hz hq => fH q hz (bl_ne hq (by omega)))
    have hk5 := tr_fr2 hWT (fun q hz hq => fH q hz (bl_ne hq (by omega)))
    have hk6 := hy_fr2 hWY (fun q hz hq => fH q hz (bl_ne hq (by omega)))
    refine lv_istore (lv' := [(5, .int (nI 0)), (0, .ref b), (1, .ref o), (2, .ref (o + 477)), (3, .ref (o + 483)), (4, .int (nI (4*j)))]) hx hb dL_law_1394 hl (by decide) rfl (fun ls hl => ?_)
    refine lv_aload_n hx hb dL_law_1396 rfl (lv_at hl 3 rfl) ?_
    refine lv_aload_n hx hb dL_law_1397 rfl (lv_at hl 1 rfl) ?_
    refine lv_iload hx hb dL_law_1398 (lv_at hl 5 rfl) ?_
    refine lv_iconst (v := nI 1) hx hb dL_law_1400 (by decide) ?_
    refine n_iadd (n := 4*j + 1) hx hb dL_law_1401 (by omega) ?_
    refine va_sld hx hb hX hbl hbA hS (vp_in_nI (by omega) (by omega)) dL_law_1402 ?_
    refine k_top (y := nI k) (by rw [nI_clamp (by omega)]; exact ek) ?_
    refine k_VM (As := [.int (nI k)]) (rest := []) S hK (c_X7_count l E (o + 477) z w k hI hk) gL_law_X7_count rfl hd_X7_count ⟨rfl, rfl⟩ ⟨Nat.le_of_ble_eq_true rfl, Nat.le_of_ble_eq_true rfl⟩ (k_recv hK hk2.1 rfl) hk2 rfl hl.1 rfl (Nat.le_of_ble_eq_true rfl) dL_law_1403 ⟨by show _ ≤ 601024; omega, by show _ ≤ 7293034; omega⟩ hS (fun q h => by show o ≤ q; have := h.1; omega) (fun q h => by show o ≤ q; have := h.1; omega) (fun H locs hQ zH fH hS => ?_)
    have hP := hQ
    have hV2 := hP
    have hk0 := bo_fr2 hk0 (fun q hz hq => fH q hz (bl_ne hq (by omega)))
    have hk1 := gg_fr2 hk1 (fun q hz hq => fH q hz (bl_ne hq (by omega)))
    have hk3 := la_fr2 hV1 (fun q hz hq => fH q hz (bl_ne hq (by omega)))
    have hk4 := dz_fr2 hk4 (fun q hz hq => fH q hz (bl_ne hq (by omega)))
    have hk5 := tr_fr2 hk5 (fun q hz hq => fH q hz (bl_ne hq (by omega)))
    have hk6 := hy_fr2 hk6 (fun q hz hq => fH q hz (bl_ne hq (by omega)))
    refine k_top (y := coV z (nI sn) k) (by rw [hs]) ?_
    refine lv_istore (lv' := [(6, .int (coV z (nI sn) k)), (5, .int (nI 0)), (0, .ref b), (1, .ref o), (2, .ref (o + 477)), (3, .ref (o + 483)), (4, .int (nI (4*j)))]) hx hb dL_law_1406 hl (by decide) rfl (fun ls hl => ?_)
    refine lv_aload_n hx hb dL_law_1408 rfl (lv_at hl 4 rfl) ?_
    refine k_V (As := []) (rest := []) S hK (c_X7_thrown l E (o + 477) z (w_th w (nI 0))) gL_law_X7_thrown rfl hd_X7_thrown ⟨rfl, rfl⟩ ⟨Nat.le_of_ble_eq_true rfl, Nat.le_of_ble_eq_true rfl⟩ (k_recv hK hV2.1 rfl) hV2 rfl hl.1 rfl (Nat.le_of_ble_eq_true rfl) dL_law_1409 ⟨by show _ ≤ 601024; omega, by show _ ≤ 7293034; omega⟩ ?_
    refine k_top (y := nI 0) rfl ?_
    refine lv_iload hx hb dL_law_1412 (lv_at hl 1 rfl) ?_
    refine n_ieq (tgt := 1419) hx hb dL_law_1414 (by decide) (by omega) (by omega) (fun c1414 => ?_) (fun h => absurd h (by decide))
    refine lv_iload hx hb dL_law_1419 (lv_at hl 1 rfl) ?_
    refine lv_if_ne (tgt := 1436) hx hb dL_law_1421 (by decide) (fun h => absurd h (by decide)) (fun c1421 => ?_)
    refine lv_aload_n hx hb dL_law_1424 rfl (lv_at hl 5 rfl) ?_
    refine lv_iconst (v := nI 0) hx hb dL_law_1425 (by decide) ?_
    refine l_lald hx hb hK hk3 dL_law_1426 ?_
    refine lv_iload hx hb dL_law_1427 (lv_at hl 0 rfl) ?_
    refine lv_i2l hx hb dL_law_1429 rfl ?_
    refine l_lcmp hx hb dL_law_1430 ?_
    refine lv_if_eq (tgt := 1436) hx hb dL_law_1431 (by decide) (fun c1431 => ?_) (fun h => absurd h (by decide))
    refine lv_goto (tgt := 1824) hx hb dL_law_1436 (by decide) ?_
    refine W.widen (k := 484 + (j + 1)) (n := 5828 + 6*(j + 1)) (by omega) (by omega) ?_
    exact T z (w_th w (nI 0)) sn bn _ _ _ hPI (LI_mk hk1 hk4 hk5 hk6 hk0 hV2 hk3) hS (lv_sub hl [2, 3, 4, 5, 6] rfl)
  · refine lv_aload_n hx hb dL_law_1383 rfl (lv_at hl 1 rfl) ?_
    refine lv_aload_n hx hb dL_law_1384 rfl (lv_at hl 0 rfl) ?_
    refine lv_iload hx hb dL_law_1385 (lv_at hl 4 rfl) ?_
    refine lv_iconst (v := nI 1) hx hb dL_law_1387 (by decide) ?_
    refine n_iadd (n := 4*j + 1) hx hb dL_law_1388 (by omega) ?_
    refine va_sld hx hb hX hbl hbA hS (vp_in_nI (by omega) (by omega)) dL_law_1389 ?_
    refine k_top (y := xs (4*j + 1)) (by rw [nI_clamp (by omega)]) ?_
    refine lv_aload_n hx hb dL_law_1390 rfl (lv_at hl 3 rfl) ?_
    refine l_SW (As := [.ref o, .int (xs (4*j + 1)), .ref (o + 483)]) (rest := []) S hK hX9 hXh (y_L_count_1 l hlS E (nb o) o z (xs (4*j + 1)) (o + 483) x9 hI g1 (by omega)) gL_law_L_count rfl hd_L_count ⟨rfl, rfl⟩ ⟨Nat.le_of_ble_eq_true rfl, Nat.le_of_ble_eq_true rfl⟩ ⟨hWG, hWQ, hWO⟩ rfl hl.1 rfl (Nat.le_of_ble_eq_true rfl) dL_law_1391 ⟨by show _ ≤ 601024; omega, by show _ ≤ 7293034; omega⟩ hS (fun q h => by show o ≤ q; have := h.1; omega) (fun q h => by show o ≤ q; have := h.1; omega) (fun H locs hQ zH fH hS => ?_)
    have hR0 := hQ
    have hV1 := hR0
    have hk0 := bo_fr2 hWB (fun q hz hq => fH q hz (bl_ne hq (by omega)))
    have hk1 := gg_fr2 hWG (fun q hz hq => fH q hz (bl_ne hq (by omega)))
    have hk2 := md_fr2 hWM (fun q hz hq => fH q hz (bl_ne hq (by omega)))
    have hk4 := dz_fr2 hWQ (fun q hz hq => fH q hz (bl_ne hq (by omega)))
    have hk5 := tr_fr2 hWT (fun q hz hq => fH q hz (bl_ne hq (by omega)))
    have hk6 := hy_fr2 hWY (fun q hz hq => fH q hz (bl_ne hq (by omega)))
    refine lv_istore (lv' := [(5, .int (nI 1)), (0, .ref b), (1, .ref o), (2, .ref (o + 477)), (3, .ref (o + 483)), (4, .int (nI (4*j)))]) hx hb dL_law_1394 hl (by decide) rfl (fun ls hl => ?_)
    refine lv_aload_n hx hb dL_law_1396 rfl (lv_at hl 3 rfl) ?_
    refine lv_aload_n hx hb dL_law_1397 rfl (lv_at hl 1 rfl) ?_
    refine lv_iload hx hb dL_law_1398 (lv_at hl 5 rfl) ?_
    refine lv_iconst (v := nI 1) hx hb dL_law_1400 (by decide) ?_
    refine n_iadd (n := 4*j + 1) hx hb dL_law_1401 (by omega) ?_
    refine va_sld hx hb hX hbl hbA hS (vp_in_nI (by omega) (by omega)) dL_law_1402 ?_
    refine k_top (y := xs (4*j + 1)) (by rw [nI_clamp (by omega)]) ?_
    refine k_VM (As := [.int (xs (4*j + 1))]) (rest := []) S hK (c_X7_count_f1 l E (o + 477) z w (xs (4*j + 1)) hI g1) gL_law_X7_count rfl hd_X7_count ⟨rfl, rfl⟩ ⟨Nat.le_of_ble_eq_true rfl, Nat.le_of_ble_eq_true rfl⟩ (k_recv hK hk2.1 rfl) hk2 rfl hl.1 rfl (Nat.le_of_ble_eq_true rfl) dL_law_1403 ⟨by show _ ≤ 601024; omega, by show _ ≤ 7293034; omega⟩ hS (fun q h => by show o ≤ q; have := h.1; omega) (fun q h => by show o ≤ q; have := h.1; omega) (fun H locs hQ zH fH hS => ?_)
    have hP := hQ
    have hV2 := hP
    have hk0 := bo_fr2 hk0 (fun q hz hq => fH q hz (bl_ne hq (by omega)))
    have hk1 := gg_fr2 hk1 (fun q hz hq => fH q hz (bl_ne hq (by omega)))
    have hk3 := la_fr2 hV1 (fun q hz hq => fH q hz (bl_ne hq (by omega)))
    have hk4 := dz_fr2 hk4 (fun q hz hq => fH q hz (bl_ne hq (by omega)))
    have hk5 := tr_fr2 hk5 (fun q hz hq => fH q hz (bl_ne hq (by omega)))
    have hk6 := hy_fr2 hk6 (fun q hz hq => fH q hz (bl_ne hq (by omega)))
    refine lv_istore (lv' := [(6, .int (nI 0)), (5, .int (nI 1)), (0, .ref b), (1, .ref o), (2, .ref (o + 477)), (3, .ref (o + 483)), (4, .int (nI (4*j)))]) hx hb dL_law_1406 hl (by decide) rfl (fun ls hl => ?_)
    refine lv_aload_n hx hb dL_law_1408 rfl (lv_at hl 4 rfl) ?_
    refine k_V (As := []) (rest := []) S hK (c_X7_thrown l E (o + 477) z (w_th w (nI 1))) gL_law_X7_thrown rfl hd_X7_thrown ⟨rfl, rfl⟩ ⟨Nat.le_of_ble_eq_true rfl, Nat.le_of_ble_eq_true rfl⟩ (k_recv hK hV2.1 rfl) hV2 rfl hl.1 rfl (Nat.le_of_ble_eq_true rfl) dL_law_1409 ⟨by show _ ≤ 601024; omega, by show _ ≤ 7293034; omega⟩ ?_
    refine k_top (y := nI 1) rfl ?_
    refine lv_iload hx hb dL_law_1412 (lv_at hl 1 rfl) ?_
    refine n_ieq (tgt := 1419) hx hb dL_law_1414 (by decide) (by omega) (by omega) (fun c1414 => ?_) (fun h => absurd h (by decide))
    refine lv_iload hx hb dL_law_1419 (lv_at hl 1 rfl) ?_
    refine lv_if_ne (tgt := 1436) hx hb dL_law_1421 (by decide) (fun c1421 => ?_) (fun h => absurd h (by decide))
    refine lv_goto (tgt := 1824) hx hb dL_law_1436 (by decide) ?_
    refine W.widen (k := 484 + (j + 1)) (n := 5828 + 6*(j + 1)) (by omega) (by omega) ?_
    exact T z (w_th w (nI 1)) sn bn _ _ _ hPI (LI_mk hk1 hk4 hk5 hk6 hk0 hV2 hk3) hS (lv_sub hl [2, 3, 4, 5, 6] rfl)
set_option maxHeartbeats 4000000 in
set_option maxRecDepth 100000 in
theorem law_22 {p : Program} {l : Launch} {e : Env} {s : State} {m : MethodId} {below : List Frame} {meth : Method} {c : Code} {E : ke_E} {b o L j : Nat} {xs : Nat → Int32} {Q : State → Prop} (C : LC9 p l s m c E b o L xs) (hj : 4*j + 4 ≤ L) (T : LT9 p l e s m below meth c E b o j Q) : ∀ (z : Nat → Int32) (w : md_w) (sn bn : Nat) (H : Heap) (locs : List Loc) (ls : Array Slot), PI9 z w sn bn → LI9 E o z w sn bn H → va_S (nb o) s.heap H locs → lv_has ls 9 [(0, .ref b), (1, .ref o), (2, .ref (o + 477)), (3, .ref (o + 483)), (4, .int (nI (4*j)))] → W p l e room_1 s m #[.ref b] below meth c H locs (484 + j) (5828 + 6*j) Q (F0 m 1439 ls []) := by
  intro z w sn bn H locs ls hPI hLI hS hl
  obtain ⟨S, hlS, hK, hX9, hXh, hX, hbo, hsz9, hL⟩ := C
  have hx := S.1
  have hb := S.2.1
  have hts := S.2.2.2.2
  obtain ⟨hs, hsn, hbm, hbn, hk9, hrows⟩ := id hPI
  have hI := hk9.1
  have hJ := hk9.2.1
  have hpw := hk9.2.2
  have hc20 := iv_c hI
  obtain ⟨hWG, hWQ, hWT, hWY, hWB, hWM, x9, hWO⟩ := hLI
  have hbl : b < s.heap.size := by omega
  have hbA : ¬ nb o b := by show ¬ o ≤ b; omega
  by_cases g1 : inR (xs (4*j + 1)) 5
  · obtain ⟨k, hk, ek⟩ := g1
    refine lv_aload_n hx hb dL_law_1439 rfl (lv_at hl 1 rfl) ?_
    refine lv_aload_n hx hb dL_law_1440 rfl (lv_at hl 0 rfl) ?_
    refine lv_iload hx hb dL_law_1441 (lv_at hl 4 rfl) ?_
    refine lv_iconst (v := nI 1) hx hb dL_law_1443 (by decide) ?_
    refine n_iadd (n := 4*j + 1) hx hb dL_law_1444 (by omega) ?_
    refine va_sld hx hb hX hbl hbA hS (vp_in_nI (by omega) (by omega)) dL_law_1445 ?_
    refine k_top (y := nI k) (by rw [nI_clamp (by omega)]; exact ek) ?_
    refine lv_aload_n hx hb dL_law_1446 rfl (lv_at hl 3 rfl) ?_
    refine l_SW (As := [.ref o, .int (nI k), .ref (o + 483)]) (rest := []) S hK hX9 hXh (c_L_setting l hlS E (nb o) o z k (o + 483) x9 hI hk (by omega)) gL_law_L_setting rfl hd_L_setting ⟨rfl, rfl⟩ ⟨Nat.le_of_ble_eq_true rfl, Nat.le_of_ble_eq_true rfl⟩ ⟨hWG, hWQ, hWO⟩ rfl hl.1 rfl (Nat.le_of_ble_eq_true rfl) dL_law_1447 ⟨by show _ ≤ 601024; omega, by show _ ≤ 7293034; omega⟩ hS (fun q h => by show o ≤ q; have := h.1; omega) (fun q h => by show o ≤ q; have := h.1; omega) (fun H locs hQ zH fH hS => ?_)
    have hR0 := hQ
    have hV1 := hR0
    have hk0 := bo_fr2 hWB (fun q hz hq => fH q hz (bl_ne hq (by omega)))
    have hk1 := gg_fr2 hWG (fun q hz hq => fH q hz (bl_ne hq (by omega)))
    have hk2 := md_fr2 hWM (fun q hz hq => fH q hz (bl_ne hq (by omega)))
    have hk4 := dz_fr2 hWQ (fun q hz hq => fH q hz (bl_ne hq (by omega)))
    have hk5 := tr_fr2 hWT (fun q hz hq => fH q hz (bl_ne hq (by omega)))
    have hk6 := hy_fr2 hWY (fun q hz hq => fH q hz (bl_ne hq (by omega)))
    refine lv_istore (lv' := [(5, .int (nI 0)), (0, .ref b), (1, .ref o), (2, .ref (o + 477)), (3, .ref (o + 483)), (4, .int (nI (4*j)))]) hx hb dL_law_1450 hl (by decide) rfl (fun ls hl => ?_)
    refine lv_aload_n hx hb dL_law_1452 rfl (lv_at hl 3 rfl) ?_
    refine lv_aload_n hx hb dL_law_1453 rfl (lv_at hl 1 rfl) ?_
    refine lv_iload hx hb dL_law_1454 (lv_at hl 5 rfl) ?_
    refine lv_iconst (v := nI 1) hx hb dL_law_1456 (by decide) ?_
    refine n_iadd (n := 4*j + 1) hx hb dL_law_1457 (by omega) ?_
    refine va_sld hx hb hX hbl hbA hS (vp_in_nI (by omega) (by omega)) dL_law_1458 ?_
    refine k_top (y := nI k) (by rw [nI_clamp (by omega)]; exact ek) ?_
    refine k_VM (As := [.int (nI k)]) (rest := []) S hK (c_X7_setting l E (o + 477) z w k hI hk) gL_law_X7_setting rfl hd_X7_setting ⟨rfl, rfl⟩ ⟨Nat.le_of_ble_eq_true rfl, Nat.le_of_ble_eq_true rfl⟩ (k_recv hK hk2.1 rfl) hk2 rfl hl.1 rfl (Nat.le_of_ble_eq_true rfl) dL_law_1459 ⟨by show _ ≤ 601024; omega, by show _ ≤ 7293034; omega⟩ hS (fun q h => by show o ≤ q; have := h.1; omega) (fun q h => by show o ≤ q; have := h.1; omega) (fun H locs hQ zH fH hS => ?_)
    have hP := hQ
    have hV2 := hP
    have hk0 := bo_fr2 hk0 (fun q hz hq => fH q hz (bl_ne hq (by omega)))
    have hk1 := gg_fr2 hk1 (fun q hz hq => fH q hz (bl_ne hq (by omega)))
    have hk3 := la_fr2 hV1 (fun q hz hq => fH q hz (bl_ne hq (by omega)))
    have hk4 := dz_fr2 hk4 (fun q hz hq => fH q hz (bl_ne hq (by omega)))
    have hk5 := tr_fr2 hk5 (fun q hz hq => fH q hz (bl_ne hq (by omega)))
    have hk6 := hy_fr2 hk6 (fun q hz hq => fH q hz (bl_ne hq (by omega)))
    refine lv_istore (lv' := [(6, .int (z (k + 7))), (5, .int (nI 0)), (0, .ref b), (1, .ref o), (2, .ref (o + 477)), (3, .ref (o + 483)), (4, .int (nI (4*j)))]) hx hb dL_law_1462 hl (by decide) rfl (fun ls hl => ?_)
    refine lv_aload_n hx hb dL_law_1464 rfl (lv_at hl 4 rfl) ?_
    refine k_V (As := []) (rest := []) S hK (c_X7_thrown l E (o + 477) z (w_th w (nI 0))) gL_law_X7_thrown rfl hd_X7_thrown ⟨rfl, rfl⟩ ⟨Nat.le_of_ble_eq_true rfl, Nat.le_of_ble_eq_true rfl⟩ (k_recv hK hV2.1 rfl) hV2 rfl hl.1 rfl (Nat.le_of_ble_eq_true rfl) dL_law_1465 ⟨by show _ ≤ 601024; omega, by show _ ≤ 7293034; omega⟩ ?_
    refine k_top (y := nI 0) rfl ?_
    refine lv_iload hx hb dL_law_1468 (lv_at hl 1 rfl) ?_
    refine n_ieq (tgt := 1475) hx hb dL_law_1470 (by decide) (by omega) (by omega) (fun c1470 => ?_) (fun h => absurd h (by decide))
    refine lv_iload hx hb dL_law_1475 (lv_at hl 1 rfl) ?_
    refine lv_if_ne (tgt := 1492) hx hb dL_law_1477 (by decide) (fun h => absurd h (by decide)) (fun c1477 => ?_)
    refine lv_aload_n hx hb dL_law_1480 rfl (lv_at hl 5 rfl) ?_
    refine lv_iconst (v := nI 0) hx hb dL_law_1481 (by decide) ?_
    refine l_lald hx hb hK hk3 dL_law_1482 ?_
    refine lv_iload hx hb dL_law_1483 (lv_at hl 0 rfl) ?_
    refine lv_i2l hx hb dL_law_1485 rfl ?_
    refine l_lcmp hx hb dL_law_1486 ?_
    refine lv_if_eq (tgt := 1492) hx hb dL_law_1487 (by decide) (fun c1487 => ?_) (fun h => absurd h (by decide))
    refine lv_goto (tgt := 1824) hx hb dL_law_1492 (by decide) ?_
    refine W.widen (k := 484 + (j + 1)) (n := 5828 + 6*(j + 1)) (by omega) (by omega) ?_
    exact T z (w_th w (nI 0)) sn bn _ _ _ hPI (LI_mk hk1 hk4 hk5 hk6 hk0 hV2 hk3) hS (lv_sub hl [2, 3, 4, 5, 6] rfl)
  · refine lv_aload_n hx hb dL_law_1439 rfl (lv_at hl 1 rfl) ?_
    refine lv_aload_n hx hb dL_law_1440 rfl (lv_at hl 0 rfl) ?_
    refine lv_iload hx hb dL_law_1441 (lv_at hl 4 rfl) ?_
    refine lv_iconst (v := nI 1) hx hb dL_law_1443 (by decide) ?_
    refine n_iadd (n := 4*j + 1) hx hb dL_law_1444 (by omega) ?_
    refine va_sld hx hb hX hbl hbA hS (vp_in_nI (by omega) (by omega)) dL_law_1445 ?_
    refine k_top (y := xs (4*j + 1)) (by rw [nI_clamp (by omega)]) ?_
    refine lv_aload_n hx hb dL_law_1446 rfl (lv_at hl 3 rfl) ?_
    refine l_SW (As := [.ref o, .int (xs (4*j + 1)), .ref (o + 483)]) (rest := []) S hK hX9 hXh (y_L_setting_1 l hlS E (nb o) o z (xs (4*j + 1)) (o + 483) x9 hI g1 (by omega)) gL_law_L_setting rfl hd_L_setting ⟨rfl, rfl⟩ ⟨Nat.le_of_ble_eq_true rfl, Nat.le_of_ble_eq_true rfl⟩ ⟨hWG, hWQ, hWO⟩ rfl hl.1 rfl (Nat.le_of_ble_eq_true rfl) dL_law_1447 ⟨by show _ ≤ 601024; omega, by show _ ≤ 7293034; omega⟩ hS (fun q h => by show o ≤ q; have := h.1; omega) (fun q h => by show o ≤ q; have := h.1; omega) (fun H locs hQ zH fH hS => ?_)
    have hR0 := hQ
    have hV1 := hR0
    have hk0 := bo_fr2 hWB (fun q hz hq => fH q hz (bl_ne hq (by omega)))
    have hk1 := gg_fr2 hWG (fun q hz hq => fH q hz (bl_ne hq (by omega)))
    have hk2 := md_fr2 hWM (fun q hz hq => fH q hz (bl_ne hq (by omega)))
    have hk4 := dz_fr2 hWQ (fun q hz hq => fH q hz (bl_ne hq (by omega)))
    have hk5 := tr_fr2 hWT (fun q hz hq => fH q hz (bl_ne hq (by omega)))
    have hk6 := hy_fr2 hWY (fun q hz hq => fH q hz (bl_ne hq (by omega)))
    refine lv_istore (lv' := [(5, .int (nI 1)), (0, .ref b), (1, .ref o), (2, .ref (o + 477)), (3, .ref (o + 483)), (4, .int (nI (4*j)))]) hx hb dL_law_1450 hl (by decide) rfl (fun ls hl => ?_)
    refine lv_aload_n hx hb dL_law_1452 rfl (lv_at hl 3 rfl) ?_
    refine lv_aload_n hx hb dL_law_1453 rfl (lv_at hl 1 rfl) ?_
    refine lv_iload hx hb dL_law_1454 (lv_at hl 5 rfl) ?_
    refine lv_iconst (v := nI 1) hx hb dL_law_1456 (by decide) ?_
    refine n_iadd (n := 4*j + 1) hx hb dL_law_1457 (by omega) ?_
    refine va_sld hx hb hX hbl hbA hS (vp_in_nI (by omega) (by omega)) dL_law_1458 ?_
    refine k_top (y := xs (4*j + 1)) (by rw [nI_clamp (by omega)]) ?_
    refine k_VM (As := [.int (xs (4*j + 1))]) (rest := []) S hK (c_X7_setting_f1 l E (o + 477) z w (xs (4*j + 1)) hI g1) gL_law_X7_setting rfl hd_X7_setting ⟨rfl, rfl⟩ ⟨Nat.le_of_ble_eq_true rfl, Nat.le_of_ble_eq_true rfl⟩ (k_recv hK hk2.1 rfl) hk2 rfl hl.1 rfl (Nat.le_of_ble_eq_true rfl) dL_law_1459 ⟨by show _ ≤ 601024; omega, by show _ ≤ 7293034; omega⟩ hS (fun q h => by show o ≤ q; have := h.1; omega) (fun q h => by show o ≤ q; have := h.1; omega) (fun H locs hQ zH fH hS => ?_)
    have hP := hQ
    have hV2 := hP
    have hk0 := bo_fr2 hk0 (fun q hz hq => fH q hz (bl_ne hq (by omega)))
    have hk1 := gg_fr2 hk1 (fun q hz hq => fH q hz (bl_ne hq (by omega)))
    have hk3 := la_fr2 hV1 (fun q hz hq => fH q hz (bl_ne hq (by omega)))
    have hk4 := dz_fr2 hk4 (fun q hz hq => fH q hz (bl_ne hq (by omega)))
    have hk5 := tr_fr2 hk5 (fun q hz hq => fH q hz (bl_ne hq (by omega)))
    have hk6 := hy_fr2 hk6 (fun q hz hq => fH q hz (bl_ne hq (by omega)))
    refine lv_istore (lv' := [(6, .int (nI 0)), (5, .int (nI 1)), (0, .ref b), (1, .ref o), (2, .ref (o + 477)), (3, .ref (o + 483)), (4, .int (nI (4*j)))]) hx hb dL_law_1462 hl (by decide) rfl (fun ls hl => ?_)
    refine lv_aload_n hx hb dL_law_1464 rfl (lv_at hl 4 rfl) ?_
    refine k_V (As := []) (rest := []) S hK (c_X7_thrown l E (o + 477) z (w_th w (nI 1))) gL_law_X7_thrown rfl hd_X7_thrown ⟨rfl, rfl⟩ ⟨Nat.le_of_ble_eq_true rfl, Nat.le_of_ble_eq_true rfl⟩ (k_recv hK hV2.1 rfl) hV2 rfl hl.1 rfl (Nat.le_of_ble_eq_true rfl) dL_law_1465 ⟨by show _ ≤ 601024; omega, by show _ ≤ 7293034; omega⟩ ?_
    refine k_top (y := nI 1) rfl ?_
    refine lv_iload hx hb dL_law_1468 (lv_at hl 1 rfl) ?_
    refine n_ieq (tgt := 1475) hx hb dL_law_1470 (by decide) (by omega) (by omega) (fun c1470 => ?_) (fun h => absurd h (by decide))
    refine lv_iload hx hb dL_law_1475 (lv_at hl 1 rfl) ?_
    refine lv_if_ne (tgt := 1492) hx hb dL_law_1477 (by decide) (fun c1477 => ?_) (fun h => absurd h (by decide))
    refine lv_goto (tgt := 1824) hx hb dL_law_1492 (by decide) ?_
    refine W.widen (k := 484 + (j + 1)) (n := 5828 + 6*(j + 1)) (by omega) (by omega) ?_
    exact T z (w_th w (nI 1)) sn bn _ _ _ hPI (LI_mk hk1 hk4 hk5 hk6 hk0 hV2 hk3) hS (lv_sub hl [2, 3, 4, 5, 6] rfl)
set_option maxHeartbeats 4000000 in
set_option maxRecDepth 100000 in
theorem law_23 {p : Program} {l : Launch} {e : Env} {s : State} {m : MethodId} {below : List Frame} {meth : Method} {c : Code} {E : ke_E} {b o L j : Nat} {xs : Nat → Int32} {Q : State → Prop} (C : LC9 p l s m c E b o L xs) (hj : 4*j + 4 ≤ L) (T : LT9 p l e s m below meth c E b o j Q) : ∀ (z : Nat → Int32) (w : md_w) (sn bn : Nat) (H : Heap) (locs : List Loc) (ls : Array Slot), PI9 z w sn bn → LI9 E o z w sn bn H → va_S (nb o) s.heap H locs → lv_has ls 9 [(0, .ref b), (1, .ref o), (2, .ref (o + 477)), (3, .ref (o + 483)), (4, .int (nI (4*j)))] → W p l e room_1 s m #[.ref b] below meth c H locs (484 + j) (5828 + 6*j) Q (F0 m 1495 ls []) := by
  intro z w sn bn H locs ls hPI hLI hS hl
  obtain ⟨S, hlS, hK, hX9, hXh, hX, hbo, hsz9, hL⟩ := C
  have hx := S.1
  have hb := S.2.1
  have hts := S.2.2.2.2
  obtain ⟨hs, hsn, hbm, hbn, hk9, hrows⟩ := id hPI
  have hI := hk9.1
  have hJ := hk9.2.1
  have hpw := hk9.2.2
  have hc20 := iv_c hI
  obtain ⟨hWG, hWQ, hWT, hWY, hWB, hWM, x9, hWO⟩ := hLI
  have hbl : b < s.heap.size := by omega
  have hbA : ¬ nb o b := by show ¬ o ≤ b; omega
  by_cases g1 : inR (xs (4*j + 1)) (cn z)
  · obtain ⟨u, hu, eu⟩ := g1
    by_cases g2 : nI 1 ≤ (xs (4*j + 2)) ∧ (xs (4*j + 2)) ≤ nI 4
    · obtain ⟨r9, h1, h2, e2⟩ := rng_n (by decide) g2 (by decide)
      rcases (by omega : r9 = 1 ∨ r9 = 2 ∨ r9 = 3 ∨ r9 = 4) with h | h | h | h
      · subst h
        refine lv_aload_n hx hb dL_law_1495 rfl (lv_at hl 1 rfl) ?_
        refine lv_aload_n hx hb dL_law_1496 rfl (lv_at hl 0 rfl) ?_
        refine lv_iload hx hb dL_law_1497 (lv_at hl 4 rfl) ?_
        refine lv_iconst (v := nI 1) hx hb dL_law_1499 (by decide) ?_
        refine n_iadd (n := 4*j + 1) hx hb dL_law_1500 (by omega) ?_
        refine va_sld hx hb hX hbl hbA hS (vp_in_nI (by omega) (by omega)) dL_law_1501 ?_
        refine k_top (y := nI u) (by rw [nI_clamp (by omega)]; exact eu) ?_
        refine lv_aload_n hx hb dL_law_1502 rfl (lv_at hl 0 rfl) ?_
        refine lv_iload hx hb dL_law_1503 (lv_at hl 4 rfl) ?_
        refine lv_iconst (v := nI 2) hx hb dL_law_1505 (by decide) ?_
        refine n_iadd (n := 4*j + 2) hx hb dL_law_1506 (by omega) ?_
        refine va_sld hx hb hX hbl hbA hS (vp_in_nI (by omega) (by omega)) dL_law_1507 ?_
        refine k_top (y := nI 1) (by rw [nI_clamp (by omega)]; exact e2) ?_
        refine lv_aload_n hx hb dL_law_1508 rfl (lv_at hl 3 rfl) ?_
        refine l_SW (As := [.ref o, .int (nI u), .int (nI 1), .ref (o + 483)]) (rest := []) S hK hX9 hXh (c_L_whyNot_1 l hlS E (nb o) o z u (o + 483) x9 hI hu (by omega)) gL_law_L_whyNot rfl hd_L_whyNot ⟨rfl, rfl⟩ ⟨Nat.le_of_ble_eq_true rfl, Nat.le_of_ble_eq_true rfl⟩ ⟨hWG, hWQ, hWO⟩ rfl hl.1 rfl (Nat.le_of_ble_eq_true rfl) dL_law_1509 ⟨by show _ ≤ 601024; omega, by show _ ≤ 7293034; omega⟩ hS (fun q h => by show o ≤ q; have := h.1; omega) (fun q h => by show o ≤ q; have := h.1; omega) (fun H locs hQ zH fH hS => ?_)
        have hR0 := hQ
        have hV1 := hR0
        have hk0 := bo_fr2 hWB (fun q hz hq => fH q hz (bl_ne hq (by omega)))
        have hk1 := gg_fr2 hWG (fun q hz hq => fH q hz (bl_ne hq (by omega)))
        have hk2 := md_fr2 hWM (fun q hz hq => fH q hz (bl_ne hq (by omega)))
        have hk4 := dz_fr2 hWQ (fun q hz hq => fH q hz (bl_ne hq (by omega)))
        have hk5 := tr_fr2 hWT (fun q hz hq => fH q hz (bl_ne hq (by omega)))
        have hk6 := hy_fr2 hWY (fun q hz hq => fH q hz (bl_ne hq (by omega)))
        refine lv_istore (lv' := [(5, .int (nI 0)), (0, .ref b), (1, .ref o), (2, .ref (o + 477)), (3, .ref (o + 483)), (4, .int (nI (4*j)))]) hx hb dL_law_1512 hl (by decide) rfl (fun ls hl => ?_)
        refine lv_aload_n hx hb dL_law_1514 rfl (lv_at hl 3 rfl) ?_
        refine lv_aload_n hx hb dL_law_1515 rfl (lv_at hl 1 rfl) ?_
        refine lv_iload hx hb dL_law_1516 (lv_at hl 5 rfl) ?_
        refine lv_iconst (v := nI 1) hx hb dL_law_1518 (by decide) ?_
        refine n_iadd (n := 4*j + 1) hx hb dL_law_1519 (by omega) ?_
        refine va_sld hx hb hX hbl hbA hS (vp_in_nI (by omega) (by omega)) dL_law_1520 ?_
        refine k_top (y := nI u) (by rw [nI_clamp (by omega)]; exact eu) ?_
        refine lv_aload_n hx hb dL_law_1521 rfl (lv_at hl 1 rfl) ?_
        refine lv_iload hx hb dL_law_1522 (lv_at hl 5 rfl) ?_
        refine lv_iconst (v := nI 2) hx hb dL_law_1524 (by decide) ?_
        refine n_iadd (n := 4*j + 2) hx hb dL_law_1525 (by omega) ?_
        refine va_sld hx hb hX hbl hbA hS (vp_in_nI (by omega) (by omega)) dL_law_1526 ?_
        refine k_top (y := nI 1) (by rw [nI_clamp (by omega)]; exact e2) ?_
        refine k_VM (As := [.int (nI u), .int (nI 1)]) (rest := []) S hK (c_X7_whyNot_1 l E (o + 477) z w u hI hu) gL_law_X7_whyNot rfl hd_X7_whyNot ⟨rfl, rfl⟩ ⟨Nat.le_of_ble_eq_true rfl, Nat.le_of_ble_eq_true rfl⟩ (k_recv hK hk2.1 rfl) hk2 rfl hl.1 rfl (Nat.le_of_ble_eq_true rfl) dL_law_1527 ⟨by show _ ≤ 601024; omega, by show _ ≤ 7293034; omega⟩ hS (fun q h => by show o ≤ q; have := h.1; omega) (fun q h => by show o ≤ q; have := h.1; omega) (fun H locs hQ zH fH hS => ?_)
        have hP := hQ
        have hV2 := hP
        have hk0 := bo_fr2 hk0 (fun q hz hq => fH q hz (bl_ne hq (by omega)))
        have hk1 := gg_fr2 hk1 (fun q hz hq => fH q hz (bl_ne hq (by omega)))
        have hk3 := la_fr2 hV1 (fun q hz hq => fH q hz (bl_ne hq (by omega)))
        have hk4 := dz_fr2 hk4 (fun q hz hq => fH q hz (bl_ne hq (by omega)))
        have hk5 := tr_fr2 hk5 (fun q hz hq => fH q hz (bl_ne hq (by omega)))
        have hk6 := hy_fr2 hk6 (fun q hz hq => fH q hz (bl_ne hq (by omega)))
        refine lv_istore (lv' := [(6, .int (wy1 z u)), (5, .int (nI 0)), (0, .ref b), (1, .ref o), (2, .ref (o + 477)), (3, .ref (o + 483)), (4, .int (nI (4*j)))]) hx hb dL_law_1530 hl (by decide) rfl (fun ls hl => ?_)
        refine lv_aload_n hx hb dL_law_1532 rfl (lv_at hl 4 rfl) ?_
        refine k_V (As := []) (rest := []) S hK (c_X7_thrown l E (o + 477) z (w_th w (nI 0))) gL_law_X7_thrown rfl hd_X7_thrown ⟨rfl, rfl⟩ ⟨Nat.le_of_ble_eq_true rfl, Nat.le_of_ble_eq_true rfl⟩ (k_recv hK hV2.1 rfl) hV2 rfl hl.1 rfl (Nat.le_of_ble_eq_true rfl) dL_law_1533 ⟨by show _ ≤ 601024; omega, by show _ ≤ 7293034; omega⟩ ?_
        refine k_top (y := nI 0) rfl ?_
        refine lv_iload hx hb dL_law_1536 (lv_at hl 1 rfl) ?_
        refine n_ieq (tgt := 1543) hx hb dL_law_1538 (by decide) (by omega) (by omega) (fun c1538 => ?_) (fun h => absurd h (by decide))
        refine lv_iload hx hb dL_law_1543 (lv_at hl 1 rfl) ?_
        refine lv_if_ne (tgt := 1560) hx hb dL_law_1545 (by decide) (fun h => absurd h (by decide)) (fun c1545 => ?_)
        refine lv_aload_n hx hb dL_law_1548 rfl (lv_at hl 5 rfl) ?_
        refine lv_iconst (v := nI 0) hx hb dL_law_1549 (by decide) ?_
        refine l_lald hx hb hK hk3 dL_law_1550 ?_
        refine lv_iload hx hb dL_law_1551 (lv_at hl 0 rfl) ?_
        refine lv_i2l hx hb dL_law_1553 rfl ?_
        refine l_lcmp hx hb dL_law_1554 ?_
        refine lv_if_eq (tgt := 1560) hx hb dL_law_1555 (by decide) (fun c1555 => ?_) (fun h => absurd h (by decide))
        refine lv_goto (tgt := 1824) hx hb dL_law_1560 (by decide) ?_
        refine W.widen (k := 484 + (j + 1)) (n := 5828 + 6*(j + 1)) (by omega) (by omega) ?_
        exact T z (w_th w (nI 0)) sn bn _ _ _ hPI (LI_mk hk1 hk4 hk5 hk6 hk0 hV2 hk3) hS (lv_sub hl [2, 3, 4, 5, 6] rfl)
      · subst h
        refine lv_aload_n hx hb dL_law_1495 rfl (lv_at hl 1 rfl) ?_
        refine lv_aload_n hx hb dL_law_1496 rfl (lv_at hl 0 rfl) ?_
        refine lv_iload hx hb dL_law_1497 (lv_at hl 4 rfl) ?_
        refine lv_iconst (v := nI 1) hx hb dL_law_1499 (by decide) ?_
        refine n_iadd (n := 4*j + 1) hx hb dL_law_1500 (by omega) ?_
        refine va_sld hx hb hX hbl hbA hS (vp_in_nI (by omega) (by omega)) dL_law_1501 ?_
        refine k_top (y := nI u) (by rw [nI_clamp (by omega)]; exact eu) ?_
        refine lv_aload_n hx hb dL_law_1502 rfl (lv_at hl 0 rfl) ?_
        refine lv_iload hx hb dL_law_1503 (lv_at hl 4 rfl) ?_
        refine lv_iconst (v := nI 2) hx hb dL_law_1505 (by decide) ?_
        refine n_iadd (n := 4*j + 2) hx hb dL_law_1506 (by omega) ?_
        refine va_sld hx hb hX hbl hbA hS (vp_in_nI (by omega) (by omega)) dL_law_1507 ?_
        refine k_top (y := nI 2) (by rw [nI_clamp (by omega)]; exact e2) ?_
        refine lv_aload_n hx hb dL_law_1508 rfl (lv_at hl 3 rfl) ?_
        refine l_SW (As := [.ref o, .int (nI u), .int (nI 2), .ref (o + 483)]) (rest := []) S hK hX9 hXh (c_L_whyNot_2 l hlS E (nb o) o z u (o + 483) x9 hI hu (by omega)) gL_law_L_whyNot rfl hd_L_whyNot ⟨rfl, rfl⟩ ⟨Nat.le_of_ble_eq_true rfl, Nat.le_of_ble_eq_true rfl⟩ ⟨hWG, hWQ, hWO⟩ rfl hl.1 rfl (Nat.le_of_ble_eq_true rfl) dL_law_1509 ⟨by show _ ≤ 601024; omega, by show _ ≤ 7293034; omega⟩ hS (fun q h => by show o ≤ q; have := h.1; omega) (fun q h => by show o ≤ q; have := h.1; omega) (fun H locs hQ zH fH hS => ?_)
        have hR0 := hQ
        have hV1 := hR0
        have hk0 := bo_fr2 hWB (fun q hz hq => fH q hz (bl_ne hq (by omega)))
        have hk1 := gg_fr2 hWG (fun q hz hq => fH q hz (bl_ne hq (by omega)))
        have hk2 := md_fr2 hWM (fun q hz hq => fH q hz (bl_ne hq (by omega)))
        have hk4 := dz_fr2 hWQ (fun q hz hq => fH q hz (bl_ne hq (by omega)))
        have hk5 := tr_fr2 hWT (fun q hz hq => fH q hz (bl_ne hq (by omega)))
        have hk6 := hy_fr2 hWY (fun q hz hq => fH q hz (bl_ne hq (by omega)))
        refine lv_istore (lv' := [(5, .int (nI 0)), (0, .ref b), (1, .ref o), (2, .ref (o + 477)), (3, .ref (o + 483)), (4, .int (nI (4*j)))]) hx hb dL_law_1512 hl (by decide) rfl (fun ls hl => ?_)
        refine lv_aload_n hx hb dL_law_1514 rfl (lv_at hl 3 rfl) ?_
        refine lv_aload_n hx hb dL_law_1515 rfl (lv_at hl 1 rfl) ?_
        refine lv_iload hx hb dL_law_1516 (lv_at hl 5 rfl) ?_
        refine lv_iconst (v := nI 1) hx hb dL_law_1518 (by decide) ?_
        refine n_iadd (n := 4*j + 1) hx hb dL_law_1519 (by omega) ?_
        refine va_sld hx hb hX hbl hbA hS (vp_in_nI (by omega) (by omega)) dL_law_1520 ?_
        refine k_top (y := nI u) (by rw [nI_clamp (by omega)]; exact eu) ?_
        refine lv_aload_n hx hb dL_law_1521 rfl (lv_at hl 1 rfl) ?_
        refine lv_iload hx hb dL_law_1522 (lv_at hl 5 rfl) ?_
        refine lv_iconst (v := nI 2) hx hb dL_law_1524 (by decide) ?_
        refine n_iadd (n := 4*j + 2) hx hb dL_law_1525 (by omega) ?_
        refine va_sld hx hb hX hbl hbA hS (vp_in_nI (by omega) (by omega)) dL_law_1526 ?_
        refine k_top (y := nI 2) (by rw [nI_clamp (by omega)]; exact e2) ?_
        refine k_VM (As := [.int (nI u), .int (nI 2)]) (rest := []) S hK (c_X7_whyNot_2 l E (o + 477) z w u hI hu) gL_law_X7_whyNot rfl hd_X7_whyNot ⟨rfl, rfl⟩ ⟨Nat.le_of_ble_eq_true rfl, Nat.le_of_ble_eq_true rfl⟩ (k_recv hK hk2.1 rfl) hk2 rfl hl.1 rfl (Nat.le_of_ble_eq_true rfl) dL_law_1527 ⟨by show _ ≤ 601024; omega, by show _ ≤ 7293034; omega⟩ hS (fun q h => by show o ≤ q; have := h.1; omega) (fun q h => by show o ≤ q; have := h.1; omega) (fun H locs hQ zH fH hS => ?_)
        have hP := hQ
        have hV2 := hP
        have hk0 := bo_fr2 hk0 (fun q hz hq => fH q hz (bl_ne hq (by omega)))
        have hk1 := gg_fr2 hk1 (fun q hz hq => fH q hz (bl_ne hq (by omega)))
        have hk3 := la_fr2 hV1 (fun q hz hq => fH q hz (bl_ne hq (by omega)))
        have hk4 := dz_fr2 hk4 (fun q hz hq => fH q hz (bl_ne hq (by omega)))
        have hk5 := tr_fr2 hk5 (fun q hz hq => fH q hz (bl_ne hq (by omega)))
        have hk6 := hy_fr2 hk6 (fun q hz hq => fH q hz (bl_ne hq (by omega)))
        refine lv_istore (lv' := [(6, .int (wy2 z u)), (5, .int (nI 0)), (0, .ref b), (1, .ref o), (2, .ref (o + 477)), (3, .ref (o + 483)), (4, .int (nI (4*j)))]) hx hb dL_law_1530 hl (by decide) rfl (fun ls hl => ?_)
        refine lv_aload_n hx hb dL_law_1532 rfl (lv_at hl 4 rfl) ?_
        refine k_V (As := []) (rest := []) S hK (c_X7_thrown l E (o + 477) z (w_th w (nI 0))) gL_law_X7_thrown rfl hd_X7_thrown ⟨rfl, rfl⟩ ⟨Nat.le_of_ble_eq_true rfl, Nat.le_of_ble_eq_true rfl⟩ (k_recv hK hV2.1 rfl) hV2 rfl hl.1 rfl (Nat.le_of_ble_eq_true rfl) dL_law_1533 ⟨by show _ ≤ 601024; omega, by show _ ≤ 7293034; omega⟩ ?_
        refine k_top (y := nI 0) rfl ?_
        refine lv_iload hx hb dL_law_1536 (lv_at hl 1 rfl) ?_
        refine n_ieq (tgt := 1543) hx hb dL_law_1538 (by decide) (by omega) (by omega) (fun c1538 => ?_) (fun h => absurd h (by decide))
        refine lv_iload hx hb dL_law_1543 (lv_at hl 1 rfl) ?_
        refine lv_if_ne (tgt := 1560) hx hb dL_law_1545 (by decide) (fun h => absurd h (by decide)) (fun c1545 => ?_)
        refine lv_aload_n hx hb dL_law_1548 rfl (lv_at hl 5 rfl) ?_
        refine lv_iconst (v := nI 0) hx hb dL_law_1549 (by decide) ?_
        refine l_lald hx hb hK hk3 dL_law_1550 ?_
        refine lv_iload hx hb dL_law_1551 (lv_at hl 0 rfl) ?_
        refine lv_i2l hx hb dL_law_1553 rfl ?_
        refine l_lcmp hx hb dL_law_1554 ?_
        refine lv_if_eq (tgt := 1560) hx hb dL_law_1555 (by decide) (fun c1555 => ?_) (fun h => absurd h (by decide))
        refine lv_goto (tgt := 1824) hx hb dL_law_1560 (by decide) ?_
        refine W.widen (k := 484 + (j + 1)) (n := 5828 + 6*(j + 1)) (by omega) (by omega) ?_
        exact T z (w_th w (nI 0)) sn bn _ _ _ hPI (LI_mk hk1 hk4 hk5 hk6 hk0 hV2 hk3) hS (lv_sub hl [2, 3, 4, 5, 6] rfl)
      · subst h
        refine lv_aload_n hx hb dL_law_1495 rfl (lv_at hl 1 rfl) ?_
        refine lv_aload_n hx hb dL_law_1496 rfl (lv_at hl 0 rfl) ?_
        refine lv_iload hx hb dL_law_1497 (lv_at hl 4 rfl) ?_
        refine lv_iconst (v := nI 1) hx hb dL_law_1499 (by decide) ?_
        refine n_iadd (n := 4*j + 1) hx hb dL_law_1500 (by omega) ?_
        refine va_sld hx hb hX hbl hbA hS (vp_in_nI (by omega) (by omega)) dL_law_1501 ?_
        refine k_top (y := nI u) (by rw [nI_clamp (by omega)]; exact eu) ?_
        refine lv_aload_n hx hb dL_law_1502 rfl (lv_at hl 0 rfl) ?_
        refine lv_iload hx hb dL_law_1503 (lv_at hl 4 rfl) ?_
        refine lv_iconst (v := nI 2) hx hb dL_law_1505 (by decide) ?_
        refine n_iadd (n := 4*j + 2) hx hb dL_law_1506 (by omega) ?_
        refine va_sld hx hb hX hbl hbA hS (vp_in_nI (by omega) (by omega)) dL_law_1507 ?_
        refine k_top (y := nI 3) (by rw [nI_clamp (by omega)]; exact e2) ?_
        refine lv_aload_n hx hb dL_law_1508 rfl (lv_at hl 3 rfl) ?_
        refine l_SW (As := [.ref o, .int (nI u), .int (nI 3), .ref (o + 483)]) (rest := []) S hK hX9 hXh (c_L_whyNot_3 l hlS E (nb o) o z u (o + 483) x9 hI hu (by omega)) gL_law_L_whyNot rfl hd_L_whyNot ⟨rfl, rfl⟩ ⟨Nat.le_of_ble_eq_true rfl, Nat.le_of_ble_eq_true rfl⟩ ⟨hWG, hWQ, hWO⟩ rfl hl.1 rfl (Nat.le_of_ble_eq_true rfl) dL_law_1509 ⟨by show _ ≤ 601024; omega, by show _ ≤ 7293034; omega⟩ hS (fun q h => by show o ≤ q; have := h.1; omega) (fun q h => by show o ≤ q; have := h.1; omega) (fun H locs hQ zH fH hS => ?_)
        have hR0 := hQ
        have hV1 := hR0
        have hk0 := bo_fr2 hWB (fun q hz hq => fH q hz (bl_ne hq (by omega)))
        have hk1 := gg_fr2 hWG (fun q hz hq => fH q hz (bl_ne hq (by omega)))
        have hk2 := md_fr2 hWM (fun q hz hq => fH q hz (bl_ne hq (by omega)))
        have hk4 := dz_fr2 hWQ (fun q hz hq => fH q hz (bl_ne hq (by omega)))
        have hk5 := tr_fr2 hWT (fun q hz hq => fH q hz (bl_ne hq (by omega)))
        have hk6 := hy_fr2 hWY (fun q hz hq => fH q hz (bl_ne hq (by omega)))
        refine lv_istore (lv' := [(5, .int (nI 0)), (0, .ref b), (1, .ref o), (2, .ref (o + 477)), (3, .ref (o + 483)), (4, .int (nI (4*j)))]) hx hb dL_law_1512 hl (by decide) rfl (fun ls hl => ?_)
        refine lv_aload_n hx hb dL_law_1514 rfl (lv_at hl 3 rfl) ?_
        refine lv_aload_n hx hb dL_law_1515 rfl (lv_at hl 1 rfl) ?_
        refine lv_iload hx hb dL_law_1516 (lv_at hl 5 rfl) ?_
        refine lv_iconst (v := nI 1) hx hb dL_law_1518 (by decide) ?_
        refine n_iadd (n := 4*j + 1) hx hb dL_law_1519 (by omega) ?_
        refine va_sld hx hb hX hbl hbA hS (vp_in_nI (by omega) (by omega)) dL_law_1520 ?_
        refine k_top (y := nI u) (by rw [nI_clamp (by omega)]; exact eu) ?_
        refine lv_aload_n hx hb dL_law_1521 rfl (lv_at hl 1 rfl) ?_
        refine lv_iload hx hb dL_law_1522 (lv_at hl 5 rfl) ?_
        refine lv_iconst (v := nI 2) hx hb dL_law_1524 (by decide) ?_
        refine n_iadd (n := 4*j + 2) hx hb dL_law_1525 (by omega) ?_
        refine va_sld hx hb hX hbl hbA hS (vp_in_nI (by omega) (by omega)) dL_law_1526 ?_
        refine k_top (y := nI 3) (by rw [nI_clamp (by omega)]; exact e2) ?_
        refine k_VM (As := [.int (nI u), .int (nI 3)]) (rest := []) S hK (c_X7_whyNot_3 l E (o + 477) z w u hI hu) gL_law_X7_whyNot rfl hd_X7_whyNot ⟨rfl, rfl⟩ ⟨Nat.le_of_ble_eq_true rfl, Nat.le_of_ble_eq_true rfl⟩ (k_recv hK hk2.1 rfl) hk2 rfl hl.1 rfl (Nat.le_of_ble_eq_true rfl) dL_law_1527 ⟨by show _ ≤ 601024; omega, by show _ ≤ 7293034; omega⟩ hS (fun q h => by show o ≤ q; have := h.1; omega) (fun q h => by show o ≤ q; have := h.1; omega) (fun H locs hQ zH fH hS => ?_)
        have hP := hQ
        have hV2 := hP
        have hk0 := bo_fr2 hk0 (fun q hz hq => fH q hz (bl_ne hq (by omega)))
        have hk1 := gg_fr2 hk1 (fun q hz hq => fH q hz (bl_ne hq (by omega)))
        have hk3 := la_fr2 hV1 (fun q hz hq => fH q hz (bl_ne hq (by omega)))
        have hk4 := dz_fr2 hk4 (fun q hz hq => fH q hz (bl_ne hq (by omega)))
        have hk5 := tr_fr2 hk5 (fun q hz hq => fH q hz (bl_ne hq (by omega)))
        have hk6 := hy_fr2 hk6 (fun q hz hq => fH q hz (bl_ne hq (by omega)))
        refine lv_istore (lv' := [(6, .int (wy3 z u)), (5, .int (nI 0)), (0, .ref b), (1, .ref o), (2, .ref (o + 477)), (3, .ref (o + 483)), (4, .int (nI (4*j)))]) hx hb dL_law_1530 hl (by decide) rfl (fun ls hl => ?_)
        refine lv_aload_n hx hb dL_law_1532 rfl (lv_at hl 4 rfl) ?_
        refine k_V (As := []) (rest := []) S hK (c_X7_thrown l E (o + 477) z (w_th w (nI 0))) gL_law_X7_thrown rfl hd_X7_thrown ⟨rfl, rfl⟩ ⟨Nat.le_of_ble_eq_true rfl, Nat.le_of_ble_eq_true rfl⟩ (k_recv hK hV2.1 rfl) hV2 rfl hl.1 rfl (Nat.le_of_ble_eq_true rfl) dL_law_1533 ⟨by show _ ≤ 601024; omega, by show _ ≤ 7293034; omega⟩ ?_
        refine k_top (y := nI 0) rfl ?_
        refine lv_iload hx hb dL_law_1536 (lv_at hl 1 rfl) ?_
        refine n_ieq (tgt := 1543) hx hb dL_law_1538 (by decide) (by omega) (by omega) (fun c1538 => ?_) (fun h => absurd h (by decide))
        refine lv_iload hx hb dL_law_1543 (lv_at hl 1 rfl) ?_
        refine lv_if_ne (tgt := 1560) hx hb dL_law_1545 (by decide) (fun h => absurd h (by decide)) (fun c1545 => ?_)
        refine lv_aload_n hx hb dL_law_1548 rfl (lv_at hl 5 rfl) ?_
        refine lv_iconst (v := nI 0) hx hb dL_law_1549 (by decide) ?_
        refine l_lald hx hb hK hk3 dL_law_1550 ?_
        refine lv_iload hx hb dL_law_1551 (lv_at hl 0 rfl) ?_
        refine lv_i2l hx hb dL_law_1553 rfl ?_
        refine l_lcmp hx hb dL_law_1554 ?_
        refine lv_if_eq (tgt := 1560) hx hb dL_law_1555 (by decide) (fun c1555 => ?_) (fun h => absurd h (by decide))
        refine lv_goto (tgt := 1824) hx hb dL_law_1560 (by decide) ?_
        refine W.widen (k := 484 + (j + 1)) (n := 5828 + 6*(j + 1)) (by omega) (by omega) ?_
        exact T z (w_th w (nI 0)) sn bn _ _ _ hPI (LI_mk hk1 hk4 hk5 hk6 hk0 hV2 hk3) hS (lv_sub hl [2, 3, 4, 5, 6] rfl)
      · subst h
        refine lv_aload_n hx hb dL_law_1495 rfl (lv_at hl 1 rfl) ?_
        refine lv_aload_n hx hb dL_law_1496 rfl (lv_at hl 0 rfl) ?_
        refine lv_iload hx hb dL_law_1497 (lv_at hl 4 rfl) ?_
        refine lv_iconst (v := nI 1) hx hb dL_law_1499 (by decide) ?_
        refine n_iadd (n := 4*j + 1) hx hb dL_law_1500 (by omega) ?_
        refine va_sld hx hb hX hbl hbA hS (vp_in_nI (by omega) (by omega)) dL_law_1501 ?_
        refine k_top (y := nI u) (by rw [nI_clamp (by omega)]; exact eu) ?_
        refine lv_aload_n hx hb dL_law_1502 rfl (lv_at hl 0 rfl) ?_
        refine lv_iload hx hb dL_law_1503 (lv_at hl 4 rfl) ?_
        refine lv_iconst (v := nI 2) hx hb dL_law_1505 (by decide) ?_
        refine n_iadd (n := 4*j + 2) hx hb dL_law_1506 (by omega) ?_
        refine va_sld hx hb hX hbl hbA hS (vp_in_nI (by omega) (by omega)) dL_law_1507 ?_
        refine k_top (y := nI 4) (by rw [nI_clamp (by omega)]; exact e2) ?_
        refine lv_aload_n hx hb dL_law_1508 rfl (lv_at hl 3 rfl) ?_
        refine l_SW (As := [.ref o, .int (nI u), .int (nI 4), .ref (o + 483)]) (rest := []) S hK hX9 hXh (c_L_whyNot_4 l hlS E (nb o) o z u (o + 483) x9 hI hu (by omega)) gL_law_L_whyNot rfl hd_L_whyNot ⟨rfl, rfl⟩ ⟨Nat.le_of_ble_eq_true rfl, Nat.le_of_ble_eq_true rfl⟩ ⟨hWG, hWQ, hWO⟩ rfl hl.1 rfl (Nat.le_of_ble_eq_true rfl) dL_law_1509 ⟨by show _ ≤ 601024; omega, by show _ ≤ 7293034; omega⟩ hS (fun q h => by show o ≤ q; have := h.1; omega) (fun q h => by show o ≤ q; have := h.1; omega) (fun H locs hQ zH fH hS => ?_)
        have hR0 := hQ
        have hV1 := hR0
        have hk0 := bo_fr2 hWB (fun q hz hq => fH q hz (bl_ne hq (by omega)))
        have hk1 := gg_fr2 hWG (fun q hz hq => fH q hz (bl_ne hq (by omega)))
        have hk2 := md_fr2 hWM (fun q hz hq => fH q hz (bl_ne hq (by omega)))
        have hk4 := dz_fr2 hWQ (fun q hz hq => fH q hz (bl_ne hq (by omega)))
        have hk5 := tr_fr2 hWT (fun q hz hq => fH q hz (bl_ne hq (by omega)))
        have hk6 := hy_fr2 hWY (fun q hz hq => fH q hz (bl_ne hq (by omega)))
        refine lv_istore (lv' := [(5, .int (nI 0)), (0, .ref b), (1, .ref o), (2, .ref (o + 477)), (3, .ref (o + 483)), (4, .int (nI (4*j)))]) hx hb dL_law_1512 hl (by decide) rfl (fun ls hl => ?_)
        refine lv_aload_n hx hb dL_law_1514 rfl (lv_at hl 3 rfl) ?_
        refine lv_aload_n hx hb dL_law_1515 rfl (lv_at hl 1 rfl) ?_
        refine lv_iload hx hb dL_law_1516 (lv_at hl 5 rfl) ?_
        refine lv_iconst (v := nI 1) hx hb dL_law_1518 (by decide) ?_
        refine n_iadd (n := 4*j + 1) hx hb dL_law_1519 (by omega) ?_
        refine va_sld hx hb hX hbl hbA hS (vp_in_nI (by omega) (by omega)) dL_law_1520 ?_
        refine k_top (y := nI u) (by rw [nI_clamp (by omega)]; exact eu) ?_
        refine lv_aload_n hx hb dL_law_1521 rfl (lv_at hl 1 rfl) ?_
        refine lv_iload hx hb dL_law_1522 (lv_at hl 5 rfl) ?_
        refine lv_iconst (v := nI 2) hx hb dL_law_1524 (by decide) ?_
        refine n_iadd (n := 4*j + 2) hx hb dL_law_1525 (by omega) ?_
        refine va_sld hx hb hX hbl hbA hS (vp_in_nI (by omega) (by omega)) dL_law_1526 ?_
        refine k_top (y := nI 4) (by rw [nI_clamp (by omega)]; exact e2) ?_
        refine k_VM (As := [.int (nI u), .int (nI 4)]) (rest := []) S hK (c_X7_whyNot_4 l E (o + 477) z w u hI hu) gL_law_X7_whyNot rfl hd_X7_whyNot ⟨rfl, rfl⟩ ⟨Nat.le_of_ble_eq_true rfl, Nat.le_of_ble_eq_true rfl⟩ (k_recv hK hk2.1 rfl) hk2 rfl hl.1 rfl (Nat.le_of_ble_eq_true rfl) dL_law_1527 ⟨by show _ ≤ 601024; omega, by show _ ≤ 7293034; omega⟩ hS (fun q h => by show o ≤ q; have := h.1; omega) (fun q h => by show o ≤ q; have := h.1; omega) (fun H locs hQ zH fH hS => ?_)
        have hP := hQ
        have hV2 := hP
        have hk0 := bo_fr2 hk0 (fun q hz hq => fH q hz (bl_ne hq (by omega)))
        have hk1 := gg_fr2 hk1 (fun q hz hq => fH q hz (bl_ne hq (by omega)))
        have hk3 := la_fr2 hV1 (fun q hz hq => fH q hz (bl_ne hq (by omega)))
        have hk4 := dz_fr2 hk4 (fun q hz hq => fH q hz (bl_ne hq (by omega)))
        have hk5 := tr_fr2 hk5 (fun q hz hq => fH q hz (bl_ne hq (by omega)))
        have hk6 := hy_fr2 hk6 (fun q hz hq => fH q hz (bl_ne hq (by omega)))
        refine lv_istore (lv' := [(6, .int (wy4 z u)), (5, .int (nI 0)), (0, .ref b), (1, .ref o), (2, .ref (o + 477)), (3, .ref (o + 483)), (4, .int (nI (4*j)))]) hx hb dL_law_1530 hl (by decide) rfl (fun ls hl => ?_)
        refine lv_aload_n hx hb dL_law_1532 rfl (lv_at hl 4 rfl) ?_
        refine k_V (As := []) (rest := []) S hK (c_X7_thrown l E (o + 477) z (w_th w (nI 0))) gL_law_X7_thrown rfl hd_X7_thrown ⟨rfl, rfl⟩ ⟨Nat.le_of_ble_eq_true rfl, Nat.le_of_ble_eq_true rfl⟩ (k_recv hK hV2.1 rfl) hV2 rfl hl.1 rfl (Nat.le_of_ble_eq_true rfl) dL_law_1533 ⟨by show _ ≤ 601024; omega, by show _ ≤ 7293034; omega⟩ ?_
        refine k_top (y := nI 0) rfl ?_
        refine lv_iload hx hb dL_law_1536 (lv_at hl 1 rfl) ?_
        refine n_ieq (tgt := 1543) hx hb dL_law_1538 (by decide) (by omega) (by omega) (fun c1538 => ?_) (fun h => absurd h (by decide))
        refine lv_iload hx hb dL_law_1543 (lv_at hl 1 rfl) ?_
        refine lv_if_ne (tgt := 1560) hx hb dL_law_1545 (by decide) (fun h => absurd h (by decide)) (fun c1545 => ?_)
        refine lv_aload_n hx hb dL_law_1548 rfl (lv_at hl 5 rfl) ?_
        refine lv_iconst (v := nI 0) hx hb dL_law_1549 (by decide) ?_
        refine l_lald hx hb hK hk3 dL_law_1550 ?_
        refine lv_iload hx hb dL_law_1551 (lv_at hl 0 rfl) ?_
        refine lv_i2l hx hb dL_law_1553 rfl ?_
        refine l_lcmp hx hb dL_law_1554 ?_
        refine lv_if_eq (tgt := 1560) hx hb dL_law_1555 (by decide) (fun c1555 => ?_) (fun h => absurd h (by decide))
        refine lv_goto (tgt := 1824) hx hb dL_law_1560 (by decide) ?_
        refine W.widen (k := 484 + (j + 1)) (n := 5828 + 6*(j + 1)) (by omega) (by omega) ?_
        exact T z (w_th w (nI 0)) sn bn _ _ _ hPI (LI_mk hk1 hk4 hk5 hk6 hk0 hV2 hk3) hS (lv_sub hl [2, 3, 4, 5, 6] rfl)
    · refine lv_aload_n hx hb dL_law_1495 rfl (lv_at hl 1 rfl) ?_
      refine lv_aload_n hx hb dL_law_1496 rfl (lv_at hl 0 rfl) ?_
      refine lv_iload hx hb dL_law_1497 (lv_at hl 4 rfl) ?_
      refine lv_iconst (v := nI 1) hx hb dL_law_1499 (by decide) ?_
      refine n_iadd (n := 4*j + 1) hx hb dL_law_1500 (by omega) ?_
      refine va_sld hx hb hX hbl hbA hS (vp_in_nI (by omega) (by omega)) dL_law_1501 ?_
      refine k_top (y := nI u) (by rw [nI_clamp (by omega)]; exact eu) ?_
      refine lv_aload_n hx hb dL_law_1502 rfl (lv_at hl 0 rfl) ?_
      refine lv_iload hx hb dL_law_1503 (lv_at hl 4 rfl) ?_
      refine lv_iconst (v := nI 2) hx hb dL_law_1505 (by decide) ?_
      refine n_iadd (n := 4*j + 2) hx hb dL_law_1506 (by omega) ?_
      refine va_sld hx hb hX hbl hbA hS (vp_in_nI (by omega) (by omega)) dL_law_1507 ?_
      refine k_top (y := xs (4*j + 2)) (by rw [nI_clamp (by omega)]) ?_
      refine lv_aload_n hx hb dL_law_1508 rfl (lv_at hl 3 rfl) ?_
      refine l_SW (As := [.ref o, .int (nI u), .int (xs (4*j + 2)), .ref (o + 483)]) (rest := []) S hK hX9 hXh (y_L_whyNot_2 l hlS E (nb o) o z u (xs (4*j + 2)) (o + 483) x9 hI hu g2 (by omega)) gL_law_L_whyNot rfl hd_L_whyNot ⟨rfl, rfl⟩ ⟨Nat.le_of_ble_eq_true rfl, Nat.le_of_ble_eq_true rfl⟩ ⟨hWG, hWQ, hWO⟩ rfl hl.1 rfl (Nat.le_of_ble_eq_true rfl) dL_law_1509 ⟨by show _ ≤ 601024; omega, by show _ ≤ 7293034; omega⟩ hS (fun q h => by show o ≤ q; have := h.1; omega) (fun q h => by show o ≤ q; have := h.1; omega) (fun H locs hQ zH fH hS => ?_)
      have hR0 := hQ
      have hV1 := hR0
      have hk0 := bo_fr2 hWB (fun q hz hq => fH q hz (bl_ne hq (by omega)))
      have hk1 := gg_fr2 hWG (fun q hz hq => fH q hz (bl_ne hq (by omega)))
      have hk2 := md_fr2 hWM (fun q hz hq => fH q hz (bl_ne hq (by omega)))
      have hk4 := dz_fr2 hWQ (fun q hz hq => fH q hz (bl_ne hq (by omega)))
      have hk5 := tr_fr2 hWT (fun q hz hq => fH q hz (bl_ne hq (by omega)))
      have hk6 := hy_fr2 hWY (fun q hz hq => fH q hz (bl_ne hq (by omega)))
      refine lv_istore (lv' := [(5, .int (nI 2)), (0, .ref b), (1, .ref o), (2, .ref (o + 477)), (3, .ref (o + 483)), (4, .int (nI (4*j)))]) hx hb dL_law_1512 hl (by decide) rfl (fun ls hl => ?_)
      refine lv_aload_n hx hb dL_law_1514 rfl (lv_at hl 3 rfl) ?_
      refine lv_aload_n hx hb dL_law_1515 rfl (lv_at hl 1 rfl) ?_
      refine lv_iload hx hb dL_law_1516 (lv_at hl 5 rfl) ?_
      refine lv_iconst (v := nI 1) hx hb dL_law_1518 (by decide) ?_
      refine n_iadd (n := 4*j + 1) hx hb dL_law_1519 (by omega) ?_
      refine va_sld hx hb hX hbl hbA hS (vp_in_nI (by omega) (by omega)) dL_law_1520 ?_
      refine k_top (y := nI u) (by rw [nI_clamp (by omega)]; exact eu) ?_
      refine lv_aload_n hx hb dL_law_1521 rfl (lv_at hl 1 rfl) ?_
      refine lv_iload hx hb dL_law_1522 (lv_at hl 5 rfl) ?_
      refine lv_iconst (v := nI 2) hx hb dL_law_1524 (by decide) ?_
      refine n_iadd (n := 4*j + 2) hx hb dL_law_1525 (by omega) ?_
      refine va_sld hx hb hX hbl hbA hS (vp_in_nI (by omega) (by omega)) dL_law_1526 ?_
      refine k_top (y := xs (4*j + 2)) (by rw [nI_clamp (by omega)]) ?_
      refine k_VM (As := [.int (nI u), .int (xs (4*j + 2))]) (rest := []) S hK (c_X7_whyNot_f2 l E (o + 477) z w u (xs (4*j + 2)) hI hu g2) gL_law_X7_whyNot rfl hd_X7_whyNot ⟨rfl, rfl⟩ ⟨Nat.le_of_ble_eq_true rfl, Nat.le_of_ble_eq_true rfl⟩ (k_recv hK hk2.1 rfl) hk2 rfl hl.1 rfl (Nat.le_of_ble_eq_true rfl) dL_law_1527 ⟨by show _ ≤ 601024; omega, by show _ ≤ 7293034; omega⟩ hS (fun q h => by show o ≤ q; have := h.1; omega) (fun q h => by show o ≤ q; have := h.1; omega) (fun H locs hQ zH fH hS => ?_)
      have hP := hQ
      have hV2 := hP
      have hk0 := bo_fr2 hk0 (fun q hz hq => fH q hz (bl_ne hq (by omega)))
      have hk1 := gg_fr2 hk1 (fun q hz hq => fH q hz (bl_ne hq (by omega)))
      have hk3 := la_fr2 hV1 (fun q hz hq => fH q hz (bl_ne hq (by omega)))
      have hk4 := dz_fr2 hk4 (fun q hz hq => fH q hz (bl_ne hq (by omega)))
      have hk5 := tr_fr2 hk5 (fun q hz hq => fH q hz (bl_ne hq (by omega)))
      have hk6 := hy_fr2 hk6 (fun q hz hq => fH q hz (bl_ne hq (by omega)))
      refine lv_istore (lv' := [(6, .int (nI 0)), (5, .int (nI 2)), (0, .ref b), (1, .ref o), (2, .ref (o + 477)), (3, .ref (o + 483)), (4, .int (nI (4*j)))]) hx hb dL_law_1530 hl (by decide) rfl (fun ls hl => ?_)
      refine lv_aload_n hx hb dL_law_1532 rfl (lv_at hl 4 rfl) ?_
      refine k_V (As := []) (rest := []) S hK (c_X7_thrown l E (o + 477) z (w_th w (nI 2))) gL_law_X7_thrown rfl hd_X7_thrown ⟨rfl, rfl⟩ ⟨Nat.le_of_ble_eq_true rfl, Nat.le_of_ble_eq_true rfl⟩ (k_recv hK hV2.1 rfl) hV2 rfl hl.1 rfl (Nat.le_of_ble_eq_true rfl) dL_law_1533 ⟨by show _ ≤ 601024; omega, by show _ ≤ 7293034; omega⟩ ?_
      refine k_top (y := nI 2) rfl ?_
      refine lv_iload hx hb dL_law_1536 (lv_at hl 1 rfl) ?_
      refine n_ieq (tgt := 1543) hx hb dL_law_1538 (by decide) (by omega) (by omega) (fun c1538 => ?_) (fun h => absurd h (by decide))
      refine lv_iload hx hb dL_law_1543 (lv_at hl 1 rfl) ?_
      refine lv_if_ne (tgt := 1560) hx hb dL_law_1545 (by decide) (fun c1545 => ?_) (fun h => absurd h (by decide))
      refine lv_goto (tgt := 1824) hx hb dL_law_1560 (by decide) ?_
      refine W.widen (k := 484 + (j + 1)) (n := 5828 + 6*(j + 1)) (by omega) (by omega) ?_
      exact T z (w_th w (nI 2)) sn bn _ _ _ hPI (LI_mk hk1 hk4 hk5 hk6 hk0 hV2 hk3) hS (lv_sub hl [2, 3, 4, 5, 6] rfl)
  · refine lv_aload_n hx hb dL_law_1495 rfl (lv_at hl 1 rfl) ?_
    refine lv_aload_n hx hb dL_law_1496 rfl (lv_at hl 0 rfl) ?_
    refine lv_iload hx hb dL_law_1497 (lv_at hl 4 rfl) ?_
    refine lv_iconst (v := nI 1) hx hb dL_law_1499 (by decide) ?_
    refine n_iadd (n := 4*j + 1) hx hb dL_law_1500 (by omega) ?_
    refine va_sld hx hb hX hbl hbA hS (vp_in_nI (by omega) (by omega)) dL_law_1501 ?_
    refine k_top (y := xs (4*j + 1)) (by rw [nI_clamp (by omega)]) ?_
    refine lv_aload_n hx hb dL_law_1502 rfl (lv_at hl 0 rfl) ?_
    refine lv_iload hx hb dL_law_1503 (lv_at hl 4 rfl) ?_
    refine lv_iconst (v := nI 2) hx hb dL_law_1505 (by decide) ?_
    refine n_iadd (n := 4*j + 2) hx hb dL_law_1506 (by omega) ?_
    refine va_sld hx hb hX hbl hbA hS (vp_in_nI (by omega) (by omega)) dL_law_1507 ?_
    refine k_top (y := xs (4*j + 2)) (by rw [nI_clamp (by omega)]) ?_
    refine lv_aload_n hx hb dL_law_1508 rfl (lv_at hl 3 rfl) ?_
    refine l_SW (As := [.ref o, .int (xs (4*j + 1)), .int (xs (4*j + 2)), .ref (o + 483)]) (rest := []) S hK hX9 hXh (y_L_whyNot_1 l hlS E (nb o) o z (xs (4*j + 1)) (xs (4*j + 2)) (o + 483) x9 hI g1 (by omega)) gL_law_L_whyNot rfl hd_L_whyNot ⟨rfl, rfl⟩ ⟨Nat.le_of_ble_eq_true rfl, Nat.le_of_ble_eq_true rfl⟩ ⟨hWG, hWQ, hWO⟩ rfl hl.1 rfl (Nat.le_of_ble_eq_true rfl) dL_law_1509 ⟨by show _ ≤ 601024; omega, by show _ ≤ 7293034; omega⟩ hS (fun q h => by show o ≤ q; have := h.1; omega) (fun q h => by show o ≤ q; have := h.1; omega) (fun H locs hQ zH fH hS => ?_)
    have hR0 := hQ
    have hV1 := hR0
    have hk0 := bo_fr2 hWB (fun q hz hq => fH q hz (bl_ne hq (by omega)))
    have hk1 := gg_fr2 hWG (fun q hz hq => fH q hz (bl_ne hq (by omega)))
    have hk2 := md_fr2 hWM (fun q hz hq => fH q hz (bl_ne hq (by omega)))
    have hk4 := dz_fr2 hWQ (fun q hz hq => fH q hz (bl_ne hq (by omega)))
    have hk5 := tr_fr2 hWT (fun q hz hq => fH q hz (bl_ne hq (by omega)))
    have hk6 := hy_fr2 hWY (fun q hz hq => fH q hz (bl_ne hq (by omega)))
    refine lv_istore (lv' := [(5, .int (nI 1)), (0, .ref b), (1, .ref o), (2, .ref (o + 477)), (3, .ref (o + 483)), (4, .int (nI (4*j)))]) hx hb dL_law_1512 hl (by decide) rfl (fun ls hl => ?_)
    refine lv_aload_n hx hb dL_law_1514 rfl (lv_at hl 3 rfl) ?_
    refine lv_aload_n hx hb dL_law_1515 rfl (lv_at hl 1 rfl) ?_
    refine lv_iload hx hb dL_law_1516 (lv_at hl 5 rfl) ?_
    refine lv_iconst (v := nI 1) hx hb dL_law_1518 (by decide) ?_
    refine n_iadd (n := 4*j + 1) hx hb dL_law_1519 (by omega) ?_
    refine va_sld hx hb hX hbl hbA hS (vp_in_nI (by omega) (by omega)) dL_law_1520 ?_
    refine k_top (y := xs (4*j + 1)) (by rw [nI_clamp (by omega)]) ?_
    refine lv_aload_n hx hb dL_law_1521 rfl (lv_at hl 1 rfl) ?_
    refine lv_iload hx hb dL_law_1522 (lv_at hl 5 rfl) ?_
    refine lv_iconst (v := nI 2) hx hb dL_law_1524 (by decide) ?_
    refine n_iadd (n := 4*j + 2) hx hb dL_law_1525 (by omega) ?_
    refine va_sld hx hb hX hbl hbA hS (vp_in_nI (by omega) (by omega)) dL_law_1526 ?_
    refine k_top (y := xs (4*j + 2)) (by rw [nI_clamp (by omega)]) ?_
    refine k_VM (As := [.int (xs (4*j + 1)), .int (xs (4*j + 2))]) (rest := []) S hK (c_X7_whyNot_f1 l E (o + 477) z w (xs (4*j + 1)) (xs (4*j + 2)) hI g1) gL_law_X7_whyNot rfl hd_X7_whyNot ⟨rfl, rfl⟩ ⟨Nat.le_of_ble_eq_true rfl, Nat.le_of_ble_eq_true rfl⟩ (k_recv hK hk2.1 rfl) hk2 rfl hl.1 rfl (Nat.le_of_ble_eq_true rfl) dL_law_1527 ⟨by show _ ≤ 601024; omega, by show _ ≤ 7293034; omega⟩ hS (fun q h => by show o ≤ q; have := h.1; omega) (fun q h => by show o ≤ q; have := h.1; omega) (fun H locs hQ zH fH hS => ?_)
    have hP := hQ
    have hV2 := hP
    have hk0 := bo_fr2 hk0 (fun q hz hq => fH q hz (bl_ne hq (by omega)))
    have hk1 := gg_fr2 hk1 (fun q hz hq => fH q hz (bl_ne hq (by omega)))
    have hk3 := la_fr2 hV1 (fun q hz hq => fH q hz (bl_ne hq (by omega)))
    have hk4 := dz_fr2 hk4 (fun q hz hq => fH q hz (bl_ne hq (by omega)))
    have hk5 := tr_fr2 hk5 (fun q hz hq => fH q hz (bl_ne hq (by omega)))
    have hk6 := hy_fr2 hk6 (fun q hz hq => fH q hz (bl_ne hq (by omega)))
    refine lv_istore (lv' := [(6, .int (nI 0)), (5, .int (nI 1)), (0, .ref b), (1, .ref o), (2, .ref (o + 477)), (3, .ref (o + 483)), (4, .int (nI (4*j)))]) hx hb dL_law_1530 hl (by decide) rfl (fun ls hl => ?_)
    refine lv_aload_n hx hb dL_law_1532 rfl (lv_at hl 4 rfl) ?_
    refine k_V (As := []) (rest := []) S hK (c_X7_thrown l E (o + 477) z (w_th w (nI 1))) gL_law_X7_thrown rfl hd_X7_thrown ⟨rfl, rfl⟩ ⟨Nat.le_of_ble_eq_true rfl, Nat.le_of_ble_eq_true rfl⟩ (k_recv hK hV2.1 rfl) hV2 rfl hl.1 rfl (Nat.le_of_ble_eq_true rfl) dL_law_1533 ⟨by show _ ≤ 601024; omega, by show _ ≤ 7293034; omega⟩ ?_
    refine k_top (y := nI 1) rfl ?_
    refine lv_iload hx hb dL_law_1536 (lv_at hl 1 rfl) ?_
    refine n_ieq (tgt := 1543) hx hb dL_law_1538 (by decide) (by omega) (by omega) (fun c1538 => ?_) (fun h => absurd h (by decide))
    refine lv_iload hx hb dL_law_1543 (lv_at hl 1 rfl) ?_
    refine lv_if_ne (tgt := 1560) hx hb dL_law_1545 (by decide) (fun c1545 => ?_) (fun h => absurd h (by decide))
    refine lv_goto (tgt := 1824) hx hb dL_law_1560 (by decide) ?_
    refine W.widen (k := 484 + (j + 1)) (n := 5828 + 6*(j + 1)) (by omega) (by omega) ?_
    exact T z (w_th w (nI 1)) sn bn _ _ _ hPI (LI_mk hk1 hk4 hk5 hk6 hk0 hV2 hk3) hS (lv_sub hl [2, 3, 4, 5, 6] rfl)
set_option maxHeartbeats 4000000 in
set_option maxRecDepth 100000 in
theorem law_24 {p : Program} {l : Launch} {e : Env} {s : State} {m : MethodId} {below : List Frame} {meth : Method} {c : Code} {E : ke_E} {b o L j : Nat} {xs : Nat → Int32} {Q : State → Prop} (C : LC9 p l s m c E b o L xs) (hj : 4*j + 4 ≤ L) (T : LT9 p l e s m below meth c E b o j Q) : ∀ (z : Nat → Int32) (w : md_w) (sn bn : Nat) (H : Heap) (locs : List Loc) (ls : Array Slot), PI9 z w sn bn → LI9 E o z w sn bn H → va_S (nb o) s.heap H locs → lv_has ls 9 [(0, .ref b), (1, .ref o), (2, .ref (o + 477)), (3, .ref (o + 483)), (4, .int (nI (4*j)))] → W p l e room_1 s m #[.ref b] below meth c H locs (484 + j) (5828 + 6*j) Q (F0 m 1563 ls []) := by
  intro z w sn bn H locs ls hPI hLI hS hl
  obtain ⟨S, hlS, hK, hX9, hXh, hX, hbo, hsz9, hL⟩ := C
  have hx := S.1
  have hb := S.2.1
  have hts := S.2.2.2.2
  obtain ⟨hs, hsn, hbm, hbn, hk9, hrows⟩ := id hPI
  have hI := hk9.1
  have hJ := hk9.2.1
  have hpw := hk9.2.2
  have hc20 := iv_c hI
  obtain ⟨hWG, hWQ, hWT, hWY, hWB, hWM, x9, hWO⟩ := hLI
  have hbl : b < s.heap.size := by omega
  have hbA : ¬ nb o b := by show ¬ o ≤ b; omega
  by_cases g1 : inR (xs (4*j + 1)) (cn z)
  · obtain ⟨u, hu, eu⟩ := g1
    by_cases g2 : inR (xs (4*j + 2)) 3
    · obtain ⟨k, hk, ek⟩ := g2
      refine lv_aload_n hx hb dL_law_1563 rfl (lv_at hl 1 rfl) ?_
      refine lv_aload_n hx hb dL_law_1564 rfl (lv_at hl 0 rfl) ?_
      refine lv_iload hx hb dL_law_1565 (lv_at hl 4 rfl) ?_
      refine lv_iconst (v := nI 1) hx hb dL_law_1567 (by decide) ?_
      refine n_iadd (n := 4*j + 1) hx hb dL_law_1568 (by omega) ?_
      refine va_sld hx hb hX hbl hbA hS (vp_in_nI (by omega) (by omega)) dL_law_1569 ?_
      refine k_top (y := nI u) (by rw [nI_clamp (by omega)]; exact eu) ?_
      refine lv_aload_n hx hb dL_law_1570 rfl (lv_at hl 0 rfl) ?_
      refine lv_iload hx hb dL_law_1571 (lv_at hl 4 rfl) ?_
      refine lv_iconst (v := nI 2) hx hb dL_law_1573 (by decide) ?_
      refine n_iadd (n := 4*j + 2) hx hb dL_law_1574 (by omega) ?_
      refine va_sld hx hb hX hbl hbA hS (vp_in_nI (by omega) (by omega)) dL_law_1575 ?_
      refine k_top (y := nI k) (by rw [nI_clamp (by omega)]; exact ek) ?_
      refine lv_aload_n hx hb dL_law_1576 rfl (lv_at hl 3 rfl) ?_
      refine l_SW (As := [.ref o, .int (nI u), .int (nI k), .ref (o + 483)]) (rest := []) S hK hX9 hXh (c_L_ifRepaired l hlS E (nb o) o z u k (o + 483) x9 hI hu hk (by omega)) gL_law_L_ifRepaired rfl hd_L_ifRepaired ⟨rfl, rfl⟩ ⟨Nat.le_of_ble_eq_true rfl, Nat.le_of_ble_eq_true rfl⟩ ⟨hWG, hWQ, hWO⟩ rfl hl.1 rfl (Nat.le_of_ble_eq_true rfl) dL_law_1577 ⟨by show _ ≤ 601024; omega, by show _ ≤ 7293034; omega⟩ hS (fun q h => by show o ≤ q; have := h.1; omega) (fun q h => by show o ≤ q; have := h.1; omega) (fun H locs hQ zH fH hS => ?_)
      have hR0 := hQ
      have hV1 := hR0
      have hk0 := bo_fr2 hWB (fun q hz hq => fH q hz (bl_ne hq (by omega)))
      have hk1 := gg_fr2 hWG (fun q hz hq => fH q hz (bl_ne hq (by omega)))
      have hk2 := md_fr2 hWM (fun q hz hq => fH q hz (bl_ne hq (by omega)))
      have hk4 := dz_fr2 hWQ (fun q hz hq => fH q hz (bl_ne hq (by omega)))
      have hk5 := tr_fr2 hWT (fun q hz hq => fH q hz (bl_ne hq (by omega)))
      have hk6 := hy_fr2 hWY (fun q hz hq => fH q hz (bl_ne hq (by omega)))
      refine lv_istore (lv' := [(5, .int (nI 0)), (0, .ref b), (1, .ref o), (2, .ref (o + 477)), (3, .ref (o + 483)), (4, .int (nI (4*j)))]) hx hb dL_law_1580 hl (by decide) rfl (fun ls hl => ?_)
      refine lv_aload_n hx hb dL_law_1582 rfl (lv_at hl 3 rfl) ?_
      refine lv_aload_n hx hb dL_law_1583 rfl (lv_at hl 1 rfl) ?_
      refine lv_iload hx hb dL_law_1584 (lv_at hl 5 rfl) ?_
      refine lv_iconst (v := nI 1) hx hb dL_law_1586 (by decide) ?_
      refine n_iadd (n := 4*j + 1) hx hb dL_law_1587 (by omega) ?_
      refine va_sld hx hb hX hbl hbA hS (vp_in_nI (by omega) (by omega)) dL_law_1588 ?_
      refine k_top (y := nI u) (by rw [nI_clamp (by omega)]; exact eu) ?_
      refine lv_aload_n hx hb dL_law_1589 rfl (lv_at hl 1 rfl) ?_
      refine lv_iload hx hb dL_law_1590 (lv_at hl 5 rfl) ?_
      refine lv_iconst (v := nI 2) hx hb dL_law_1592 (by decide) ?_
      refine n_iadd (n := 4*j + 2) hx hb dL_law_1593 (by omega) ?_
      refine va_sld hx hb hX hbl hbA hS (vp_in_nI (by omega) (by omega)) dL_law_1594 ?_
      refine k_top (y := nI k) (by rw [nI_clamp (by omega)]; exact ek) ?_
      refine k_VM (As := [.int (nI u), .int (nI k)]) (rest := []) S hK (c_X7_ifRepaired l E (o + 477) z w u k hI hu hk) gL_law_X7_ifRepaired rfl hd_X7_ifRepaired ⟨rfl, rfl⟩ ⟨Nat.le_of_ble_eq_true rfl, Nat.le_of_ble_eq_true rfl⟩ (k_recv hK hk2.1 rfl) hk2 rfl hl.1 rfl (Nat.le_of_ble_eq_true rfl) dL_law_1595 ⟨by show _ ≤ 601024; omega, by show _ ≤ 7293034; omega⟩ hS (fun q h => by show o ≤ q; have := h.1; omega) (fun q h => by show o ≤ q; have := h.1; omega) (fun H locs hQ zH fH hS => ?_)
      have hP := hQ
      have hV2 := hP
      have hk0 := bo_fr2 hk0 (fun q hz hq => fH q hz (bl_ne hq (by omega)))
      have hk1 := gg_fr2 hk1 (fun q hz hq => fH q hz (bl_ne hq (by omega)))
      have hk3 := la_fr2 hV1 (fun q hz hq => fH q hz (bl_ne hq (by omega)))
      have hk4 := dz_fr2 hk4 (fun q hz hq => fH q hz (bl_ne hq (by omega)))
      have hk5 := tr_fr2 hk5 (fun q hz hq => fH q hz (bl_ne hq (by omega)))
      have hk6 := hy_fr2 hk6 (fun q hz hq => fH q hz (bl_ne hq (by omega)))
      refine lv_istore (lv' := [(6, .int (rpV z u k)), (5, .int (nI 0)), (0, .ref b), (1, .ref o), (2, .ref (o + 477)), (3, .ref (o + 483)), (4, .int (nI (4*j)))]) hx hb dL_law_1598 hl (by decide) rfl (fun ls hl => ?_)
      refine lv_aload_n hx hb dL_law_1600 rfl (lv_at hl 4 rfl) ?_
      refine k_V (As := []) (rest := []) S hK (c_X7_thrown l E (o + 477) z (w_th w (nI 0))) gL_law_X7_thrown rfl hd_X7_thrown ⟨rfl, rfl⟩ ⟨Nat.le_of_ble_eq_true rfl, Nat.le_of_ble_eq_true rfl⟩ (k_recv hK hV2.1 rfl) hV2 rfl hl.1 rfl (Nat.le_of_ble_eq_true rfl) dL_law_1601 ⟨by show _ ≤ 601024; omega, by show _ ≤ 7293034; omega⟩ ?_
      refine k_top (y := nI 0) rfl ?_
      refine lv_iload hx hb dL_law_1604 (lv_at hl 1 rfl) ?_
      refine n_ieq (tgt := 1611) hx hb dL_law_1606 (by decide) (by omega) (by omega) (fun c1606 => ?_) (fun h => absurd h (by decide))
      refine lv_iload hx hb dL_law_1611 (lv_at hl 1 rfl) ?_
      refine lv_if_ne (tgt := 1628) hx hb dL_law_1613 (by decide) (fun h => absurd h (by decide)) (fun c1613 => ?_)
      refine lv_aload_n hx hb dL_law_1616 rfl (lv_at hl 5 rfl) ?_
      refine lv_iconst (v := nI 0) hx hb dL_law_1617 (by decide) ?_
      refine l_lald hx hb hK hk3 dL_law_1618 ?_
      refine lv_iload hx hb dL_law_1619 (lv_at hl 0 rfl) ?_
      refine lv_i2l hx hb dL_law_1621 rfl ?_
      refine l_lcmp hx hb dL_law_1622 ?_
      refine lv_if_eq (tgt := 1628) hx hb dL_law_1623 (by decide) (fun c1623 => ?_) (fun h => absurd h (by decide))
      refine lv_goto (tgt := 1824) hx hb dL_law_1628 (by decide) ?_
      refine W.widen (k := 484 + (j + 1)) (n := 5828 + 6*(j + 1)) (by omega) (by omega) ?_
      exact T z (w_th w (nI 0)) sn bn _ _ _ hPI (LI_mk hk1 hk4 hk5 hk6 hk0 hV2 hk3) hS (lv_sub hl [2, 3, 4, 5, 6] rfl)
    · refine lv_aload_n hx hb dL_law_1563 rfl (lv_at hl 1 rfl) ?_
      refine lv_aload_n hx hb dL_law_1564 rfl (lv_at hl 0 rfl) ?_
      refine lv_iload hx hb dL_law_1565 (lv_at hl 4 rfl) ?_
      refine lv_iconst (v := nI 1) hx hb dL_law_1567 (by decide) ?_
      refine n_iadd (n := 4*j + 1) hx hb dL_law_1568 (by omega) ?_
      refine va_sld hx hb hX hbl hbA hS (vp_in_nI (by omega) (by omega)) dL_law_1569 ?_
      refine k_top (y := nI u) (by rw [nI_clamp (by omega)]; exact eu) ?_
      refine lv_aload_n hx hb dL_law_1570 rfl (lv_at hl 0 rfl) ?_
      refine lv_iload hx hb dL_law_1571 (lv_at hl 4 rfl) ?_
      refine lv_iconst (v := nI 2) hx hb dL_law_1573 (by decide) ?_
      refine n_iadd (n := 4*j + 2) hx hb dL_law_1574 (by omega) ?_
      refine va_sld hx hb hX hbl hbA hS (vp_in_nI (by omega) (by omega)) dL_law_1575 ?_
      refine k_top (y := xs (4*j + 2)) (by rw [nI_clamp (by omega)]) ?_
      refine lv_aload_n hx hb dL_law_1576 rfl (lv_at hl 3 rfl) ?_
      refine l_SW (As := [.ref o, .int (nI u), .int (xs (4*j + 2)), .ref (o + 483)]) (rest := []) S hK hX9 hXh (y_L_ifRepaired_2 l hlS E (nb o) o z u (xs (4*j + 2)) (o + 483) x9 hI hu g2 (by omega)) gL_law_L_ifRepaired rfl hd_L_ifRepaired ⟨rfl, rfl⟩ ⟨Nat.le_of_ble_eq_true rfl, Nat.le_of_ble_eq_true rfl⟩ ⟨hWG, hWQ, hWO⟩ rfl hl.1 rfl (Nat.le_of_ble_eq_true rfl) dL_law_1577 ⟨by show _ ≤ 601024; omega, by show _ ≤ 7293034; omega⟩ hS (fun q h => by show o ≤ q; have := h.1; omega) (fun q h => by show o ≤ q; have := h.1; omega) (fun H locs hQ zH fH hS => ?_)
      have hR0 := hQ
      have hV1 := hR0
      have hk0 := bo_fr2 hWB (fun q hz hq => fH q hz (bl_ne hq (by omega)))
      have hk1 := gg_fr2 hWG (fun q hz hq => fH q hz (bl_ne hq (by omega)))
      have hk2 := md_fr2 hWM (fun q hz hq => fH q hz (bl_ne hq (by omega)))
      have hk4 := dz_fr2 hWQ (fun q hz hq => fH q hz (bl_ne hq (by omega)))
      have hk5 := tr_fr2 hWT (fun q hz hq => fH q hz (bl_ne hq (by omega)))
      have hk6 := hy_fr2 hWY (fun q hz hq => fH q hz (bl_ne hq (by omega)))
      refine lv_istore (lv' := [(5, .int (nI 2)), (0, .ref b), (1, .ref o), (2, .ref (o + 477)), (3, .ref (o + 483)), (4, .int (nI (4*j)))]) hx hb dL_law_1580 hl (by decide) rfl (fun ls hl => ?_)
      refine lv_aload_n hx hb dL_law_1582 rfl (lv_at hl 3 rfl) ?_
      refine lv_aload_n hx hb dL_law_1583 rfl (lv_at hl 1 rfl) ?_
      refine lv_iload hx hb dL_law_1584 (lv_at hl 5 rfl) ?_
      refine lv_iconst (v := nI 1) hx hb dL_law_1586 (by decide) ?_
      refine n_iadd (n := 4*j + 1) hx hb dL_law_1587 (by omega) ?_
      refine va_sld hx hb hX hbl hbA hS (vp_in_nI (by omega) (by omega)) dL_law_1588 ?_
      refine k_top (y := nI u) (by rw [nI_clamp (by omega)]; exact eu) ?_
      refine lv_aload_n hx hb dL_law_1589 rfl (lv_at hl 1 rfl) ?_
      refine lv_iload hx hb dL_law_1590 (lv_at hl 5 rfl) ?_
      refine lv_iconst (v := nI 2) hx hb dL_law_1592 (by decide) ?_
      refine n_iadd (n := 4*j + 2) hx hb dL_law_1593 (by omega) ?_
      refine va_sld hx hb hX hbl hbA hS (vp_in_nI (by omega) (by omega)) dL_law_1594 ?_
      refine k_top (y := xs (4*j + 2)) (by rw [nI_clamp (by omega)]) ?_
      refine k_VM (As := [.int (nI u), .int (xs (4*j + 2))]) (rest := []) S hK (c_X7_ifRepaired_f2 l E (o + 477) z w u (xs (4*j + 2)) hI hu g2) gL_law_X7_ifRepaired rfl hd_X7_ifRepaired ⟨rfl, rfl⟩ ⟨Nat.le_of_ble_eq_true rfl, Nat.le_of_ble_eq_true rfl⟩ (k_recv hK hk2.1 rfl) hk2 rfl hl.1 rfl (Nat.le_of_ble_eq_true rfl) dL_law_1595 ⟨by show _ ≤ 601024; omega, by show _ ≤ 7293034; omega⟩ hS (fun q h => by show o ≤ q; have := h.1; omega) (fun q h => by show o ≤ q; have := h.1; omega) (fun H locs hQ zH fH hS => ?_)
      have hP := hQ
      have hV2 := hP
      have hk0 := bo_fr2 hk0 (fun q hz hq => fH q hz (bl_ne hq (by omega)))
      have hk1 := gg_fr2 hk1 (fun q hz hq => fH q hz (bl_ne hq (by omega)))
      have hk3 := la_fr2 hV1 (fun q hz hq => fH q hz (bl_ne hq (by omega)))
      have hk4 := dz_fr2 hk4 (fun q hz hq => fH q hz (bl_ne hq (by omega)))
      have hk5 := tr_fr2 hk5 (fun q hz hq => fH q hz (bl_ne hq (by omega)))
      have hk6 := hy_fr2 hk6 (fun q hz hq => fH q hz (bl_ne hq (by omega)))
      refine lv_istore (lv' := [(6, .int (nI 0)), (5, .int (nI 2)), (0, .ref b), (1, .ref o), (2, .ref (o + 477)), (3, .ref (o + 483)), (4, .int (nI (4*j)))]) hx hb dL_law_1598 hl (by decide) rfl (fun ls hl => ?_)
      refine lv_aload_n hx hb dL_law_1600 rfl (lv_at hl 4 rfl) ?_
      refine k_V (As := []) (rest := []) S hK (c_X7_thrown l E (o + 477) z (w_th w (nI 2))) gL_law_X7_thrown rfl hd_X7_thrown ⟨rfl, rfl⟩ ⟨Nat.le_of_ble_eq_true rfl, Nat.le_of_ble_eq_true rfl⟩ (k_recv hK hV2.1 rfl) hV2 rfl hl.1 rfl (Nat.le_of_ble_eq_true rfl) dL_law_1601 ⟨by show _ ≤ 601024; omega, by show _ ≤ 7293034; omega⟩ ?_
      refine k_top (y := nI 2) rfl ?_
      refine lv_iload hx hb dL_law_1604 (lv_at hl 1 rfl) ?_
      refine n_ieq (tgt := 1611) hx hb dL_law_1606 (by decide) (by omega) (by omega) (fun c1606 => ?_) (fun h => absurd h (by decide))
      refine lv_iload hx hb dL_law_1611 (lv_at hl 1 rfl) ?_
      refine lv_if_ne (tgt := 1628) hx hb dL_law_1613 (by decide) (fun c1613 => ?_) (fun h => absurd h (by decide))
      refine lv_goto (tgt := 1824) hx hb dL_law_1628 (by decide) ?_
      refine W.widen (k := 484 + (j + 1)) (n := 5828 + 6*(j + 1)) (by omega) (by omega) ?_
      exact T z (w_th w (nI 2)) sn bn _ _ _ hPI (LI_mk hk1 hk4 hk5 hk6 hk0 hV2 hk3) hS (lv_sub hl [2, 3, 4, 5, 6] rfl)
  · refine lv_aload_n hx hb dL_law_1563 rfl (lv_at hl 1 rfl) ?_
    refine lv_aload_n hx hb dL_law_1564 rfl (lv_at hl 0 rfl) ?_
    refine lv_iload hx hb dL_law_1565 (lv_at hl 4 rfl) ?_
    refine lv_iconst (v := nI 1) hx hb dL_law_1567 (by decide) ?_
    refine n_iadd (n := 4*j + 1) hx hb dL_law_1568 (by omega) ?_
    refine va_sld hx hb hX hbl hbA hS (vp_in_nI (by omega) (by omega)) dL_law_1569 ?_
    refine k_top (y := xs (4*j + 1)) (by rw [nI_clamp (by omega)]) ?_
    refine lv_aload_n hx hb dL_law_1570 rfl (lv_at hl 0 rfl) ?_
    refine lv_iload hx hb dL_law_1571 (lv_at hl 4 rfl) ?_
    refine lv_iconst (v := nI 2) hx hb dL_law_1573 (by decide) ?_
    refine n_iadd (n := 4*j + 2) hx hb dL_law_1574 (by omega) ?_
    refine va_sld hx hb hX hbl hbA hS (vp_in_nI (by omega) (by omega)) dL_law_1575 ?_
    refine k_top (y := xs (4*j + 2)) (by rw [nI_clamp (by omega)]) ?_
    refine lv_aload_n hx hb dL_law_1576 rfl (lv_at hl 3 rfl) ?_
    refine l_SW (As := [.ref o, .int (xs (4*j + 1)), .int (xs (4*j + 2)), .ref (o + 483)]) (rest := []) S hK hX9 hXh (y_L_ifRepaired_1 l hlS E (nb o) o z (xs (4*j + 1)) (xs (4*j + 2)) (o + 483) x9 hI g1 (by omega)) gL_law_L_ifRepaired rfl hd_L_ifRepaired ⟨rfl, rfl⟩ ⟨Nat.le_of_ble_eq_true rfl, Nat.le_of_ble_eq_true rfl⟩ ⟨hWG, hWQ, hWO⟩ rfl hl.1 rfl (Nat.le_of_ble_eq_true rfl) dL_law_1577 ⟨by show _ ≤ 601024; omega, by show _ ≤ 7293034; omega⟩ hS (fun q h => by show o ≤ q; have := h.1; omega) (fun q h => by show o ≤ q; have := h.1; omega) (fun H locs hQ zH fH hS => ?_)
    have hR0 := hQ
    have hV1 := hR0
    have hk0 := bo_fr2 hWB (fun q hz hq => fH q hz (bl_ne hq (by omega)))
    have hk1 := gg_fr2 hWG (fun q hz hq => fH q hz (bl_ne hq (by omega)))
    have hk2 := md_fr2 hWM (fun q hz hq => fH q hz (bl_ne hq (by omega)))
    have hk4 := dz_fr2 hWQ (fun q hz hq => fH q hz (bl_ne hq (by omega)))
    have hk5 := tr_fr2 hWT (fun q hz hq => fH q hz (bl_ne hq (by omega)))
    have hk6 := hy_fr2 hWY (fun q hz hq => fH q hz (bl_ne hq (by omega)))
    refine lv_istore (lv' := [(5, .int (nI 1)), (0, .ref b), (1, .ref o), (2, .ref (o + 477)), (3, .ref (o + 483)), (4, .int (nI (4*j)))]) hx hb dL_law_1580 hl (by decide) rfl (fun ls hl => ?_)
    refine lv_aload_n hx hb dL_law_1582 rfl (lv_at hl 3 rfl) ?_
    refine lv_aload_n hx hb dL_law_1583 rfl (lv_at hl 1 rfl) ?_
    refine lv_iload hx hb dL_law_1584 (lv_at hl 5 rfl) ?_
    refine lv_iconst (v := nI 1) hx hb dL_law_1586 (by decide) ?_
    refine n_iadd (n := 4*j + 1) hx hb dL_law_1587 (by omega) ?_
    refine va_sld hx hb hX hbl hbA hS (vp_in_nI (by omega) (by omega)) dL_law_1588 ?_
    refine k_top (y := xs (4*j + 1)) (by rw [nI_clamp (by omega)]) ?_
    refine lv_aload_n hx hb dL_law_1589 rfl (lv_at hl 1 rfl) ?_
    refine lv_iload hx hb dL_law_1590 (lv_at hl 5 rfl) ?_
    refine lv_iconst (v := nI 2) hx hb dL_law_1592 (by decide) ?_
    refine n_iadd (n := 4*j + 2) hx hb dL_law_1593 (by omega) ?_
    refine va_sld hx hb hX hbl hbA hS (vp_in_nI (by omega) (by omega)) dL_law_1594 ?_
    refine k_top (y := xs (4*j + 2)) (by rw [nI_clamp (by omega)]) ?_
    refine k_VM (As := [.int (xs (4*j + 1)), .int (xs (4*j + 2))]) (rest := []) S hK (c_X7_ifRepaired_f1 l E (o + 477) z w (xs (4*j + 1)) (xs (4*j + 2)) hI g1) gL_law_X7_ifRepaired rfl hd_X7_ifRepaired ⟨rfl, rfl⟩ ⟨Nat.le_of_ble_eq_true rfl, Nat.le_of_ble_eq_true rfl⟩ (k_recv hK hk2.1 rfl) hk2 rfl hl.1 rfl (Nat.le_of_ble_eq_true rfl) dL_law_1595 ⟨by show _ ≤ 601024; omega, by show _ ≤ 7293034; omega⟩ hS (fun q h => by show o ≤ q; have := h.1; omega) (fun q h => by show o ≤ q; have := h.1; omega) (fun H locs hQ zH fH hS => ?_)
    have hP := hQ
    have hV2 := hP
    have hk0 := bo_fr2 hk0 (fun q hz hq => fH q hz (bl_ne hq (by omega)))
    have hk1 := gg_fr2 hk1 (fun q hz hq => fH q hz (bl_ne hq (by omega)))
    have hk3 := la_fr2 hV1 (fun q hz hq => fH q hz (bl_ne hq (by omega)))
    have hk4 := dz_fr2 hk4 (fun q hz hq => fH q hz (bl_ne hq (by omega)))
    have hk5 := tr_fr2 hk5 (fun q hz hq => fH q hz (bl_ne hq (by omega)))
    have hk6 := hy_fr2 hk6 (fun q hz hq => fH q hz (bl_ne hq (by omega)))
    refine lv_istore (lv' := [(6, .int (nI 0)), (5, .int (nI 1)), (0, .ref b), (1, .ref o), (2, .ref (o + 477)), (3, .ref (o + 483)), (4, .int (nI (4*j)))]) hx hb dL_law_1598 hl (by decide) rfl (fun ls hl => ?_)
    refine lv_aload_n hx hb dL_law_1600 rfl (lv_at hl 4 rfl) ?_
    refine k_V (As := []) (rest := []) S hK (c_X7_thrown l E (o + 477) z (w_th w (nI 1))) gL_law_X7_thrown rfl hd_X7_thrown ⟨rfl, rfl⟩ ⟨Nat.le_of_ble_eq_true rfl, Nat.le_of_ble_eq_true rfl⟩ (k_recv hK hV2.1 rfl) hV2 rfl hl.1 rfl (Nat.le_of_ble_eq_true rfl) dL_law_1601 ⟨by show _ ≤ 601024; omega, by show _ ≤ 7293034; omega⟩ ?_
    refine k_top (y := nI 1) rfl ?_
    refine lv_iload hx hb dL_law_1604 (lv_at hl 1 rfl) ?_
    refine n_ieq (tgt := 1611) hx hb dL_law_1606 (by decide) (by omega) (by omega) (fun c1606 => ?_) (fun h => absurd h (by decide))
    refine lv_iload hx hb dL_law_1611 (lv_at hl 1 rfl) ?_
    refine lv_if_ne (tgt := 1628) hx hb dL_law_1613 (by decide) (fun c1613 => ?_) (fun h => absurd h (by decide))
    refine lv_goto (tgt := 1824) hx hb dL_law_1628 (by decide) ?_
    refine W.widen (k := 484 + (j + 1)) (n := 5828 + 6*(j + 1)) (by omega) (by omega) ?_
    exact T z (w_th w (nI 1)) sn bn _ _ _ hPI (LI_mk hk1 hk4 hk5 hk6 hk0 hV2 hk3) hS (lv_sub hl [2, 3, 4, 5, 6] rfl)
set_option maxHeartbeats 4000000 in
set_option maxRecDepth 100000 in
theorem law_25 {p : Program} {l : Launch} {e : Env} {s : State} {m : MethodId} {below : List Frame} {meth : Method} {c : Code} {E : ke_E} {b o L j : Nat} {xs : Nat → Int32} {Q : State → Prop} (C : LC9 p l s m c E b o L xs) (hj : 4*j + 4 ≤ L) (T : LT9 p l e s m below meth c E b o j Q) : ∀ (z : Nat → Int32) (w : md_w) (sn bn : Nat) (H : Heap) (locs : List Loc) (ls : Array Slot), PI9 z w sn bn → LI9 E o z w sn bn H → va_S (nb o) s.heap H locs → lv_has ls 9 [(0, .ref b), (1, .ref o), (2, .ref (o + 477)), (3, .ref (o + 483)), (4, .int (nI (4*j)))] → W p l e room_1 s m #[.ref b] below meth c H locs (484 + j) (5828 + 6*j) Q (F0 m 1631 ls []) := by
  intro z w sn bn H locs ls hPI hLI hS hl
  obtain ⟨S, hlS, hK, hX9, hXh, hX, hbo, hsz9, hL⟩ := C
  have hx := S.1
  have hb := S.2.1
  have hts := S.2.2.2.2
  obtain ⟨hs, hsn, hbm, hbn, hk9, hrows⟩ := id hPI
  have hI := hk9.1
  have hJ := hk9.2.1
  have hpw := hk9.2.2
  have hc20 := iv_c hI
  obtain ⟨hWG, hWQ, hWT, hWY, hWB, hWM, x9, hWO⟩ := hLI
  have hbl : b < s.heap.size := by omega
  have hbA : ¬ nb o b := by show ¬ o ≤ b; omega
  by_cases g1 : inR (xs (4*j + 1)) (cn z)
  · obtain ⟨u, hu, eu⟩ := g1
    refine lv_aload_n hx hb dL_law_1631 rfl (lv_at hl 1 rfl) ?_
    refine lv_aload_n hx hb dL_law_1632 rfl (lv_at hl 0 rfl) ?_
    refine lv_iload hx hb dL_law_1633 (lv_at hl 4 rfl) ?_
    refine lv_iconst (v := nI 1) hx hb dL_law_1635 (by decide) ?_
    refine n_iadd (n := 4*j + 1) hx hb dL_law_1636 (by omega) ?_
    refine va_sld hx hb hX hbl hbA hS (vp_in_nI (by omega) (by omega)) dL_law_1637 ?_
    refine k_top (y := nI u) (by rw [nI_clamp (by omega)]; exact eu) ?_
    refine lv_aload_n hx hb dL_law_1638 rfl (lv_at hl 3 rfl) ?_
    refine l_SW (As := [.ref o, .int (nI u), .ref (o + 483)]) (rest := []) S hK hX9 hXh (c_L_bestRoute l hlS E (nb o) o z u (o + 483) x9 hI hu (by omega)) gL_law_L_bestRoute rfl hd_L_bestRoute ⟨rfl, rfl⟩ ⟨Nat.le_of_ble_eq_true rfl, Nat.le_of_ble_eq_true rfl⟩ ⟨hWG, hWQ, hWO⟩ rfl hl.1 rfl (Nat.le_of_ble_eq_true rfl) dL_law_1639 ⟨by show _ ≤ 601024; omega, by show _ ≤ 7293034; omega⟩ hS (fun q h => by show o ≤ q; have := h.1; omega) (fun q h => by show o ≤ q; have := h.1; omega) (fun H locs hQ zH fH hS => ?_)
    have hR0 := hQ
    have hV1 := hR0
    have hk0 := bo_fr2 hWB (fun q hz hq => fH q hz (bl_ne hq (by omega)))
    have hk1 := gg_fr2 hWG (fun q hz hq => fH q hz (bl_ne hq (by omega)))
    have hk2 := md_fr2 hWM (fun q hz hq => fH q hz (bl_ne hq (by omega)))
    have hk4 := dz_fr2 hWQ (fun q hz hq => fH q hz (bl_ne hq (by omega)))
    have hk5 := tr_fr2 hWT (fun q hz hq => fH q hz (bl_ne hq (by omega)))
    have hk6 := hy_fr2 hWY (fun q hz hq => fH q hz (bl_ne hq (by omega)))
    refine lv_istore (lv' := [(5, .int (nI 0)), (0, .ref b), (1, .ref o), (2, .ref (o + 477)), (3, .ref (o + 483)), (4, .int (nI (4*j)))]) hx hb dL_law_1642 hl (by decide) rfl (fun ls hl => ?_)
    refine lv_aload_n hx hb dL_law_1644 rfl (lv_at hl 3 rfl) ?_
    refine lv_aload_n hx hb dL_law_1645 rfl (lv_at hl 1 rfl) ?_
    refine lv_iload hx hb dL_law_1646 (lv_at hl 5 rfl) ?_
    refine lv_iconst (v := nI 1) hx hb dL_law_1648 (by decide) ?_
    refine n_iadd (n := 4*j + 1) hx hb dL_law_1649 (by omega) ?_
    refine va_sld hx hb hX hbl hbA hS (vp_in_nI (by omega) (by omega)) dL_law_1650 ?_
    refine k_top (y := nI u) (by rw [nI_clamp (by omega)]; exact eu) ?_
    refine k_VM (As := [.int (nI u)]) (rest := []) S hK (c_X7_bestRoute l E (o + 477) z w u hI hu) gL_law_X7_bestRoute rfl hd_X7_bestRoute ⟨rfl, rfl⟩ ⟨Nat.le_of_ble_eq_true rfl, Nat.le_of_ble_eq_true rfl⟩ (k_recv hK hk2.1 rfl) hk2 rfl hl.1 rfl (Nat.le_of_ble_eq_true rfl) dL_law_1651 ⟨by show _ ≤ 601024; omega, by show _ ≤ 7293034; omega⟩ hS (fun q h => by show o ≤ q; have := h.1; omega) (fun q h => by show o ≤ q; have := h.1; omega) (fun H locs hQ zH fH hS => ?_)
    have hP := hQ
    have hV2 := hP
    have hk0 := bo_fr2 hk0 (fun q hz hq => fH q hz (bl_ne hq (by omega)))
    have hk1 := gg_fr2 hk1 (fun q hz hq => fH q hz (bl_ne hq (by omega)))
    have hk3 := la_fr2 hV1 (fun q hz hq => fH q hz (bl_ne hq (by omega)))
    have hk4 := dz_fr2 hk4 (fun q hz hq => fH q hz (bl_ne hq (by omega)))
    have hk5 := tr_fr2 hk5 (fun q hz hq => fH q hz (bl_ne hq (by omega)))
    have hk6 := hy_fr2 hk6 (fun q hz hq => fH q hz (bl_ne hq (by omega)))
    refine lv_istore (lv' := [(6, .int (rt z u 5).1), (5, .int (nI 0)), (0, .ref b), (1, .ref o), (2, .ref (o + 477)), (3, .ref (o + 483)), (4, .int (nI (4*j)))]) hx hb dL_law_1654 hl (by decide) rfl (fun ls hl => ?_)
    refine lv_aload_n hx hb dL_law_1656 rfl (lv_at hl 4 rfl) ?_
    refine k_V (As := []) (rest := []) S hK (c_X7_thrown l E (o + 477) z (w_th w (nI 0))) gL_law_X7_thrown rfl hd_X7_thrown ⟨rfl, rfl⟩ ⟨Nat.le_of_ble_eq_true rfl, Nat.le_of_ble_eq_true rfl⟩ (k_recv hK hV2.1 rfl) hV2 rfl hl.1 rfl (Nat.le_of_ble_eq_true rfl) dL_law_1657 ⟨by show _ ≤ 601024; omega, by show _ ≤ 7293034; omega⟩ ?_
    refine k_top (y := nI 0) rfl ?_
    refine lv_iload hx hb dL_law_1660 (lv_at hl 1 rfl) ?_
    refine n_ieq (tgt := 1667) hx hb dL_law_1662 (by decide) (by omega) (by omega) (fun c1662 => ?_) (fun h => absurd h (by decide))
    refine lv_iload hx hb dL_law_1667 (lv_at hl 1 rfl) ?_
    refine lv_if_ne (tgt := 1684) hx hb dL_law_1669 (by decide) (fun h => absurd h (by decide)) (fun c1669 => ?_)
    refine lv_aload_n hx hb dL_law_1672 rfl (lv_at hl 5 rfl) ?_
    refine lv_iconst (v := nI 0) hx hb dL_law_1673 (by decide) ?_
    refine l_lald hx hb hK hk3 dL_law_1674 ?_
    refine lv_iload hx hb dL_law_1675 (lv_at hl 0 rfl) ?_
    refine lv_i2l hx hb dL_law_1677 rfl ?_
    refine l_lcmp hx hb dL_law_1678 ?_
    refine lv_if_eq (tgt := 1684) hx hb dL_law_1679 (by decide) (fun c1679 => ?_) (fun h => absurd h (by decide))
    refine lv_goto (tgt := 1824) hx hb dL_law_1684 (by decide) ?_
    refine W.widen (k := 484 + (j + 1)) (n := 5828 + 6*(j + 1)) (by omega) (by omega) ?_
    exact T z (w_th w (nI 0)) sn bn _ _ _ hPI (LI_mk hk1 hk4 hk5 hk6 hk0 hV2 hk3) hS (lv_sub hl [2, 3, 4, 5, 6] rfl)
  · refine lv_aload_n hx hb dL_law_1631 rfl (lv_at hl 1 rfl) ?_
    refine lv_aload_n hx hb dL_law_1632 rfl (lv_at hl 0 rfl) ?_
    refine lv_iload hx hb dL_law_1633 (lv_at hl 4 rfl) ?_
    refine lv_iconst (v := nI 1) hx hb dL_law_1635 (by decide) ?_
    refine n_iadd (n := 4*j + 1) hx hb dL_law_1636 (by omega) ?_
    refine va_sld hx hb hX hbl hbA hS (vp_in_nI (by omega) (by omega)) dL_law_1637 ?_
    refine k_top (y := xs (4*j + 1)) (by rw [nI_clamp (by omega)]) ?_
    refine lv_aload_n hx hb dL_law_1638 rfl (lv_at hl 3 rfl) ?_
    refine l_SW (As := [.ref o, .int (xs (4*j + 1)), .ref (o + 483)]) (rest := []) S hK hX9 hXh (y_L_bestRoute_1 l hlS E (nb o) o z (xs (4*j + 1)) (o + 483) x9 hI g1 (by omega)) gL_law_L_bestRoute rfl hd_L_bestRoute ⟨rfl, rfl⟩ ⟨Nat.le_of_ble_eq_true rfl, Nat.le_of_ble_eq_true rfl⟩ ⟨hWG, hWQ, hWO⟩ rfl hl.1 rfl (Nat.le_of_ble_eq_true rfl) dL_law_1639 ⟨by show _ ≤ 601024; omega, by show _ ≤ 7293034; omega⟩ hS (fun q h => by show o ≤ q; have := h.1; omega) (fun q h => by show o ≤ q; have := h.1; omega) (fun H locs hQ zH fH hS => ?_)
    have hR0 := hQ
    have hV1 := hR0
    have hk0 := bo_fr2 hWB (fun q hz hq => fH q hz (bl_ne hq (by omega)))
    have hk1 := gg_fr2 hWG (fun q hz hq => fH q hz (bl_ne hq (by omega)))
    have hk2 := md_fr2 hWM (fun q hz hq => fH q hz (bl_ne hq (by omega)))
    have hk4 := dz_fr2 hWQ (fun q hz hq => fH q hz (bl_ne hq (by omega)))
    have hk5 := tr_fr2 hWT (fun q hz hq => fH q hz (bl_ne hq (by omega)))
    have hk6 := hy_fr2 hWY (fun q hz hq => fH q hz (bl_ne hq (by omega)))
    refine lv_istore (lv' := [(5, .int (nI 1)), (0, .ref b), (1, .ref o), (2, .ref (o + 477)), (3, .ref (o + 483)), (4, .int (nI (4*j)))]) hx hb dL_law_1642 hl (by decide) rfl (fun ls hl => ?_)
    refine lv_aload_n hx hb dL_law_1644 rfl (lv_at hl 3 rfl) ?_
    refine lv_aload_n hx hb dL_law_1645 rfl (lv_at hl 1 rfl) ?_
    refine lv_iload hx hb dL_law_1646 (lv_at hl 5 rfl) ?_
    refine lv_iconst (v := nI 1) hx hb dL_law_1648 (by decide) ?_
    refine n_iadd (n := 4*j + 1) hx hb dL_law_1649 (by omega) ?_
    refine va_sld hx hb hX hbl hbA hS (vp_in_nI (by omega) (by omega)) dL_law_1650 ?_
    refine k_top (y := xs (4*j + 1)) (by rw [nI_clamp (by omega)]) ?_
    refine k_VM (As := [.int (xs (4*j + 1))]) (rest := []) S hK (c_X7_bestRoute_f1 l E (o + 477) z w (xs (4*j + 1)) hI g1) gL_law_X7_bestRoute rfl hd_X7_bestRoute ⟨rfl, rfl⟩ ⟨Nat.le_of_ble_eq_true rfl, Nat.le_of_ble_eq_true rfl⟩ (k_recv hK hk2.1 rfl) hk2 rfl hl.1 rfl (Nat.le_of_ble_eq_true rfl) dL_law_1651 ⟨by show _ ≤ 601024; omega, by show _ ≤ 7293034; omega⟩ hS (fun q h => by show o ≤ q; have := h.1; omega) (fun q h => by show o ≤ q; have := h.1; omega) (fun H locs hQ zH fH hS => ?_)
    have hP := hQ
    have hV2 := hP
    have hk0 := bo_fr2 hk0 (fun q hz hq => fH q hz (bl_ne hq (by omega)))
    have hk1 := gg_fr2 hk1 (fun q hz hq => fH q hz (bl_ne hq (by omega)))
    have hk3 := la_fr2 hV1 (fun q hz hq => fH q hz (bl_ne hq (by omega)))
    have hk4 := dz_fr2 hk4 (fun q hz hq => fH q hz (bl_ne hq (by omega)))
    have hk5 := tr_fr2 hk5 (fun q hz hq => fH q hz (bl_ne hq (by omega)))
    have hk6 := hy_fr2 hk6 (fun q hz hq => fH q hz (bl_ne hq (by omega)))
    refine lv_istore (lv' := [(6, .int (nI 0)), (5, .int (nI 1)), (0, .ref b), (1, .ref o), (2, .ref (o + 477)), (3, .ref (o + 483)), (4, .int (nI (4*j)))]) hx hb dL_law_1654 hl (by decide) rfl (fun ls hl => ?_)
    refine lv_aload_n hx hb dL_law_1656 rfl (lv_at hl 4 rfl) ?_
    refine k_V (As := []) (rest := []) S hK (c_X7_thrown l E (o + 477) z (w_th w (nI 1))) gL_law_X7_thrown rfl hd_X7_thrown ⟨rfl, rfl⟩ ⟨Nat.le_of_ble_eq_true rfl, Nat.le_of_ble_eq_true rfl⟩ (k_recv hK hV2.1 rfl) hV2 rfl hl.1 rfl (Nat.le_of_ble_eq_true rfl) dL_law_1657 ⟨by show _ ≤ 601024; omega, by show _ ≤ 7293034; omega⟩ ?_
    refine k_top (y := nI 1) rfl ?_
    refine lv_iload hx hb dL_law_1660 (lv_at hl 1 rfl) ?_
    refine n_ieq (tgt := 1667) hx hb dL_law_1662 (by decide) (by omega) (by omega) (fun c1662 => ?_) (fun h => absurd h (by decide))
    refine lv_iload hx hb dL_law_1667 (lv_at hl 1 rfl) ?_
    refine lv_if_ne (tgt := 1684) hx hb dL_law_1669 (by decide) (fun c1669 => ?_) (fun h => absurd h (by decide))
    refine lv_goto (tgt := 1824) hx hb dL_law_1684 (by decide) ?_
    refine W.widen (k := 484 + (j + 1)) (n := 5828 + 6*(j + 1)) (by omega) (by omega) ?_
    exact T z (w_th w (nI 1)) sn bn _ _ _ hPI (LI_mk hk1 hk4 hk5 hk6 hk0 hV2 hk3) hS (lv_sub hl [2, 3, 4, 5, 6] rfl)
set_option maxHeartbeats 4000000 in
set_option maxRecDepth 100000 in
theorem law_26 {p : Program} {l : Launch} {e : Env} {s : State} {m : MethodId} {below : List Frame} {meth : Method} {c : Code} {E : ke_E} {b o L j : Nat} {xs : Nat → Int32} {Q : State → Prop} (C : LC9 p l s m c E b o L xs) (hj : 4*j + 4 ≤ L) (T : LT9 p l e s m below meth c E b o j Q) : ∀ (z : Nat → Int32) (w : md_w) (sn bn : Nat) (H : Heap) (locs : List Loc) (ls : Array Slot), PI9 z w sn bn → LI9 E o z w sn bn H → va_S (nb o) s.heap H locs → lv_has ls 9 [(0, .ref b), (1, .ref o), (2, .ref (o + 477)), (3, .ref (o + 483)), (4, .int (nI (4*j)))] → W p l e room_1 s m #[.ref b] below meth c H locs (484 + j) (5828 + 6*j) Q (F0 m 1687 ls []) := by
  intro z w sn bn H locs ls hPI hLI hS hl
  obtain ⟨S, hlS, hK, hX9, hXh, hX, hbo, hsz9, hL⟩ := C
  have hx := S.1
  have hb := S.2.1
  have hts := S.2.2.2.2
  obtain ⟨hs, hsn, hbm, hbn, hk9, hrows⟩ := id hPI
  have hI := hk9.1
  have hJ := hk9.2.1
  have hpw := hk9.2.2
  have hc20 := iv_c hI
  obtain ⟨hWG, hWQ, hWT, hWY, hWB, hWM, x9, hWO⟩ := hLI
  have hbl : b < s.heap.size := by omega
  have hbA : ¬ nb o b := by show ¬ o ≤ b; omega
  refine lv_aload_n hx hb dL_law_1687 rfl (lv_at hl 1 rfl) ?_
  refine k_VM (As := []) (rest := []) S hK (c_X6_ifClosed l E o z hI) gL_law_X6_ifClosed rfl hd_X6_ifClosed ⟨rfl, rfl⟩ ⟨Nat.le_of_ble_eq_true rfl, Nat.le_of_ble_eq_true rfl⟩ (k_recv hK hWG rfl) ⟨hWG, hWQ, hWT⟩ rfl hl.1 rfl (Nat.le_of_ble_eq_true rfl) dL_law_1688 ⟨by show _ ≤ 601024; omega, by show _ ≤ 7293034; omega⟩ hS (fun q h => by show o ≤ q; have := h.1; omega) (fun q h => by show o ≤ q; have := h.1; omega) (fun H locs hQ zH fH hS => ?_)
  have hP := hQ
  have hV1 := hP
  have hk0 := bo_fr2 hWB (fun q hz hq => fH q hz (bl_ne hq (by omega)))
  have hk1 := gg_fr2 hWG (fun q hz hq => fH q hz (bl_ne hq (by omega)))
  have hk2 := md_fr2 hWM (fun q hz hq => fH q hz (bl_ne hq (by omega)))
  have hk3 := la_fr2 hWO (fun q hz hq => fH q hz (bl_ne hq (by omega)))
  have hk4 := dz_fr2 hWQ (fun q hz hq => fH q hz (bl_ne hq (by omega)))
  have hk6 := hy_fr2 hWY (fun q hz hq => fH q hz (bl_ne hq (by omega)))
  refine lv_aload_n hx hb dL_law_1691 rfl (lv_at hl 2 rfl) ?_
  refine k_VM (As := []) (rest := [.int (cloZ z).2]) S hK (c_X7_ifClosed l E (o + 477) z w hI) gL_law_X7_ifClosed rfl hd_X7_ifClosed ⟨rfl, rfl⟩ ⟨Nat.le_of_ble_eq_true rfl, Nat.le_of_ble_eq_true rfl⟩ (k_recv hK hk2.1 rfl) hk2 rfl hl.1 rfl (Nat.le_of_ble_eq_true rfl) dL_law_1692 ⟨by show _ ≤ 601024; omega, by show _ ≤ 7293034; omega⟩ hS (fun q h => by show o ≤ q; have := h.1; omega) (fun q h => by show o ≤ q; have := h.1; omega) (fun H locs hQ zH fH hS => ?_)
  have hP := hQ
  have hV2 := hP
  have hk0 := bo_fr2 hk0 (fun q hz hq => fH q hz (bl_ne hq (by omega)))
  have hk1 := gg_fr2 hk1 (fun q hz hq => fH q hz (bl_ne hq (by omega)))
  have hk3 := la_fr2 hk3 (fun q hz hq => fH q hz (bl_ne hq (by omega)))
  have hk4 := dz_fr2 hk4 (fun q hz hq => fH q hz (bl_ne hq (by omega)))
  have hk5 := tr_fr2 hV1 (fun q hz hq => fH q hz (bl_ne hq (by omega)))
  have hk6 := hy_fr2 hk6 (fun q hz hq => fH q hz (bl_ne hq (by omega)))
  refine lv_icmp_eq (tgt := 1824) hx hb dL_law_1695 (by decide) (fun c1695 => ?_) (fun h => absurd rfl h)
  refine W.widen (k := 484 + (j + 1)) (n := 5828 + 6*(j + 1)) (by omega) (by omega) ?_
  exact T z (w_aside (w_th w (nI 0)) (asI (q_aside w) z 322)) sn bn _ _ _ hPI (LI_mk hk1 hk4 hk5 hk6 hk0 hV2 hk3) hS (lv_sub hl [0, 1, 2, 3, 4] rfl)
set_option maxHeartbeats 4000000 in
set_option maxRecDepth 100000 in
theorem law_27 {p : Program} {l : Launch} {e : Env} {s : State} {m : MethodId} {below : List Frame} {meth : Method} {c : Code} {E : ke_E} {b o L j : Nat} {xs : Nat → Int32} {Q : State → Prop} (C : LC9 p l s m c E b o L xs) (hj : 4*j + 4 ≤ L) (T : LT9 p l e s m below meth c E b o j Q) : ∀ (z : Nat → Int32) (w : md_w) (sn bn : Nat) (H : Heap) (locs : List Loc) (ls : Array Slot), PI9 z w sn bn → LI9 E o z w sn bn H → va_S (nb o) s.heap H locs → lv_has ls 9 [(0, .ref b), (1, .ref o), (2, .ref (o + 477)), (3, .ref (o + 483)), (4, .int (nI (4*j)))] → W p l e room_1 s m #[.ref b] below meth c H locs (484 + j) (5828 + 6*j) Q (F0 m 1700 ls []) := by
  intro z w sn bn H locs ls hPI hLI hS hl
  obtain ⟨S, hlS, hK, hX9, hXh, hX, hbo, hsz9, hL⟩ := C
  have hx := S.1
  have hb := S.2.1
  have hts := S.2.2.2.2
  obtain ⟨hs, hsn, hbm, hbn, hk9, hrows⟩ := id hPI
  have hI := hk9.1
  have hJ := hk9.2.1
  have hpw := hk9.2.2
  have hc20 := iv_c hI
  obtain ⟨hWG, hWQ, hWT, hWY, hWB, hWM, x9, hWO⟩ := hLI
  have hbl : b < s.heap.size := by omega
  have hbA : ¬ nb o b := by show ¬ o ≤ b; omega
  by_cases g1 : inR (xs (4*j + 1)) (cn z)
  · obtain ⟨u, hu, eu⟩ := g1
    refine lv_aload_n hx hb dL_law_1700 rfl (lv_at hl 1 rfl) ?_
    refine lv_aload_n hx hb dL_law_1701 rfl (lv_at hl 0 rfl) ?_
    refine lv_iload hx hb dL_law_1702 (lv_at hl 4 rfl) ?_
    refine lv_iconst (v := nI 1) hx hb dL_law_1704 (by decide) ?_
    refine n_iadd (n := 4*j + 1) hx hb dL_law_1705 (by omega) ?_
    refine va_sld hx hb hX hbl hbA hS (vp_in_nI (by omega) (by omega)) dL_law_1706 ?_
    refine k_top (y := nI u) (by rw [nI_clamp (by omega)]; exact eu) ?_
    refine lv_aload_n hx hb dL_law_1707 rfl (lv_at hl 3 rfl) ?_
    refine l_SW (As := [.ref o, .int (nI u), .ref (o + 483)]) (rest := []) S hK hX9 hXh (c_L_claimable l hlS E (nb o) o z u (o + 483) x9 hI hu (by omega)) gL_law_L_claimable rfl hd_L_claimable ⟨rfl, rfl⟩ ⟨Nat.le_of_ble_eq_true rfl, Nat.le_of_ble_eq_true rfl⟩ ⟨hWG, hWQ, hWO⟩ rfl hl.1 rfl (Nat.le_of_ble_eq_true rfl) dL_law_1708 ⟨by show _ ≤ 601024; omega, by show _ ≤ 7293034; omega⟩ hS (fun q h => by show o ≤ q; have := h.1; omega) (fun q h => by show o ≤ q; have := h.1; omega) (fun H locs hQ zH fH hS => ?_)
    have hR0 := hQ
    have hV1 := hR0
    have hk0 := bo_fr2 hWB (fun q hz hq => fH q hz (bl_ne hq (by omega)))
    have hk1 := gg_fr2 hWG (fun q hz hq => fH q hz (bl_ne hq (by omega)))
    have hk2 := md_fr2 hWM (fun q hz hq => fH q hz (bl_ne hq (by omega)))
    have hk4 := dz_fr2 hWQ (fun q hz hq => fH q hz (bl_ne hq (by omega)))
    have hk5 := tr_fr2 hWT (fun q hz hq => fH q hz (bl_ne hq (by omega)))
    have hk6 := hy_fr2 hWY (fun q hz hq => fH q hz (bl_ne hq (by omega)))
    refine lv_istore (lv' := [(5, .int (nI 0)), (0, .ref b), (1, .ref o), (2, .ref (o + 477)), (3, .ref (o + 483)), (4, .int (nI (4*j)))]) hx hb dL_law_1711 hl (by decide) rfl (fun ls hl => ?_)
    refine lv_aload_n hx hb dL_law_1713 rfl (lv_at hl 3 rfl) ?_
    refine lv_aload_n hx hb dL_law_1714 rfl (lv_at hl 1 rfl) ?_
    refine lv_iload hx hb dL_law_1715 (lv_at hl 5 rfl) ?_
    refine lv_iconst (v := nI 1) hx hb dL_law_1717 (by decide) ?_
    refine n_iadd (n := 4*j + 1) hx hb dL_law_1718 (by omega) ?_
    refine va_sld hx hb hX hbl hbA hS (vp_in_nI (by omega) (by omega)) dL_law_1719 ?_
    refine k_top (y := nI u) (by rw [nI_clamp (by omega)]; exact eu) ?_
    refine k_VM (As := [.int (nI u)]) (rest := []) S hK (c_X7_claimable l E (o + 477) z w u hI hu) gL_law_X7_claimable rfl hd_X7_claimable ⟨rfl, rfl⟩ ⟨Nat.le_of_ble_eq_true rfl, Nat.le_of_ble_eq_true rfl⟩ (k_recv hK hk2.1 rfl) hk2 rfl hl.1 rfl (Nat.le_of_ble_eq_true rfl) dL_law_1720 ⟨by show _ ≤ 601024; omega, by show _ ≤ 7293034; omega⟩ hS (fun q h => by show o ≤ q; have := h.1; omega) (fun q h => by show o ≤ q; have := h.1; omega) (fun H locs hQ zH fH hS => ?_)
    have hP := hQ
    have hV2 := hP
    have hk0 := bo_fr2 hk0 (fun q hz hq => fH q hz (bl_ne hq (by omega)))
    have hk1 := gg_fr2 hk1 (fun q hz hq => fH q hz (bl_ne hq (by omega)))
    have hk3 := la_fr2 hV1 (fun q hz hq => fH q hz (bl_ne hq (by omega)))
    have hk4 := dz_fr2 hk4 (fun q hz hq => fH q hz (bl_ne hq (by omega)))
    have hk5 := tr_fr2 hk5 (fun q hz hq => fH q hz (bl_ne hq (by omega)))
    have hk6 := hy_fr2 hk6 (fun q hz hq => fH q hz (bl_ne hq (by omega)))
    refine lv_istore (lv' := [(6, .int (amT z u)), (5, .int (nI 0)), (0, .ref b), (1, .ref o), (2, .ref (o + 477)), (3, .ref (o + 483)), (4, .int (nI (4*j)))]) hx hb dL_law_1723 hl (by decide) rfl (fun ls hl => ?_)
    refine lv_aload_n hx hb dL_law_1725 rfl (lv_at hl 4 rfl) ?_
    refine k_V (As := []) (rest := []) S hK (c_X7_thrown l E (o + 477) z (w_th w (nI 0))) gL_law_X7_thrown rfl hd_X7_thrown ⟨rfl, rfl⟩ ⟨Nat.le_of_ble_eq_true rfl, Nat.le_of_ble_eq_true rfl⟩ (k_recv hK hV2.1 rfl) hV2 rfl hl.1 rfl (Nat.le_of_ble_eq_true rfl) dL_law_1726 ⟨by show _ ≤ 601024; omega, by show _ ≤ 7293034; omega⟩ ?_
    refine k_top (y := nI 0) rfl ?_
    refine lv_iload hx hb dL_law_1729 (lv_at hl 1 rfl) ?_
    refine n_ieq (tgt := 1736) hx hb dL_law_1731 (by decide) (by omega) (by omega) (fun c1731 => ?_) (fun h => absurd h (by decide))
    refine lv_iload hx hb dL_law_1736 (lv_at hl 1 rfl) ?_
    refine lv_if_ne (tgt := 1753) hx hb dL_law_1738 (by decide) (fun h => absurd h (by decide)) (fun c1738 => ?_)
    refine lv_aload_n hx hb dL_law_1741 rfl (lv_at hl 5 rfl) ?_
    refine lv_iconst (v := nI 0) hx hb dL_law_1742 (by decide) ?_
    refine l_lald hx hb hK hk3 dL_law_1743 ?_
    refine lv_iload hx hb dL_law_1744 (lv_at hl 0 rfl) ?_
    refine lv_i2l hx hb dL_law_1746 rfl ?_
    refine l_lcmp hx hb dL_law_1747 ?_
    refine lv_if_eq (tgt := 1753) hx hb dL_law_1748 (by decide) (fun c1748 => ?_) (fun h => absurd h (by decide))
    refine lv_goto (tgt := 1824) hx hb dL_law_1753 (by decide) ?_
    refine W.widen (k := 484 + (j + 1)) (n := 5828 + 6*(j + 1)) (by omega) (by omega) ?_
    exact T z (w_th w (nI 0)) sn bn _ _ _ hPI (LI_mk hk1 hk4 hk5 hk6 hk0 hV2 hk3) hS (lv_sub hl [2, 3, 4, 5, 6] rfl)
  · refine lv_aload_n hx hb dL_law_1700 rfl (lv_at hl 1 rfl) ?_
    refine lv_aload_n hx hb dL_law_1701 rfl (lv_at hl 0 rfl) ?_
    refine lv_iload hx hb dL_law_1702 (lv_at hl 4 rfl) ?_
    refine lv_iconst (v := nI 1) hx hb dL_law_1704 (by decide) ?_
    refine n_iadd (n := 4*j + 1) hx hb dL_law_1705 (by omega) ?_
    refine va_sld hx hb hX hbl hbA hS (vp_in_nI (by omega) (by omega)) dL_law_1706 ?_
    refine k_top (y := xs (4*j + 1)) (by rw [nI_clamp (by omega)]) ?_
    refine lv_aload_n hx hb dL_law_1707 rfl (lv_at hl 3 rfl) ?_
    refine l_SW (As := [.ref o, .int (xs (4*j + 1)), .ref (o + 483)]) (rest := []) S hK hX9 hXh (y_L_claimable_1 l hlS E (nb o) o z (xs (4*j + 1)) (o + 483) x9 hI g1 (by omega)) gL_law_L_claimable rfl hd_L_claimable ⟨rfl, rfl⟩ ⟨Nat.le_of_ble_eq_true rfl, Nat.le_of_ble_eq_true rfl⟩ ⟨hWG, hWQ, hWO⟩ rfl hl.1 rfl (Nat.le_of_ble_eq_true rfl) dL_law_1708 ⟨by show _ ≤ 601024; omega, by show _ ≤ 7293034; omega⟩ hS (fun q h => by show o ≤ q; have := h.1; omega) (fun q h => by show o ≤ q; have := h.1; omega) (fun H locs hQ zH fH hS => ?_)
    have hR0 := hQ
    have hV1 := hR0
    have hk0 := bo_fr2 hWB (fun q hz hq => fH q hz (bl_ne hq (by omega)))
    have hk1 := gg_fr2 hWG (fun q hz hq => fH q hz (bl_ne hq (by omega)))
    have hk2 := md_fr2 hWM (fun q hz hq => fH q hz (bl_ne hq (by omega)))
    have hk4 := dz_fr2 hWQ (fun q hz hq => fH q hz (bl_ne hq (by omega)))
    have hk5 := tr_fr2 hWT (fun q hz hq => fH q hz (bl_ne hq (by omega)))
    have hk6 := hy_fr2 hWY (fun q hz hq => fH q hz (bl_ne hq (by omega)))
    refine lv_istore (lv' := [(5, .int (nI 1)), (0, .ref b), (1, .ref o), (2, .ref (o + 477)), (3, .ref (o + 483)), (4, .int (nI (4*j)))]) hx hb dL_law_1711 hl (by decide) rfl (fun ls hl => ?_)
    refine lv_aload_n hx hb dL_law_1713 rfl (lv_at hl 3 rfl) ?_
    refine lv_aload_n hx hb dL_law_1714 rfl (lv_at hl 1 rfl) ?_
    refine lv_iload hx hb dL_law_1715 (lv_at hl 5 rfl) ?_
    refine lv_iconst (v := nI 1) hx hb dL_law_1717 (by decide) ?_
    refine n_iadd (n := 4*j + 1) hx hb dL_law_1718 (by omega) ?_
    refine va_sld hx hb hX hbl hbA hS (vp_in_nI (by omega) (by omega)) dL_law_1719 ?_
    refine k_top (y := xs (4*j + 1)) (by rw [nI_clamp (by omega)]) ?_
    refine k_VM (As := [.int (xs (4*j + 1))]) (rest := []) S hK (c_X7_claimable_f1 l E (o + 477) z w (xs (4*j + 1)) hI g1) gL_law_X7_claimable rfl hd_X7_claimable ⟨rfl, rfl⟩ ⟨Nat.le_of_ble_eq_true rfl, Nat.le_of_ble_eq_true rfl⟩ (k_recv hK hk2.1 rfl) hk2 rfl hl.1 rfl (Nat.le_of_ble_eq_true rfl) dL_law_1720 ⟨by show _ ≤ 601024; omega, by show _ ≤ 7293034; omega⟩ hS (fun q h => by show o ≤ q; have := h.1; omega) (fun q h => by show o ≤ q; have := h.1; omega) (fun H locs hQ zH fH hS => ?_)
    have hP := hQ
    have hV2 := hP
    have hk0 := bo_fr2 hk0 (fun q hz hq => fH q hz (bl_ne hq (by omega)))
    have hk1 := gg_fr2 hk1 (fun q hz hq => fH q hz (bl_ne hq (by omega)))
    have hk3 := la_fr2 hV1 (fun q hz hq => fH q hz (bl_ne hq (by omega)))
    have hk4 := dz_fr2 hk4 (fun q hz hq => fH q hz (bl_ne hq (by omega)))
    have hk5 := tr_fr2 hk5 (fun q hz hq => fH q hz (bl_ne hq (by omega)))
    have hk6 := hy_fr2 hk6 (fun q hz hq => fH q hz (bl_ne hq (by omega)))
    refine lv_istore (lv' := [(6, .int (nI 0)), (5, .int (nI 1)), (0, .ref b), (1, .ref o), (2, .ref (o + 477)), (3, .ref (o + 483)), (4, .int (nI (4*j)))]) hx hb dL_law_1723 hl (by decide) rfl (fun ls hl => ?_)
    refine lv_aload_n hx hb dL_law_1725 rfl (lv_at hl 4 rfl) ?_
    refine k_V (As := []) (rest := []) S hK (c_X7_thrown l E (o + 477) z (w_th w (nI 1))) gL_law_X7_thrown rfl hd_X7_thrown ⟨rfl, rfl⟩ ⟨Nat.le_of_ble_eq_true rfl, Nat.le_of_ble_eq_true rfl⟩ (k_recv hK hV2.1 rfl) hV2 rfl hl.1 rfl (Nat.le_of_ble_eq_true rfl) dL_law_1726 ⟨by show _ ≤ 601024; omega, by show _ ≤ 7293034; omega⟩ ?_
    refine k_top (y := nI 1) rfl ?_
    refine lv_iload hx hb dL_law_1729 (lv_at hl 1 rfl) ?_
    refine n_ieq (tgt := 1736) hx hb dL_law_1731 (by decide) (by omega) (by omega) (fun c1731 => ?_) (fun h => absurd h (by decide))
    refine lv_iload hx hb dL_law_1736 (lv_at hl 1 rfl) ?_
    refine lv_if_ne (tgt := 1753) hx hb dL_law_1738 (by decide) (fun c1738 => ?_) (fun h => absurd h (by decide))
    refine lv_goto (tgt := 1824) hx hb dL_law_1753 (by decide) ?_
    refine W.widen (k := 484 + (j + 1)) (n := 5828 + 6*(j + 1)) (by omega) (by omega) ?_
    exact T z (w_th w (nI 1)) sn bn _ _ _ hPI (LI_mk hk1 hk4 hk5 hk6 hk0 hV2 hk3) hS (lv_sub hl [2, 3, 4, 5, 6] rfl)
set_option maxHeartbeats 4000000 in
set_option maxRecDepth 100000 in
theorem law_28 {p : Program} {l : Launch} {e : Env} {s : State} {m : MethodId} {below : List Frame} {meth : Method} {c : Code} {E : ke_E} {b o L j : Nat} {xs : Nat → Int32} {Q : State → Prop} (C : LC9 p l s m c E b o L xs) (hj : 4*j + 4 ≤ L) (T : LT9 p l e s m below meth c E b o j Q) : ∀ (z : Nat → Int32) (w : md_w) (sn bn : Nat) (H : Heap) (locs : List Loc) (ls : Array Slot), PI9 z w sn bn → LI9 E o z w sn bn H → va_S (nb o) s.heap H locs → lv_has ls 9 [(0, .ref b), (1, .ref o), (2, .ref (o + 477)), (3, .ref (o + 483)), (4, .int (nI (4*j)))] → W p l e room_1 s m #[.ref b] below meth c H locs (484 + j) (5828 + 6*j) Q (F0 m 1756 ls []) := by
  intro z w sn bn H locs ls hPI hLI hS hl
  obtain ⟨S, hlS, hK, hX9, hXh, hX, hbo, hsz9, hL⟩ := C
  have hx := S.1
  have hb := S.2.1
  have hts := S.2.2.2.2
  obtain ⟨hs, hsn, hbm, hbn, hk9, hrows⟩ := id hPI
  have hI := hk9.1
  have hJ := hk9.2.1
  have hpw := hk9.2.2
  have hc20 := iv_c hI
  obtain ⟨hWG, hWQ, hWT, hWY, hWB, hWM, x9, hWO⟩ := hLI
  have hbl : b < s.heap.size := by omega
  have hbA : ¬ nb o b := by show ¬ o ≤ b; omega
  refine lv_aload_n hx hb dL_law_1756 rfl (lv_at hl 1 rfl) ?_
  refine k_V (As := []) (rest := []) S hK (c_X6_workDays l E o z hI) gL_law_X6_workDays rfl hd_X6_workDays ⟨rfl, rfl⟩ ⟨Nat.le_of_ble_eq_true rfl, Nat.le_of_ble_eq_true rfl⟩ (k_recv hK hWG rfl) ⟨hWG, hWQ⟩ rfl hl.1 rfl (Nat.le_of_ble_eq_true rfl) dL_law_1757 ⟨by show _ ≤ 601024; omega, by show _ ≤ 7293034; omega⟩ ?_
  refine lv_aload_n hx hb dL_law_1760 rfl (lv_at hl 2 rfl) ?_
  refine k_VM (As := []) (rest := [.int (wdV z)]) S hK (c_X7_workDays l E (o + 477) z w hI) gL_law_X7_workDays rfl hd_X7_workDays ⟨rfl, rfl⟩ ⟨Nat.le_of_ble_eq_true rfl, Nat.le_of_ble_eq_true rfl⟩ (k_recv hK hWM.1 rfl) hWM rfl hl.1 rfl (Nat.le_of_ble_eq_true rfl) dL_law_1761 ⟨by show _ ≤ 601024; omega, by show _ ≤ 7293034; omega⟩ hS (fun q h => by show o ≤ q; have := h.1; omega) (fun q h => by show o ≤ q; have := h.1; omega) (fun H locs hQ zH fH hS => ?_)
  have hP := hQ
  have hV1 := hP
  have hk0 := bo_fr2 hWB (fun q hz hq => fH q hz (bl_ne hq (by omega)))
  have hk1 := gg_fr2 hWG (fun q hz hq => fH q hz (bl_ne hq (by omega)))
  have hk3 := la_fr2 hWO (fun q hz hq => fH q hz (bl_ne hq (by omega)))
  have hk4 := dz_fr2 hWQ (fun q hz hq => fH q hz (bl_ne hq (by omega)))
  have hk5 := tr_fr2 hWT (fun q hz hq => fH q hz (bl_ne hq (by omega)))
  have hk6 := hy_fr2 hWY (fun q hz hq => fH q hz (bl_ne hq (by omega)))
  refine lv_icmp_eq (tgt := 1824) hx hb dL_law_1764 (by decide) (fun c1764 => ?_) (fun h => absurd rfl h)
  refine W.widen (k := 484 + (j + 1)) (n := 5828 + 6*(j + 1)) (by omega) (by omega) ?_
  exact T z (w_th w (nI 0)) sn bn _ _ _ hPI (LI_mk hk1 hk4 hk5 hk6 hk0 hV1 hk3) hS (lv_sub hl [0, 1, 2, 3, 4] rfl)
set_option maxHeartbeats 4000000 in
set_option maxRecDepth 100000 in
theorem law_29 {p : Program} {l : Launch} {e : Env} {s : State} {m : MethodId} {below : List Frame} {meth : Method} {c : Code} {E : ke_E} {b o L j : Nat} {xs : Nat → Int32} {Q : State → Prop} (C : LC9 p l s m c E b o L xs) (hj : 4*j + 4 ≤ L) (T : LT9 p l e s m below meth c E b o j Q) : ∀ (z : Nat → Int32) (w : md_w) (sn bn : Nat) (H : Heap) (locs : List Loc) (ls : Array Slot), PI9 z w sn bn → LI9 E o z w sn bn H → va_S (nb o) s.heap H locs → lv_has ls 9 [(0, .ref b), (1, .ref o), (2, .ref (o + 477)), (3, .ref (o + 483)), (4, .int (nI (4*j)))] → W p l e room_1 s m #[.ref b] below meth c H locs (484 + j) (5828 + 6*j) Q (F0 m 1769 ls []) := by
  intro z w sn bn H locs ls hPI hLI hS hl
  obtain ⟨S, hlS, hK, hX9, hXh, hX, hbo, hsz9, hL⟩ := C
  have hx := S.1
  have hb := S.2.1
  have hts := S.2.2.2.2
  obtain ⟨hs, hsn, hbm, hbn, hk9, hrows⟩ := id hPI
  have hI := hk9.1
  have hJ := hk9.2.1
  have hpw := hk9.2.2
  have hc20 := iv_c hI
  obtain ⟨hWG, hWQ, hWT, hWY, hWB, hWM, x9, hWO⟩ := hLI
  have hbl : b < s.heap.size := by omega
  have hbA : ¬ nb o b := by show ¬ o ≤ b; omega
  refine lv_aload_n hx hb dL_law_1769 rfl (lv_at hl 1 rfl) ?_
  refine k_V (As := []) (rest := []) S hK (c_X6_backShare l E o z hI hJ) gL_law_X6_backShare rfl hd_X6_backShare ⟨rfl, rfl⟩ ⟨Nat.le_of_ble_eq_true rfl, Nat.le_of_ble_eq_true rfl⟩ (k_recv hK hWG rfl) ⟨hWG, hWQ⟩ rfl hl.1 rfl (Nat.le_of_ble_eq_true rfl) dL_law_1770 ⟨by show _ ≤ 601024; omega, by show _ ≤ 7293034; omega⟩ ?_
  refine lv_dstore (lv' := [(5, .double (bkD z)), (0, .ref b), (1, .ref o), (2, .ref (o + 477)), (3, .ref (o + 483)), (4, .int (nI (4*j)))]) hx hb dL_law_1773 hl (by decide) rfl (fun ls hl => ?_)
  refine lv_aload_n hx hb dL_law_1775 rfl (lv_at hl 3 rfl) ?_
  refine k_VM (As := []) (rest := []) S hK (c_X7_backShare l E (o + 477) z w hI) gL_law_X7_backShare rfl hd_X7_backShare ⟨rfl, rfl⟩ ⟨Nat.le_of_ble_eq_true rfl, Nat.le_of_ble_eq_true rfl⟩ (k_recv hK hWM.1 rfl) hWM rfl hl.1 rfl (Nat.le_of_ble_eq_true rfl) dL_law_1776 ⟨by show _ ≤ 601024; omega, by show _ ≤ 7293034; omega⟩ hS (fun q h => by show o ≤ q; have := h.1; omega) (fun q h => by show o ≤ q; have := h.1; omega) (fun H locs hQ zH fH hS => ?_)
  have hP := hQ
  have hV1 := hP
  have hk0 := bo_fr2 hWB (fun q hz hq => fH q hz (bl_ne hq (by omega)))
  have hk1 := gg_fr2 hWG (fun q hz hq => fH q hz (bl_ne hq (by omega)))
  have hk3 := la_fr2 hWO (fun q hz hq => fH q hz (bl_ne hq (by omega)))
  have hk4 := dz_fr2 hWQ (fun q hz hq => fH q hz (bl_ne hq (by omega)))
  have hk5 := tr_fr2 hWT (fun q hz hq => fH q hz (bl_ne hq (by omega)))
  have hk6 := hy_fr2 hWY (fun q hz hq => fH q hz (bl_ne hq (by omega)))
  refine lv_dstore (lv' := [(7, .double (bkD z)), (5, .double (bkD z)), (0, .ref b), (1, .ref o), (2, .ref (o + 477)), (3, .ref (o + 483)), (4, .int (nI (4*j)))]) hx hb dL_law_1779 hl (by decide) rfl (fun ls hl => ?_)
  refine lv_dload hx hb dL_law_1781 (lv_at hl 1 rfl) ?_
  refine lv_dload hx hb dL_law_1783 (lv_at hl 0 rfl) ?_
  refine lv_dcmp hx hb dL_law_1785 ?_
  refine lv_if_eq (tgt := 1807) hx hb dL_law_1786 (by decide) (fun c1786 => ?_) (fun h => absurd (by rw [show FP.dcmp (bkD z) (bkD z) = some .eq from FP.Core.dcmp_self (bkD_nn hI)]; rfl) h)
  refine lv_goto (tgt := 1824) hx hb dL_law_1807 (by decide) ?_
  refine W.widen (k := 484 + (j + 1)) (n := 5828 + 6*(j + 1)) (by omega) (by omega) ?_
  exact T z (w_th w (nI 0)) sn bn _ _ _ hPI (LI_mk hk1 hk4 hk5 hk6 hk0 hV1 hk3) hS (lv_sub hl [2, 3, 4, 5, 6] rfl)
set_option maxHeartbeats 4000000 in
set_option maxRecDepth 100000 in
theorem law_30 {p : Program} {l : Launch} {e : Env} {s : State} {m : MethodId} {below : List Frame} {meth : Method} {c : Code} {E : ke_E} {b o L j : Nat} {xs : Nat → Int32} {Q : State → Prop} (C : LC9 p l s m c E b o L xs) (hj : 4*j + 4 ≤ L) (T : LT9 p l e s m below meth c E b o j Q) : ∀ (z : Nat → Int32) (w : md_w) (sn bn : Nat) (H : Heap) (locs : List Loc) (ls : Array Slot), PI9 z w sn bn → LI9 E o z w sn bn H → va_S (nb o) s.heap H locs → lv_has ls 9 [(0, .ref b), (1, .ref o), (2, .ref (o + 477)), (3, .ref (o + 483)), (4, .int (nI (4*j)))] → W p l e room_1 s m #[.ref b] below meth c H locs (484 + j) (5828 + 6*j) Q (F0 m 1810 ls []) := by
  intro z w sn bn H locs ls hPI hLI hS hl
  obtain ⟨S, hlS, hK, hX9, hXh, hX, hbo, hsz9, hL⟩ := C
  have hx := S.1
  have hb := S.2.1
  have hts := S.2.2.2.2
  obtain ⟨hs, hsn, hbm, hbn, hk9, hrows⟩ := id hPI
  have hI := hk9.1
  have hJ := hk9.2.1
  have hpw := hk9.2.2
  have hc20 := iv_c hI
  obtain ⟨hWG, hWQ, hWT, hWY, hWB, hWM, x9, hWO⟩ := hLI
  have hbl : b < s.heap.size := by omega
  have hbA : ¬ nb o b := by show ¬ o ≤ b; omega
  refine lv_aload_n hx hb dL_law_1810 rfl (lv_at hl 1 rfl) ?_
  refine k_VM (As := []) (rest := []) S hK (c_X6_digest l E o z sn (q_rows w) bn (q_buf w) hI hJ hbn) gL_law_X6_digest rfl hd_X6_digest ⟨rfl, rfl⟩ ⟨Nat.le_of_ble_eq_true rfl, Nat.le_of_ble_eq_true rfl⟩ (k_recv hK hWG rfl) ⟨hWG, hWQ, hWT, hWY, hWB⟩ rfl hl.1 rfl (Nat.le_of_ble_eq_true rfl) dL_law_1811 ⟨by show _ ≤ 601024; omega, by show _ ≤ 7293034; omega⟩ hS (fun q h => by show o ≤ q; have := h.1; omega) (fun q h => by show o ≤ q; have := h.1; omega) (fun H locs hQ zH fH hS => ?_)
  have hP := hQ
  have hV1 := hP
  have hk0 := bo_fr2 hWB (fun q hz hq => fH q hz (bl_ne hq (by omega)))
  have hk1 := gg_fr2 hWG (fun q hz hq => fH q hz (bl_ne hq (by omega)))
  have hk2 := md_fr2 hWM (fun q hz hq => fH q hz (bl_ne hq (by omega)))
  have hk3 := la_fr2 hWO (fun q hz hq => fH q hz (bl_ne hq (by omega)))
  have hk4 := dz_fr2 hWQ (fun q hz hq => fH q hz (bl_ne hq (by omega)))
  have hk6 := hy_fr2 hWY (fun q hz hq => fH q hz (bl_ne hq (by omega)))
  refine lv_aload_n hx hb dL_law_1814 rfl (lv_at hl 2 rfl) ?_
  refine k_VM (As := []) (rest := [.long (dgH z (nI sn) (q_buf w) bn)]) S hK (c_X7_digest l E (o + 477) z w (q_buf w) bn hI rfl hbm hbn) gL_law_X7_digest rfl hd_X7_digest ⟨rfl, rfl⟩ ⟨Nat.le_of_ble_eq_true rfl, Nat.le_of_ble_eq_true rfl⟩ (k_recv hK hk2.1 rfl) hk2 rfl hl.1 rfl (Nat.le_of_ble_eq_true rfl) dL_law_1815 ⟨by show _ ≤ 601024; omega, by show _ ≤ 7293034; omega⟩ hS (fun q h => by show o ≤ q; have := h.1; omega) (fun q h => by show o ≤ q; have := h.1; omega) (fun H locs hQ zH fH hS => ?_)
  have hP := hQ
  have hV2 := hP
  have hk0 := bo_fr2 hk0 (fun q hz hq => fH q hz (bl_ne hq (by omega)))
  have hk1 := gg_fr2 hk1 (fun q hz hq => fH q hz (bl_ne hq (by omega)))
  have hk3 := la_fr2 hk3 (fun q hz hq => fH q hz (bl_ne hq (by omega)))
  have hk4 := dz_fr2 hk4 (fun q hz hq => fH q hz (bl_ne hq (by omega)))
  have hk5 := tr_fr2 hV1 (fun q hz hq => fH q hz (bl_ne hq (by omega)))
  have hk6 := hy_fr2 hk6 (fun q hz hq => fH q hz (bl_ne hq (by omega)))
  refine l_rw (v' := .long (dgH z (nI sn) (q_buf w) bn)) (by rw [hs]) ?_
  refine l_lcmp hx hb dL_law_1818 ?_
  refine lv_if_eq (tgt := 1824) hx hb dL_law_1819 (by decide) (fun c1819 => ?_) (fun h => absurd h (by decide))
  refine W.widen (k := 484 + (j + 1)) (n := 5828 + 6*(j + 1)) (by omega) (by omega) ?_
  exact T z (w_h (w_th (w_aside w (asI (q_aside w) z 322)) (nI 0)) (dgH z (q_sm w) (q_buf w) bn)) sn bn _ _ _ hPI (LI_mk hk1 hk4 hk5 hk6 hk0 hV2 hk3) hS (lv_sub hl [0, 1, 2, 3, 4] rfl)
