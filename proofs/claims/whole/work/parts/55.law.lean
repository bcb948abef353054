/-! THE CLAIM OUT OF ONE WALK OF THE LAW'S BODY. Your part is whole_start (and what it stands on); all else here is the same for every law, but numbers. -/
def R_law : String := "ReturnGradesLaw"
def lw_P (b : Addr) (xs : List Int32) (args : Array Value) (s : State) : Prop := args = #[.ref b] ∧ s.IntsAt b xs ∧ xs.length ≤ 2048 ∧ (Jvm.Cond.and given_1 narrow_1).before args s = true
/-- what a walk over the start with the record d0 says of its end, said of the start itself -/
theorem lw_closed {s t : State} {o : Outcome} {d0 : Drawn} {L : List Loc} {k n : Nat} (hd0 : s.drawn.sameBut d0 lw_cs) (hv : ∃ v, o = .returned v) (hW : (s.setDrawn d0).WarmedH t.vm) (hs : (s.setDrawn d0).sameButNew ({ t with vm := s.vm } : State) L k n) : State.butDraws s t lw_cs (fun t1 => Framed s o t1 L k n) := by
  have h2 : t.drawn = d0 := congrArg State.drawn hs.1
  refine ⟨⟨hv, hW, State.sameButNew.setDrawn hs s.drawn⟩, ?_, by decide⟩
  rw [h2]
  exact hd0
def lw_Q (_ : Array Value) (s : State) (o : Outcome) (t : State) : Prop := o = .returned (some (.int 1)) ∧ State.butDraws s t lw_cs (fun t1 => Framed s o t1 [] 601024 7293034)
def lw_Z (below : List Frame) (a : Array Value) (s : State) : State → Prop := fun t => ∃ o, t.status = .running ∧ Ended t below o ∧ lw_Q a s o t
/-- the law's own end, with 1 on the stack, nothing written that was there before, its room as the claim has it; d0: the record of draws at this point (at the entry s.drawn: begin with 'refine W.base ?_' and 'have hd0 := Drawn.sameBut.refl s.drawn lw_cs') -/
theorem lw_ret {p : Program} {l : Launch} {e : Env} {s : State} {m : MethodId} {below : List Frame} {meth : Method} {c : Code} {b : Nat} {d0 : Drawn} (hd0 : s.drawn.sameBut d0 lw_cs) (hx : p.tables.exec = Jvm.exec) (hb : c.code = code) (hr : meth.sig.returnType = ret) (hlocks : meth.locks = false) {pc : Nat} {H : Heap} {ls : Array Slot} (hdg : decode code pc = .ok (.ireturn, 1)) : W p l e room_1 (s.setDrawn d0) m #[Value.ref b] below meth c H [] 601024 7293034 (lw_Z below #[Value.ref b] s) (F0 m pc ls [.int 1]) := by
  intro T hT X
  obtain ⟨fs, hret, hrun, hended, hW, hframe⟩ := X.leave (v := some (.int 1)) (hlocks := hlocks) (fun h => by rw [hr] at h; cases h)
  have hmeth' : T.vm.method? m = some meth := X.method'
  refine ⟨T.setFrames fs, ?_, .returned (some (.int 1)), hrun, hended, rfl, lw_closed hd0 ⟨_, rfl⟩ hW hframe⟩
  jvm_step X.here [X.here.top, hx, hb, hdg, hmeth', hr, ret, narrow_b1]
  (try refine ⟨rfl, ?_⟩); (try refine ⟨rfl, ?_⟩)
  first | (intro acts; rw [hret _ acts rfl rfl rfl]) | rw [hret _ _ rfl rfl rfl]
  exact Steps.refl _
/-- what holds at the law's entry: the machine, the code, the tables' words (any of lw_tbl by 'hts w (by decide +kernel)'), the script of L ints xs at the cell b, what the Statement gives of the start (any of its parts by flat_of_before) -/
def lw_At (p : Program) (s : State) (m : MethodId) (meth : Method) (c : Code) (b L : Nat) (xs : Nat → Int32) : Prop :=
  p.tables.exec = Jvm.exec ∧ c.code = code ∧ meth.sig.returnType = ret ∧ c.maxLocals = 9 ∧ s.vm.findClass R_law = some m.cls ∧ (∀ w ∈ lw_tbl, w.before #[Value.ref b] s = true) ∧ va_X b L xs s s.heap ∧ b < s.heap.size ∧ meth.locks = false ∧ (Jvm.Cond.and given_1 narrow_1).before #[Value.ref b] s = true
-- ===== YOUR PART BEGINS =====
set_option maxHeartbeats 4000000 in
set_option maxRecDepth 100000 in
theorem law_loop {p : Program} {l : Launch} {e : Env} {s : State} {m : MethodId} {below : List Frame} {meth : Method} {c : Code} {E : ke_E} {b o L : Nat} {xs : Nat → Int32} (C0 : lw_At p s m meth c b L xs) (C : LC9 p l s m c E b o L xs) : ∀ (n j : Nat), 4*j ≤ L → L < 4*j + 4*n → ∀ (z : Nat → Int32) (w : md_w) (sn bn : Nat) (H : Heap) (locs : List Loc) (ls : Array Slot), PI9 z w sn bn → LI9 E o z w sn bn H → va_S (nb o) s.heap H locs → lv_has ls 9 [(0, .ref b), (1, .ref o), (2, .ref (o + 477)), (3, .ref (o + 483)), (4, .int (nI (4*j)))] → W p l e room_1 s m #[.ref b] below meth c H locs (484 + j) (5828 + 6*j) (lw_Z below #[Value.ref b] s) (F0 m 23 ls []) := by
  obtain ⟨hx, hb, hr, hml, hown, hts, hX, hbl, hlocks, hgv⟩ := id C0
  obtain ⟨S, hlS, hK, hX9, hXh, -, hbo, hsz9, hL⟩ := id C
  have hbA : ¬ nb o b := by show ¬ o ≤ b; omega
  intro n
  induction n with
  | zero =>
    intro j h1 h2
    exact absurd h2 (by omega)
  | succ n ih =>
    intro j h1 h2 z w sn bn H locs ls hPI hLI hS hl
    refine lv_iload hx hb dL_law_23 (lv_at hl 4 rfl) ?_
    refine lv_aload_n hx hb dL_law_25 rfl (lv_at hl 0 rfl) ?_
    refine va_slen hx hb hX hbl hbA hS dL_law_26 ?_
    refine lv_iconst (v := nI 4) hx hb dL_law_27 (by decide) ?_
    refine lv_isub hx hb dL_law_28 ?_
    refine lv_icmp_gt (tgt := 1830) hx hb dL_law_29 (by decide) (fun c9 => ?_) (fun c9 => ?_)
    · refine lv_iconst (v := 1) hx hb dL_law_1830 (by decide) ?_
      refine va_forget (fun q hq => by rw [hsz9]; exact hS.2.2 q hq) ?_
      refine W.widen (k := 601024) (n := 7293034) (by omega) (by omega) ?_
      refine W.base ?_
      exact lw_ret (Drawn.sameBut.refl s.drawn lw_cs) hx hb hr hlocks dL_law_1831
    · have hj : 4*j + 4 ≤ L := by
        have k : ¬ L < 4*j + 4 := fun q => c9 ((lw_le9 hL h1).mpr q)
        omega
      have T : LT9 p l e s m below meth c E b o j (lw_Z below #[Value.ref b] s) := by
        intro z w sn bn H locs ls hPI hLI hS hl
        refine lv_iinc (v := nI (4*(j + 1))) (lv' := [(4, .int (nI (4*(j + 1)))), (0, .ref b), (1, .ref o), (2, .ref (o + 477)), (3, .ref (o + 483))]) hx hb dL_law_1824 hl (k := 4) rfl (by rw [show Int32.ofInt 4 = nI 4 from rfl, nI_add]; congr 1) (by decide) rfl (fun ls hl => ?_)
        refine lv_goto (tgt := 23) hx hb dL_law_1827 (by decide) ?_
        exact ih (j + 1) (by omega) (by omega) z w sn bn H locs ls hPI hLI hS (lv_sub hl [1, 2, 3, 4, 0] rfl)
      refine lv_aload_n hx hb dL_law_32 rfl (lv_at hl 0 rfl) ?_
      refine lv_iload hx hb dL_law_33 (lv_at hl 4 rfl) ?_
      refine va_sld hx hb hX hbl hbA hS (vp_in_nI (by omega) (by omega)) dL_law_35 ?_
      refine k_top (y := xs (4*j)) (by rw [nI_clamp (by omega)]) ?_
      refine lv_bipush (v := nI 31) hx hb dL_law_36 (by decide) ?_
      refine lv_iand hx hb dL_law_38 ?_
      obtain ⟨t, ht, et⟩ := pk_andE (xs (4*j)) (m := nI 31) 5 (by decide)
      refine k_top (y := nI t) et ?_
      rcases (by omega : t = 0 ∨ t = 1 ∨ t = 2 ∨ t = 3 ∨ t = 4 ∨ t = 5 ∨ t = 6 ∨ t = 7 ∨ t = 8 ∨ t = 9 ∨ t = 10 ∨ t = 11 ∨ t = 12 ∨ t = 13 ∨ t = 14 ∨ t = 15 ∨ t = 16 ∨ t = 17 ∨ t = 18 ∨ t = 19 ∨ t = 20 ∨ t = 21 ∨ t = 22 ∨ t = 23 ∨ t = 24 ∨ t = 25 ∨ t = 26 ∨ t = 27 ∨ t = 28 ∨ t = 29 ∨ t = 30 ∨ t = 31) with h | h | h | h | h | h | h | h | h | h | h | h | h | h | h | h | h | h | h | h | h | h | h | h | h | h | h | h | h | h | h | h
      · subst h
        refine lv_tableIn (off := 137) (tgt := 176) hx hb dL_law_39 (by decide) (by decide) (by decide) (by decide) ?_
        exact law_0 C hj T z w sn bn H locs ls hPI hLI hS hl
      · subst h
        refine lv_tableIn (off := 217) (tgt := 256) hx hb dL_law_39 (by decide) (by decide) (by decide) (by decide) ?_
        exact law_1 C hj T z w sn bn H locs ls hPI hLI hS hl
      · subst h
        refine lv_tableIn (off := 301) (tgt := 340) hx hb dL_law_39 (by decide) (by decide) (by decide) (by decide) ?_
        exact law_2 C hj T z w sn bn H locs ls hPI hLI hS hl
      · subst h
        refine lv_tableIn (off := 381) (tgt := 420) hx hb dL_law_39 (by decide) (by decide) (by decide) (by decide) ?_
        exact law_3 C hj T z w sn bn H locs ls hPI hLI hS hl
      · subst h
        refine lv_tableIn (off := 449) (tgt := 488) hx hb dL_law_39 (by decide) (by decide) (by decide) (by decide) ?_
        exact law_4 C hj T z w sn bn H locs ls hPI hLI hS hl
      · subst h
        refine lv_tableIn (off := 517) (tgt := 556) hx hb dL_law_39 (by decide) (by decide) (by decide) (by decide) ?_
        exact law_5 C hj T z w sn bn H locs ls hPI hLI hS hl
      · subst h
        refine lv_tableIn (off := 585) (tgt := 624) hx hb dL_law_39 (by decide) (by decide) (by decide) (by decide) ?_
        exact law_6 C hj T z w sn bn H locs ls hPI hLI hS hl
      · subst h
        refine lv_tableIn (off := 665) (tgt := 704) hx hb dL_law_39 (by decide) (by decide) (by decide) (by decide) ?_
        exact law_7 C hj T z w sn bn H locs ls hPI hLI hS hl
      · subst h
        refine lv_tableIn (off := 733) (tgt := 772) hx hb dL_law_39 (by decide) (by decide) (by decide) (by decide) ?_
        exact law_8 C hj T z w sn bn H locs ls hPI hLI hS hl
      · subst h
        refine lv_tableIn (off := 789) (tgt := 828) hx hb dL_law_39 (by decide) (by decide) (by decide) (by decide) ?_
        exact law_9 C hj T z w sn bn H locs ls hPI hLI hS hl
      · subst h
        refine lv_tableIn (off := 845) (tgt := 884) hx hb dL_law_39 (by decide) (by decide) (by decide) (by decide) ?_
        exact law_10 C hj T z w sn bn H locs ls hPI hLI hS hl
      · subst h
        refine lv_tableIn (off := 858) (tgt := 897) hx hb dL_law_39 (by decide) (by decide) (by decide) (by decide) ?_
        exact law_11 C hj T z w sn bn H locs ls hPI hLI hS hl
      · subst h
        refine lv_tableIn (off := 914) (tgt := 953) hx hb dL_law_39 (by decide) (by decide) (by decide) (by decide) ?_
        exact law_12 C hj T z w sn bn H locs ls hPI hLI hS hl
      · subst h
        refine lv_tableIn (off := 927) (tgt := 966) hx hb dL_law_39 (by decide) (by decide) (by decide) (by decide) ?_
        exact law_13 C hj T z w sn bn H locs ls hPI hLI hS hl
      · subst h
        refine lv_tableIn (off := 940) (tgt := 979) hx hb dL_law_39 (by decide) (by decide) (by decide) (by decide) ?_
        exact law_14 C hj T z w sn bn H locs ls hPI hLI hS hl
      · subst h
        refine lv_tableIn (off := 984) (tgt := 1023) hx hb dL_law_39 (by decide) (by decide) (by decide) (by decide) ?_
        exact law_15 C hj T z w sn bn H locs ls hPI hLI hS hl
      · subst h
        refine lv_tableIn (off := 1028) (tgt := 1067) hx hb dL_law_39 (by decide) (by decide) (by decide) (by decide) ?_
        exact law_16 C hj T z w sn bn H locs ls hPI hLI hS hl
      · subst h
        refine lv_tableIn (off := 1096) (tgt := 1135) hx hb dL_law_39 (by decide) (by decide) (by decide) (by decide) ?_
        exact law_17 C hj T z w sn bn H locs ls hPI hLI hS hl
      · subst h
        refine lv_tableIn (off := 1164) (tgt := 1203) hx hb dL_law_39 (by decide) (by decide) (by decide) (by decide) ?_
        exact law_18 C hj T z w sn bn H locs ls hPI hLI hS hl
      · subst h
        refine lv_tableIn (off := 1232) (tgt := 1271) hx hb dL_law_39 (by decide) (by decide) (by decide) (by decide) ?_
        exact law_19 C hj T z w sn bn H locs ls hPI hLI hS hl
      · subst h
        refine lv_tableIn (off := 1288) (tgt := 1327) hx hb dL_law_39 (by decide) (by decide) (by decide) (by decide) ?_
        exact law_20 C hj T z w sn bn H locs ls hPI hLI hS hl
      · subst h
        refine lv_tableIn (off := 1344) (tgt := 1383) hx hb dL_law_39 (by decide) (by decide) (by decide) (by decide) ?_
        exact law_21 C hj T z w sn bn H locs ls hPI hLI hS hl
      · subst h
        refine lv_tableIn (off := 1400) (tgt := 1439) hx hb dL_law_39 (by decide) (by decide) (by decide) (by decide) ?_
        exact law_22 C hj T z w sn bn H locs ls hPI hLI hS hl
      · subst h
        refine lv_tableIn (off := 1456) (tgt := 1495) hx hb dL_law_39 (by decide) (by decide) (by decide) (by decide) ?_
        exact law_23 C hj T z w sn bn H locs ls hPI hLI hS hl
      · subst h
        refine lv_tableIn (off := 1524) (tgt := 1563) hx hb dL_law_39 (by decide) (by decide) (by decide) (by decide) ?_
        exact law_24 C hj T z w sn bn H locs ls hPI hLI hS hl
      · subst h
        refine lv_tableIn (off := 1592) (tgt := 1631) hx hb dL_law_39 (by decide) (by decide) (by decide) (by decide) ?_
        exact law_25 C hj T z w sn bn H locs ls hPI hLI hS hl
      · subst h
        refine lv_tableIn (off := 1648) (tgt := 1687) hx hb dL_law_39 (by decide) (by decide) (by decide) (by decide) ?_
        exact law_26 C hj T z w sn bn H locs ls hPI hLI hS hl
      · subst h
        refine lv_tableIn (off := 1661) (tgt := 1700) hx hb dL_law_39 (by decide) (by decide) (by decide) (by decide) ?_
        exact law_27 C hj T z w sn bn H locs ls hPI hLI hS hl
      · subst h
        refine lv_tableIn (off := 1717) (tgt := 1756) hx hb dL_law_39 (by decide) (by decide) (by decide) (by decide) ?_
        exact law_28 C hj T z w sn bn H locs ls hPI hLI hS hl
      · subst h
        refine lv_tableIn (off := 1730) (tgt := 1769) hx hb dL_law_39 (by decide) (by decide) (by decide) (by decide) ?_
        exact law_29 C hj T z w sn bn H locs ls hPI hLI hS hl
      · subst h
        refine lv_tableIn (off := 1771) (tgt := 1810) hx hb dL_law_39 (by decide) (by decide) (by decide) (by decide) ?_
        exact law_30 C hj T z w sn bn H locs ls hPI hLI hS hl
      · subst h
        refine lv_tableOut (tgt := 1824) hx hb dL_law_39 (by decide) (by decide) ?_
        refine W.widen (k := 484 + (j + 1)) (n := 5828 + 6*(j + 1)) (by omega) (by omega) ?_
        exact T z w sn bn H locs ls hPI hLI hS hl
set_option maxHeartbeats 4000000 in
set_option maxRecDepth 100000 in
/-- THE LAW, from its entry -/
theorem whole_start {p : Program} {e : Env} {s : State} {m : MethodId} {below : List Frame} {meth : Method} {c : Code} (l : Launch) (hflags : l.flags = flags0) {b L : Nat} {xs : Nat → Int32} (hL : L ≤ 2048) (C0 : lw_At p s m meth c b L xs) : W p l e room_1 s m #[Value.ref b] below meth c s.heap [] 0 0 (lw_Z below #[Value.ref b] s) (entryFrame m ([Value.ref b] : List Value).toArray 9) := by
  obtain ⟨hx, hb, hr, hml, hown, hts, hX, hbl, hlocks, hgv⟩ := id C0
  obtain ⟨o, ho⟩ : ∃ o, s.heap.size = o := ⟨_, rfl⟩
  obtain ⟨E, hK⟩ := ke_start hts
  have hkx := kx_start (E := E) hts hK hgv ho
  have hlS : l.stackTraces = false := by unfold Launch.stackTraces; rw [hflags]; decide
  have S : CallFix p m c cL_law 9 s #[Value.ref b] lw_tbl RL := ⟨hx, hb, hml, hown, hts⟩
  have C : LC9 p l s m c E b o L xs := ⟨S, hlS, hK, hkx.1, hkx.2, hX, by omega, ho, hL⟩
  have hS : va_S (nb o) s.heap s.heap [] := va_S.rf
  have hl := lv_entry ([.ref b]) (n := 9) (Nat.le_of_ble_eq_true rfl)
  rw [lg_entry_eq]
  generalize (lg_sl ([.ref b]) ++ List.replicate (9 - (lg_sl ([.ref b])).length) Slot.unset).toArray = ls at hl ⊢
  have hl : lv_has ls 9 [(0, .ref b)] := hl
  refine k_new (q := o) (N := 4) (T := TX6) S inX6 tyX6_ok (by decide +kernel) (by decide +kernel) (by decide +kernel) hK hS (ci := 6) rfl dfX6 (by show _ ≤ 601024; omega) (by show _ ≤ 7293034; omega) ho dL_law_0 (fun H a1 hz hF hS => ?_)
  refine lv_dup hx hb dL_law_3 rfl ?_
  refine k_IM (As := []) (rest := [.ref o]) S hK (c_X6_init l E o) ggL_law_X6_init rfl hd_X6_init (by decide +kernel) (by decide +kernel) (by decide +kernel) rfl ⟨rfl, rfl⟩ ⟨Nat.le_of_ble_eq_true rfl, Nat.le_of_ble_eq_true rfl⟩ (⟨hz, a1⟩) rfl hl.1 rfl (Nat.le_of_ble_eq_true rfl) dL_law_4 ⟨by show _ ≤ 601024; omega, by show _ ≤ 7293034; omega⟩ hS (fun q h => by show o ≤ q; have := h.1; omega) (fun q h => by show o ≤ q; have := h.1; omega) (fun H locs hQ zH fH hS => ?_)
  obtain ⟨hz, d0, d1, d2, d3, d4, d5, d6, d7⟩ := hQ
  have zz : ag 0 zU zI := fun q hq _ _ _ _ => (by decide +kernel : ∀ q, q < 62 → zU q = zI q) q (by omega)
  have c0 : cn zI = 0 := by decide
  have dzI : ∀ {d : Nat} {H : Heap}, dp E d zU H → dz E d zI H := fun {d} {H} h => ⟨by rw [c0]; omega, zU, h, by rw [c0]; exact zz⟩
  have hWG : gg E o H := d0
  have hWQ : dz E (o + 1) zI H := dzI d1
  have hWT : tr E (o + 60) H := ⟨zI, dzI d2⟩
  have hWY : hy E (o + 119) 0 (fun _ => 0) H := ⟨fun k => o + 119 + 59*k + 2, fun _ => zI, fun i j _ _ h => (by have h : o + 119 + 59*i + 2 = o + 119 + 59*j + 2 := h; omega), ⟨fun k hk => ⟨k, hk, rfl⟩, d3, d4, fun k hk => dzI (d5 k hk)⟩, fun k hk => absurd hk (by omega)⟩
  have hWB : bo E (o + 475) 0 (auE (au (fun _ => 0) 0)) (auS (au (fun _ => 0) 0)) (fun _ => 0) H := ⟨d6, d7⟩
  refine lv_astore_n (lv' := [(1, .ref o), (0, .ref b)]) hx hb dL_law_7 rfl hl (by decide) rfl (fun ls hl => ?_)
  refine k_new (q := o + 477) (N := 11) (T := TX7) S inX7 tyX7_ok (by decide +kernel) (by decide +kernel) (by decide +kernel) hK hS (ci := 7) rfl dfX7 (by show _ ≤ 601024; omega) (by show _ ≤ 7293034; omega) hz dL_law_8 (fun H1 a1 hz1 hF hS => ?_)
  have hWG := gg_fr2 hWG (fun q h9 _ => hF q (by omega))
  have hWQ := dz_fr2 hWQ (fun q h9 _ => hF q (by omega))
  have hWT := tr_fr2 hWT (fun q h9 _ => hF q (by omega))
  have hWY := hy_fr2 hWY (fun q h9 _ => hF q (by omega))
  have hWB := bo_fr2 hWB (fun q h9 _ => hF q (by omega))
  refine lv_dup hx hb dL_law_11 rfl ?_
  refine k_IM (As := []) (rest := [.ref (o + 477)]) S hK (c_X7_init l E (o + 477)) ggL_law_X7_init rfl hd_X7_init (by decide +kernel) (by decide +kernel) (by decide +kernel) rfl ⟨rfl, rfl⟩ ⟨Nat.le_of_ble_eq_true rfl, Nat.le_of_ble_eq_true rfl⟩ (⟨hz1, a1⟩) rfl hl.1 rfl (Nat.le_of_ble_eq_true rfl) dL_law_12 ⟨by show _ ≤ 601024; omega, by show _ ≤ 7293034; omega⟩ hS (fun q h => by show o ≤ q; have := h.1; omega) (fun q h => by show o ≤ q; have := h.1; omega) (fun H2 locs hQ zH fH hS => ?_)
  obtain ⟨hz2, hWM⟩ := hQ
  have hWG := gg_fr2 hWG (fun q h9 hq => fH q h9 (bl_ne hq (by omega)))
  have hWQ := dz_fr2 hWQ (fun q h9 hq => fH q h9 (bl_ne hq (by omega)))
  have hWT := tr_fr2 hWT (fun q h9 hq => fH q h9 (bl_ne hq (by omega)))
  have hWY := hy_fr2 hWY (fun q h9 hq => fH q h9 (bl_ne hq (by omega)))
  have hWB := bo_fr2 hWB (fun q h9 hq => fH q h9 (bl_ne hq (by omega)))
  refine lv_astore_n (lv' := [(2, .ref (o + 477)), (1, .ref o), (0, .ref b)]) hx hb dL_law_15 rfl hl (by decide) rfl (fun ls hl => ?_)
  refine lv_iconst (v := nI 1) hx hb dL_law_16 (by decide) ?_
  refine k_newl (q := o + 483) hx hb (hts _ (by decide +kernel)) hK hS (by show _ ≤ 601024; omega) (by show _ ≤ 7293034; omega) (by rw [hz2]) dL_law_17 (fun H3 hWO hz3 hF hS => ?_)
  have hWG := gg_fr2 hWG (fun q h9 _ => hF q (by omega))
  have hWQ := dz_fr2 hWQ (fun q h9 _ => hF q (by omega))
  have hWT := tr_fr2 hWT (fun q h9 _ => hF q (by omega))
  have hWY := hy_fr2 hWY (fun q h9 _ => hF q (by omega))
  have hWB := bo_fr2 hWB (fun q h9 _ => hF q (by omega))
  have hWM := md_fr2 hWM (fun q h9 _ => hF q (by omega))
  refine lv_astore_n (lv' := [(3, .ref (o + 483)), (2, .ref (o + 477)), (1, .ref o), (0, .ref b)]) hx hb dL_law_19 rfl hl (by decide) rfl (fun ls hl => ?_)
  refine lv_iconst (v := nI 0) hx hb dL_law_20 (by decide) ?_
  refine lv_istore (lv' := [(4, .int (nI 0)), (3, .ref (o + 483)), (2, .ref (o + 477)), (1, .ref o), (0, .ref b)]) hx hb dL_law_21 hl (by decide) rfl (fun ls hl => ?_)
  refine k_cs (cells' := 484 + 0) (slots' := 5828 + 6*0) (by omega) (by omega) ?_
  exact law_loop C0 C (L + 1) 0 (by omega) (by omega) zI ((fun _ => 0, fun _ => 0, fun _ => 0, fun _ => 0, 0, 0, 0, 0, 0, 0) : md_w) 0 0 _ _ ls ⟨rfl, by omega, rfl, by omega, kw_0, fun k hk => absurd hk (by omega)⟩ (LI_mk hWG hWQ hWT hWY hWB hWM hWO) hS (lv_sub hl [4, 3, 2, 1, 0] rfl)
-- ===== YOUR PART ENDS =====
set_option maxHeartbeats 4000000 in
theorem lw_walk (l : Launch) (hflags : l.flags = flags0) (b : Addr) (xs : List Int32) : MetFree l x (headSpec (Jvm.Cond.code x code maxLocals ret :: tables_1) room_1) (lw_P b xs) (fun _ _ _ _ _ => True) lw_Q := by
  refine MetFree.of_bodyS (code := code) (maxLocals := maxLocals) (ret := ret) (by decide) ?_ ?_
  · intro args s m h hn
    obtain ⟨meth, c, h1, h2, h3, h4, h5, h6, -, -⟩ := Cond.code_spec hn (atoms_spec (ws := Jvm.Cond.code x code maxLocals ret :: tables_1) h _ List.mem_cons_self)
    exact ⟨meth, c, h1, h2, h3, h4, h5, h6⟩
  · intro p e s m args below meth c s₁ B hml0 hP _
    obtain ⟨rfl, hx, hbd, hgv⟩ := hP
    obtain ⟨scr, harrAt, hlist, hof, hsmall⟩ := hx
    obtain ⟨hcb, hkn, -, -⟩ := State.arrayAt?_spec harrAt
    have hown : s.vm.findClass R_law = some m.cls := findClass_of_methodNamed B.named
    have hts0 : ∀ c ∈ (Jvm.Cond.code x code maxLocals ret :: tables_1), c.before #[Value.ref b] s = true := atoms_spec (ws := Jvm.Cond.code x code maxLocals ret :: tables_1) B.pre
    have hts : ∀ w ∈ lw_tbl, w.before #[Value.ref b] s = true := k2_hts_sels lw_privs (fun w hw => hts0 w (List.mem_cons_of_mem _ hw)) lw_privs_ok
    have hml : c.maxLocals = 9 := B.maxLocals_eq (hts0 _ List.mem_cons_self)
    have X₀ : Stand p l e room_1 s m #[Value.ref b] below meth c s₁ [] 0 0 := Stand.of_body B
    have hh0 : s₁.heap = s.heap := by rw [B.state]; rfl
    have hsz : scr.slots.size = xs.length := by rw [← Array.length_toList, hlist, List.length_map]
    have hval : ∀ j : Nat, j < xs.length → scr.slots[j]? = some (.int (xs.getD j 0)) := fun j hj => by
      rw [← Array.getElem?_toList, hlist]
      simp [hj]
    have hbl : b < s.heap.size := (Array.getElem?_eq_some_iff.mp hcb).1
    have hX : va_X b xs.length (fun j => xs.getD j 0) s s.heap := ⟨scr, hcb, hof, hkn, hsz, hval⟩
    have K : W p l e room_1 s m #[Value.ref b] below meth c s₁.heap [] 0 0 (lw_Z below #[Value.ref b] s) (entryFrame m ([Value.ref b] : List Value).toArray 9) := by
      rw [hh0]
      exact whole_start l hflags hbd ⟨B.exec, B.bytes, B.returns, hml, hown, hts, hX, hbl, B.notSynchronized, hgv⟩
    obtain ⟨t, a1, o, b1, b2, b3⟩ := K s₁ rfl X₀
    exact ⟨t, o, a1, b1, b2, b3⟩
theorem lw_pre_spec {args : Array Value} {s : State} (h : (Jvm.Cond.and given_1 narrow_1).before args s = true) (hr : rest_1_c.before args s = true) : ∃ (b : Addr) (xs : List Int32), lw_P b xs args s := by
  have hs := flat_of_before _ h
  have hq := flat_of_before _ hr
  have hc : (Cond.count 1).before args s = true := hs _ (by decide +kernel)
  have harr : (Cond.arrayOf (.arg 0) .int).before args s = true := hs _ (by decide +kernel)
  have hle : (Cond.le (.length (.arg 0)) (.int 2048)).before args s = true := hs _ (by decide +kernel)
  have hlen : (Cond.isInt (.length (.arg 0))).before args s = true := hq _ (by decide +kernel)
  have hall : (Cond.all (.arg 0) (.isInt (.elem (.arg 0) (.index 0)))).before args s = true := hq _ (by decide +kernel)
  obtain ⟨b, xs, hb, hx⟩ := State.ints_of_pre rfl harr hlen hall
  have hsm : xs.length < 2 ^ 31 := hx.choose_spec.2.2.2
  have hev : (Term.length (.arg 0)).eval args s none [] s = some (.int xs.length.toInt32) := hx.length_eval hb
  have hv := Cond.le_ints hev (show (Term.int 2048).eval args s none [] s = some (.int 2048) from rfl)
  have hd : xs.length.toInt32 ≤ 2048 := by
    simpa [Cond.before, Cond.holds, hv] using hle
  have hN : xs.length ≤ 2048 := (Int32.ofNat_le_ofNat hsm (by decide)).mp (show Int32.ofNat xs.length ≤ Int32.ofNat 2048 from hd)
  exact ⟨b, xs, Cond.one_arg hc (show args[0]? = some (.ref b) from hb), hx, hN, h⟩
theorem lw_comes (l : Launch) (hflags : l.flags = flags0) : Comes l x (Jvm.Cond.code x code maxLocals ret :: tables_1) room_1 (fun tb e args s => Calls_1 tb e args s ∧ rest_1 tb e args s ∧ Pre_1 tb e args s)
    (fun _ _ args s o t => lw_Q args s o t) := by
  intro p e ha hc hk s m args below hf hfit hheap happ hpre
  obtain ⟨b, xs, hP⟩ := lw_pre_spec hpre.2.2 hpre.2.1
  obtain ⟨k, o, h1, h2, h3, hQ⟩ := lw_walk l hflags b xs p e ha hc hk s m args below hf ((Spec.applies_iff_loose hf).mp happ).1 hP trivial
  exact ⟨k, o, h1, h2, h3, hQ⟩
theorem lw_frame {s t : State} {o : Outcome} {args : Array Value} (h : State.butDraws s t lw_cs (fun t1 => Framed s o t1 [] 601024 7293034)) :
    State.butDraws s t [Jvm.Choice.named "NaN.bits"] (fun t1 => Framed s o t1 (fieldLocs frame_1_writes args s ++ arrayLocs frame_1_arrays args s ++ staticLocs frame_1_statics s) 601024 7293034) := h
theorem lw_limb (L : Cond) (hL : ∀ (args : Array Value) (s t : State), L.after args s (.returned (some (.int 1))) t = true) :
    ArmFor flags0 classFile x code maxLocals ret World_1 tables_1 room_1 Calls_1 rest_1 Pre_1
      (fun tb e a s o t => postC L tb e a s o t ∧ State.butDraws s t [Jvm.Choice.named "NaN.bits"] (fun t1 => Framed s o t1 (fieldLocs frame_1_writes a s ++ arrayLocs frame_1_arrays a s ++ staticLocs frame_1_statics s) 601024 7293034)) := by
  intro l hflags _ _ p e ha hc hk s m args below hf hfit hheap happ hpre
  obtain ⟨k, o, h1, h2, h3, rfl, hF⟩ := lw_comes l hflags p e ha hc hk s m args below hf hfit hheap happ hpre
  exact ⟨k, _, h1, h2, h3, hL args s _, lw_frame hF⟩
theorem i_vc : Claimed_1_1 ∧ Claimed_1_2 := ⟨lw_limb limb_1_1 (fun args s t => by simp [limb_1_1, Cond.after, Cond.holds, Cond.value]), lw_limb limb_1_2 (fun args s t => Cond.after_iff.mpr (by
  first | (rw [show limb_1_2 = Cond.eq .result (.int 1) from rfl, Cond.eq_ints (x := 1) (y := 1) rfl rfl]; simp; done) | (simp [limb_1_2, Cond.value, Term.eval]; done)))⟩
