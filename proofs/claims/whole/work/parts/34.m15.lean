/-! ===== the buffer ===== -/
def bo (E : ke_E) (b n : Nat) (er st : Int32) (f : Nat → Int32) (H : Heap) : Prop := va_at E.1 vwCl (b, .inr (0, [.ref (b + 1), .int (nI n), .int er, .int st])) H ∧ va_at E.1 vwCl (b + 1, .inl (E.2 0, 60, .inl f)) H
theorem bo_lt {E : ke_E} {b n : Nat} {er st : Int32} {f : Nat → Int32} {H : Heap} (h : bo E b n er st f H) : b + 1 < H.size := h.2.lt
theorem bo_fr2 {E : ke_E} {b n : Nat} {er st : Int32} {f : Nat → Int32} {H H1 : Heap} (h : bo E b n er st f H) (hq : ∀ q : Nat, q < H.size → bl b 2 q → H1[q]? = H[q]?) : bo E b n er st f H1 := by
  have hl := bo_lt h
  exact ⟨h.1.kept (hq _ (by simp; omega) ⟨by simp, by simp⟩), h.2.kept (hq _ (by simp; omega) ⟨by simp, by simp⟩)⟩
section BO
variable {p : Program} {l : Launch} {e : Env} {R : Room} {s : State} {m : MethodId} {args : Array Value} {below : List Frame} {meth : Method} {c : Code} {H : Heap} {locs : List Loc} {cells slots : Nat} {Q : State → Prop}
variable {cc : ByteArray} {pc nL : Nat} {ls : Array Slot} {rest : List Value} {E : ke_E} {Ts : List Cond} {own : String} {A : Nat → Prop} {H0 : Heap}
variable {b n n' : Nat} {er st er' st' : Int32} {f : Nat → Int32}
theorem bo_put {index : Nat} {x : Int32} (S : CallFix p m c cc nL s args Ts own) (hK : ke E s) (hB : bo E b n er st f H) (hin : ∀ w ∈ wsX00, w ∈ Ts) (k : Nat) (hk : k < 4) (hlink : Cond.fieldLink own index RX0 (TX0 k).2.1 (TX0 k).2.2.1 ∈ Ts) (href : (TX0 k).1 = RX0) (hfin : (TX0 k).2.2.2 = false) (hn : narrow (tyX0 k) (.int x) = .int x) (hfit : fits (tyX0 k) (.int x) = true) (hF : ([.ref (b + 1), .int (nI n), .int er, .int st] : List Value).set k (.int x) = [.ref (b + 1), .int (nI n'), .int er', .int st']) (hS : va_S A H0 H locs) (hA : ∀ q, bl b 2 q → A q) (hdg : decode cc pc = .ok (.putfield index, 3))
    (kk : ∀ (H1 : Heap) (locs1 : List Loc), bo E b n' er' st' f H1 → H1.size = H.size → (∀ q : Nat, ¬ bl b 2 q → H1[q]? = H[q]?) → va_S A H0 H1 locs1 → W p l e R s m args below meth c H1 locs1 cells slots Q (F0 m (pc + 3) ls rest)) : W p l e R s m args below meth c H locs cells slots Q (F0 m pc ls (.int x :: .ref b :: rest)) := by
  refine k_put S hK hB.1 rfl hin tyX0_ok nmX0 k hk hlink href hfin hn hfit (by simpa using hk) hS (hA _ ⟨by omega, by omega⟩) hdg fun H1 locs1 e0 e1 e2 e3 => ?_
  rw [hF] at e0
  exact kk H1 locs1 ⟨e0, hB.2.kept (e2 _ (by simp))⟩ e1 (fun q hq => e2 q (fun h => hq (by subst h; exact ⟨by omega, by omega⟩))) e3
theorem bo_ast {i : Nat} {x : Int32} (hx : p.tables.exec = Jvm.exec) (hb : c.code = cc) (hK : ke E s) (hB : bo E b n er st f H) (hi : i < 60) (hS : va_S A H0 H locs) (hA : ∀ q, bl b 2 q → A q) (hdg : decode cc pc = .ok (.iastore, 1))
    (kk : ∀ (H1 : Heap) (locs1 : List Loc), bo E b n er st (upd f i x) H1 → H1.size = H.size → (∀ q : Nat, ¬ bl b 2 q → H1[q]? = H[q]?) → va_S A H0 H1 locs1 → W p l e R s m args below meth c H1 locs1 cells slots Q (F0 m (pc + 1) ls rest)) : W p l e R s m args below meth c H locs cells slots Q (F0 m pc ls (.int x :: .int (nI i) :: .ref (b + 1) :: rest)) := by
  refine k_iast hx hb hK hB.2 hi (by decide) hS (hA _ ⟨by omega, by omega⟩) hdg fun H1 locs1 e0 e1 e2 e3 => ?_
  exact kk H1 locs1 ⟨hB.1.kept (e2 _ (by simp)), e0⟩ e1 (fun q hq => e2 q (fun h => hq (by subst h; exact ⟨by omega, by omega⟩))) e3
end BO
theorem nx_none {s : Nat} {x : Int32} (h : oI (nx s x) = -1) : nx s x = none := by
  cases q : nx s x with
  | none => rfl
  | some t =>
    have := nx_9 q
    rw [q] at h
    exact absurd h (nI_nm1 (by omega))
theorem nx_some {s : Nat} {x : Int32} (h : ¬ oI (nx s x) = -1) : ∃ t, nx s x = some t := by
  cases q : nx s x with
  | none => rw [q] at h; exact absurd rfl h
  | some t => exact ⟨t, rfl⟩
theorem au_u {f : Nat → Int32} {n s : Nat} {y : Int32} (h : au f n = .inl s) : au (upd f n y) (n + 1) = auN s y n := by
  have k : au (upd f n y) n = au f n := au_c n (fun j hj => upd_n (by omega))
  rw [au_l (k.trans h), upd_s]
theorem au_ur {f : Nat → Int32} {n e : Nat} {y : Int32} (h : au f n = .inr e) : au (upd f n y) (n + 1) = .inr e := by
  have k : au (upd f n y) n = au f n := au_c n (fun j hj => upd_n (by omega))
  exact au_r (k.trans h)
theorem puS_o {s : Nat} {x : Int32} {y : (Nat → Int32) × Int32} (h1 : s ≠ 1) (h3 : s ≠ 3) (h5 : ¬ (5 ≤ s ∧ s < 9)) : puS s x y = y := by
  unfold puS
  split <;> first | rfl | omega
def rm_X0_clear : Room := { frames := 0, cells := 0, slots := 0, locals := 0 }
theorem hd_X0_clear : k_hd1 yX0_clear RX0 0 := by decide +kernel
set_option maxHeartbeats 4000000 in
set_option maxRecDepth 100000 in
theorem c_X0_clear (l : Launch) (E : ke_E) (bb : Nat) (n : Nat) (f : Nat → Int32) (er : Int32) (sta : Int32) : Met l yX0_clear wsX0_clear rm_X0_clear (kp E [.ref bb] (bo E bb n er sta f)) (qm none (bl bb 2) (bo E bb 0 (auE (au f 0)) (auS (au f 0)) f)) 0 0 (bl bb 2) := by
  refine k_hd (cc := cX0_clear) (maxL := 1) (ret := none) (by decide) rfl (Nat.le_of_ble_eq_true rfl) ?_
  intro p e s m below meth c ls S hr hlk hnm hK hP hl
  have hx := S.1
  have hb := S.2.1
  have hts := S.2.2.2.2
  have hP : bo E bb n er sta f s.heap := hP
  have hl : lv_has ls 1 [(0, .ref bb)] := hl
  have hS : va_S (bl bb 2) s.heap s.heap [] := va_S.rf
  refine lv_aload_n hx hb dX0_clear_0 rfl (lv_at hl 0 rfl) ?_
  refine lv_iconst (v := nI 0) hx hb dX0_clear_1 (by decide) ?_
  refine bo_put (n' := 0) (er' := er) (st' := sta) S hK hP (fun _ h => List.mem_cons_of_mem _ (List.mem_append_right _ (h))) 1 (by decide) (List.mem_cons_of_mem _ (List.mem_append_left _ (List.mem_of_getElem? (i := 0) rfl))) rfl rfl rfl rfl rfl hS (fun _ h => h) dX0_clear_2 (fun H locs hP zH fH hS => ?_)
  refine lv_aload_n hx hb dX0_clear_5 rfl (lv_at hl 0 rfl) ?_
  refine lv_iconst (v := (-1)) hx hb dX0_clear_6 (by decide) ?_
  refine bo_put (n' := 0) (er' := (-1)) (st' := sta) S hK hP (fun _ h => List.mem_cons_of_mem _ (List.mem_append_right _ (h))) 2 (by decide) (List.mem_cons_of_mem _ (List.mem_append_left _ (List.mem_of_getElem? (i := 1) rfl))) rfl rfl rfl rfl rfl hS (fun _ h => h) dX0_clear_7 (fun H locs hP zH fH hS => ?_)
  refine lv_aload_n hx hb dX0_clear_10 rfl (lv_at hl 0 rfl) ?_
  refine lv_iconst (v := nI 0) hx hb dX0_clear_11 (by decide) ?_
  refine bo_put (n' := 0) (er' := (-1)) (st' := nI 0) S hK hP (fun _ h => List.mem_cons_of_mem _ (List.mem_append_right _ (h))) 3 (by decide) (List.mem_cons_of_mem _ (List.mem_append_left _ (List.mem_of_getElem? (i := 2) rfl))) rfl rfl rfl rfl rfl hS (fun _ h => h) dX0_clear_12 (fun H locs hP zH fH hS => ?_)
  exact k_vretM hx hb hr hlk dX0_clear_15 hS (show bo E bb 0 (auE (au f 0)) (auS (au f 0)) f _ from hP)
def rm_X0_isDigitBelow : Room := { frames := 0, cells := 0, slots := 0, locals := 0 }
theorem hd_X0_isDigitBelow : k_hd1 yX0_isDigitBelow RX0 2 := by decide +kernel
set_option maxHeartbeats 4000000 in
set_option maxRecDepth 100000 in
theorem c_X0_isDigitBelow (l : Launch) (E : ke_E) (k : Nat) (x : Int32) (hk10 : k ≤ 10) : Met l yX0_isDigitBelow wsX0_isDigitBelow rm_X0_isDigitBelow (kp E [.int (nI k), .int x] (fun _ => True)) (qp (some (.int (bI (dg k x))))) 0 0 nof := by
  refine k_hd (cc := cX0_isDigitBelow) (maxL := 2) (ret := (some .boolean)) (by decide) rfl (Nat.le_of_ble_eq_true rfl) ?_
  intro p e s m below meth c ls S hr hlk hnm hK hP hl
  have hx := S.1
  have hb := S.2.1
  have hts := S.2.2.2.2
  have hl : lv_has ls 2 [(0, .int (nI k)), (1, .int x)] := hl
  refine lv_iload_n hx hb dX0_isDigitBelow_0 rfl (lv_at hl 1 rfl) ?_
  refine lv_bipush (v := nI 48) hx hb dX0_isDigitBelow_1 (by decide) ?_
  refine lv_icmp_lt (tgt := 18) hx hb dX0_isDigitBelow_3 (by decide) (fun c3 => ?_) (fun c3 => ?_)
  · refine lv_iconst (v := nI 0) hx hb dX0_isDigitBelow_18 (by decide) ?_
    exact k_bret hx hb hr hlk dX0_isDigitBelow_19 rfl (bI_f (fun h => h.1 c3))
  · refine lv_iload_n hx hb dX0_isDigitBelow_6 rfl (lv_at hl 1 rfl) ?_
    refine lv_bipush (v := nI 48) hx hb dX0_isDigitBelow_7 (by decide) ?_
    refine lv_iload_n hx hb dX0_isDigitBelow_9 rfl (lv_at hl 0 rfl) ?_
    refine n_iadd (n := k + 48) hx hb dX0_isDigitBelow_10 (by omega) ?_
    refine lv_icmp_ge (tgt := 18) hx hb dX0_isDigitBelow_11 (by decide) (fun c11 => ?_) (fun c11 => ?_)
    · refine lv_iconst (v := nI 0) hx hb dX0_isDigitBelow_18 (by decide) ?_
      exact k_bret hx hb hr hlk dX0_isDigitBelow_19 rfl (bI_f (fun h => absurd h.2 (Int32.not_lt.mpr (by rw [← (show nI (k + 48) = nI 48 + nI k by rw [nI_add, Nat.add_comm])]; exact c11))))
    · refine lv_iconst (v := nI 1) hx hb dX0_isDigitBelow_14 (by decide) ?_
      refine lv_goto (tgt := 19) hx hb dX0_isDigitBelow_15 (by decide) ?_
      exact k_bret hx hb hr hlk dX0_isDigitBelow_19 rfl (bI_t ⟨c3, by rw [← (show nI (k + 48) = nI 48 + nI k by rw [nI_add, Nat.add_comm])]; exact Int32.not_le.mp c11⟩)
def rm_X0_stateBehind : Room := { frames := 1, cells := 0, slots := 0, locals := 21 }
theorem hd_X0_stateBehind : k_hd1 yX0_stateBehind RX0 2 := by decide +kernel
set_option maxHeartbeats 4000000 in
set_option maxRecDepth 100000 in
theorem c_X0_stateBehind (l : Launch) (E : ke_E) (k : Nat) (x : Int32) (hk9 : k ≤ 9) : Met l yX0_stateBehind wsX0_stateBehind rm_X0_stateBehind (kp E [.int (nI k), .int x] (fun _ => True)) (qp (some (.int (oI (nx k x))))) 0 0 nof := by
  refine k_hd (cc := cX0_stateBehind) (maxL := 2) (ret := (some .int)) (by decide) rfl (Nat.le_of_ble_eq_true rfl) ?_
  intro p e s m below meth c ls S hr hlk hnm hK hP hl
  have hx := S.1
  have hb := S.2.1
  have hts := S.2.2.2.2
  have hl : lv_has ls 2 [(0, .int (nI k)), (1, .int x)] := hl
  rcases (by omega : k = 0 ∨ k = 1 ∨ k = 2 ∨ k = 3 ∨ k = 4 ∨ k = 5 ∨ k = 6 ∨ k = 7 ∨ k = 8 ∨ k = 9) with rfl | rfl | rfl | rfl | rfl | rfl | rfl | rfl | rfl | rfl
  · have hl : lv_has ls 2 [(0, .int (nI 0)), (1, .int x)] := hl
    refine lv_iload_n hx hb dX0_stateBehind_0 rfl (lv_at hl 0 rfl) ?_
    refine lv_tableIn (off := 55) (tgt := 56) hx hb dX0_stateBehind_1 (by decide) (by decide) (by decide) (by decide) ?_
    refine lv_iload_n hx hb dX0_stateBehind_56 rfl (lv_at hl 1 rfl) ?_
    refine lv_bipush (v := nI 112) hx hb dX0_stateBehind_57 (by decide) ?_
    refine lv_icmp_ne (tgt := 66) hx hb dX0_stateBehind_59 (by decide) (fun c59 => ?_) (fun c59 => ?_)
    · refine lv_iconst (v := (-1)) hx hb dX0_stateBehind_66 (by decide) ?_
      exact k_iret hx hb hr hlk dX0_stateBehind_67 (congrArg oI (iF_f c59))
    · refine lv_iconst (v := nI 1) hx hb dX0_stateBehind_62 (by decide) ?_
      refine lv_goto (tgt := 67) hx hb dX0_stateBehind_63 (by decide) ?_
      exact k_iret hx hb hr hlk dX0_stateBehind_67 (congrArg oI (iF_t c59))
  · have hl : lv_has ls 2 [(0, .int (nI 1)), (1, .int x)] := hl
    refine lv_iload_n hx hb dX0_stateBehind_0 rfl (lv_at hl 0 rfl) ?_
    refine lv_tableIn (off := 67) (tgt := 68) hx hb dX0_stateBehind_1 (by decide) (by decide) (by decide) (by decide) ?_
    refine lv_bipush (v := nI 6) hx hb dX0_stateBehind_68 (by decide) ?_
    refine lv_iload_n hx hb dX0_stateBehind_70 rfl (lv_at hl 1 rfl) ?_
    refine k_S (As := [.int (nI 6), .int x]) (rest := []) S hK (c_X0_isDigitBelow l E 6 x (by omega)) gX0_stateBehind_X0_isDigitBelow rfl hd_X0_isDigitBelow ⟨rfl, rfl⟩ ⟨Nat.le_of_ble_eq_true rfl, Nat.le_of_ble_eq_true rfl⟩ trivial rfl hl.1 rfl (Nat.le_of_ble_eq_true rfl) dX0_stateBehind_71 ⟨Nat.le_of_ble_eq_true rfl, Nat.le_of_ble_eq_true rfl⟩ ?_
    refine b_eq (tgt := 81) hx hb dX0_stateBehind_74 (by decide) (fun c74 => ?_) (fun c74 => ?_)
    · refine lv_iconst (v := (-1)) hx hb dX0_stateBehind_81 (by decide) ?_
      exact k_iret hx hb hr hlk dX0_stateBehind_82 (congrArg oI (iF_f c74))
    · refine lv_iconst (v := nI 2) hx hb dX0_stateBehind_77 (by decide) ?_
      refine lv_goto (tgt := 82) hx hb dX0_stateBehind_78 (by decide) ?_
      exact k_iret hx hb hr hlk dX0_stateBehind_82 (congrArg oI (iF_t c74))
  · have hl : lv_has ls 2 [(0, .int (nI 2)), (1, .int x)] := hl
    refine lv_iload_n hx hb dX0_stateBehind_0 rfl (lv_at hl 0 rfl) ?_
    refine lv_tableIn (off := 82) (tgt := 83) hx hb dX0_stateBehind_1 (by decide) (by decide) (by decide) (by decide) ?_
    refine lv_iload_n hx hb dX0_stateBehind_83 rfl (lv_at hl 1 rfl) ?_
    refine lv_bipush (v := nI 114) hx hb dX0_stateBehind_84 (by decide) ?_
    refine lv_icmp_ne (tgt := 93) hx hb dX0_stateBehind_86 (by decide) (fun c86 => ?_) (fun c86 => ?_)
    · refine lv_iconst (v := (-1)) hx hb dX0_stateBehind_93 (by decide) ?_
      exact k_iret hx hb hr hlk dX0_stateBehind_94 (congrArg oI (iF_f c86))
    · refine lv_iconst (v := nI 3) hx hb dX0_stateBehind_89 (by decide) ?_
      refine lv_goto (tgt := 94) hx hb dX0_stateBehind_90 (by decide) ?_
      exact k_iret hx hb hr hlk dX0_stateBehind_94 (congrArg oI (iF_t c86))
  · have hl : lv_has ls 2 [(0, .int (nI 3)), (1, .int x)] := hl
    refine lv_iload_n hx hb dX0_stateBehind_0 rfl (lv_at hl 0 rfl) ?_
    refine lv_tableIn (off := 94) (tgt := 95) hx hb dX0_stateBehind_1 (by decide) (by decide) (by decide) (by decide) ?_
    refine lv_iconst (v := nI 4) hx hb dX0_stateBehind_95 (by decide) ?_
    refine lv_iload_n hx hb dX0_stateBehind_96 rfl (lv_at hl 1 rfl) ?_
    refine k_S (As := [.int (nI 4), .int x]) (rest := []) S hK (c_X0_isDigitBelow l E 4 x (by omega)) gX0_stateBehind_X0_isDigitBelow rfl hd_X0_isDigitBelow ⟨rfl, rfl⟩ ⟨Nat.le_of_ble_eq_true rfl, Nat.le_of_ble_eq_true rfl⟩ trivial rfl hl.1 rfl (Nat.le_of_ble_eq_true rfl) dX0_stateBehind_97 ⟨Nat.le_of_ble_eq_true rfl, Nat.le_of_ble_eq_true rfl⟩ ?_
    refine b_eq (tgt := 107) hx hb dX0_stateBehind_100 (by decide) (fun c100 => ?_) (fun c100 => ?_)
    · refine lv_iconst (v := (-1)) hx hb dX0_stateBehind_107 (by decide) ?_
      exact k_iret hx hb hr hlk dX0_stateBehind_108 (congrArg oI (iF_f c100))
    · refine lv_iconst (v := nI 4) hx hb dX0_stateBehind_103 (by decide) ?_
      refine lv_goto (tgt := 108) hx hb dX0_stateBehind_104 (by decide) ?_
      exact k_iret hx hb hr hlk dX0_stateBehind_108 (congrArg oI (iF_t c100))
  · have hl : lv_has ls 2 [(0, .int (nI 4)), (1, .int x)] := hl
    refine lv_iload_n hx hb dX0_stateBehind_0 rfl (lv_at hl 0 rfl) ?_
    refine lv_tableIn (off := 108) (tgt := 109) hx hb dX0_stateBehind_1 (by decide) (by decide) (by decide) (by decide) ?_
    refine lv_iload_n hx hb dX0_stateBehind_109 rfl (lv_at hl 1 rfl) ?_
    refine lv_bipush (v := nI 58) hx hb dX0_stateBehind_110 (by decide) ?_
    refine lv_icmp_ne (tgt := 117) hx hb dX0_stateBehind_112 (by decide) (fun c112 => ?_) (fun c112 => ?_)
    · refine lv_iload_n hx hb dX0_stateBehind_117 rfl (lv_at hl 1 rfl) ?_
      refine lv_bipush (v := nI 59) hx hb dX0_stateBehind_118 (by decide) ?_
      refine lv_icmp_ne (tgt := 127) hx hb dX0_stateBehind_120 (by decide) (fun c120 => ?_) (fun c120 => ?_)
      · refine lv_iconst (v := (-1)) hx hb dX0_stateBehind_127 (by decide) ?_
        exact k_iret hx hb hr hlk dX0_stateBehind_128 (congrArg oI ((iF_f c112).trans (iF_f c120)))
      · refine lv_iconst (v := nI 0) hx hb dX0_stateBehind_123 (by decide) ?_
        refine lv_goto (tgt := 128) hx hb dX0_stateBehind_124 (by decide) ?_
        exact k_iret hx hb hr hlk dX0_stateBehind_128 (congrArg oI ((iF_f c112).trans (iF_t c120)))
    · refine lv_iconst (v := nI 5) hx hb dX0_stateBehind_115 (by decide) ?_
      exact k_iret hx hb hr hlk dX0_stateBehind_116 (congrArg oI (iF_t c112))
  · have hl : lv_has ls 2 [(0, .int (nI 5)), (1, .int x)] := hl
    refine lv_iload_n hx hb dX0_stateBehind_0 rfl (lv_at hl 0 rfl) ?_
    refine lv_tableIn (off := 140) (tgt := 141) hx hb dX0_stateBehind_1 (by decide) (by decide) (by decide) (by decide) ?_
    refine lv_bipush (v := nI 10) hx hb dX0_stateBehind_141 (by decide) ?_
    refine lv_iload_n hx hb dX0_stateBehind_143 rfl (lv_at hl 1 rfl) ?_
    refine k_S (As := [.int (nI 10), .int x]) (rest := []) S hK (c_X0_isDigitBelow l E 10 x (by omega)) gX0_stateBehind_X0_isDigitBelow rfl hd_X0_isDigitBelow ⟨rfl, rfl⟩ ⟨Nat.le_of_ble_eq_true rfl, Nat.le_of_ble_eq_true rfl⟩ trivial rfl hl.1 rfl (Nat.le_of_ble_eq_true rfl) dX0_stateBehind_144 ⟨Nat.le_of_ble_eq_true rfl, Nat.le_of_ble_eq_true rfl⟩ ?_
    refine b_eq (tgt := 156) hx hb dX0_stateBehind_147 (by decide) (fun c147 => ?_) (fun c147 => ?_)
    · refine lv_iconst (v := (-1)) hx hb dX0_stateBehind_156 (by decide) ?_
      exact k_iret hx hb hr hlk dX0_stateBehind_157 (congrArg oI (iF_f c147))
    · refine lv_iload_n hx hb dX0_stateBehind_150 rfl (lv_at hl 0 rfl) ?_
      refine lv_iconst (v := nI 1) hx hb dX0_stateBehind_151 (by decide) ?_
      refine n_iadd (n := 6) hx hb dX0_stateBehind_152 (by omega) ?_
      refine lv_goto (tgt := 157) hx hb dX0_stateBehind_153 (by decide) ?_
      exact k_iret hx hb hr hlk dX0_stateBehind_157 (congrArg oI (iF_t c147))
  · have hl : lv_has ls 2 [(0, .int (nI 6)), (1, .int x)] := hl
    refine lv_iload_n hx hb dX0_stateBehind_0 rfl (lv_at hl 0 rfl) ?_
    refine lv_tableIn (off := 140) (tgt := 141) hx hb dX0_stateBehind_1 (by decide) (by decide) (by decide) (by decide) ?_
    refine lv_bipush (v := nI 10) hx hb dX0_stateBehind_141 (by decide) ?_
    refine lv_iload_n hx hb dX0_stateBehind_143 rfl (lv_at hl 1 rfl) ?_
    refine k_S (As := [.int (nI 10), .int x]) (rest := []) S hK (c_X0_isDigitBelow l E 10 x (by omega)) gX0_stateBehind_X0_isDigitBelow rfl hd_X0_isDigitBelow ⟨rfl, rfl⟩ ⟨Nat.le_of_ble_eq_true rfl, Nat.le_of_ble_eq_true rfl⟩ trivial rfl hl.1 rfl (Nat.le_of_ble_eq_true rfl) dX0_stateBehind_144 ⟨Nat.le_of_ble_eq_true rfl, Nat.le_of_ble_eq_true rfl⟩ ?_
    refine b_eq (tgt := 156) hx hb dX0_stateBehind_147 (by decide) (fun c147 => ?_) (fun c147 => ?_)
    · refine lv_iconst (v := (-1)) hx hb dX0_stateBehind_156 (by decide) ?_
      exact k_iret hx hb hr hlk dX0_stateBehind_157 (congrArg oI (iF_f c147))
    · refine lv_iload_n hx hb dX0_stateBehind_150 rfl (lv_at hl 0 rfl) ?_
      refine lv_iconst (v := nI 1) hx hb dX0_stateBehind_151 (by decide) ?_
      refine n_iadd (n := 7) hx hb dX0_stateBehind_152 (by omega) ?_
      refine lv_goto (tgt := 157) hx hb dX0_stateBehind_153 (by decide) ?_
      exact k_iret hx hb hr hlk dX0_stateBehind_157 (congrArg oI (iF_t c147))
  · have hl : lv_has ls 2 [(0, .int (nI 7)), (1, .int x)] := hl
    refine lv_iload_n hx hb dX0_stateBehind_0 rfl (lv_at hl 0 rfl) ?_
    refine lv_tableIn (off := 140) (tgt := 141) hx hb dX0_stateBehind_1 (by decide) (by decide) (by decide) (by decide) ?_
    refine lv_bipush (v := nI 10) hx hb dX0_stateBehind_141 (by decide) ?_
    refine lv_iload_n hx hb dX0_stateBehind_143 rfl (lv_at hl 1 rfl) ?_
    refine k_S (As := [.int (nI 10), .int x]) (rest := []) S hK (c_X0_isDigitBelow l E 10 x (by omega)) gX0_stateBehind_X0_isDigitBelow rfl hd_X0_isDigitBelow ⟨rfl, rfl⟩ ⟨Nat.le_of_ble_eq_true rfl, Nat.le_of_ble_eq_true rfl⟩ trivial rfl hl.1 rfl (Nat.le_of_ble_eq_true rfl) dX0_stateBehind_144 ⟨Nat.le_of_ble_eq_true rfl, Nat.le_of_ble_eq_true rfl⟩ ?_
    refine b_eq (tgt := 156) hx hb dX0_stateBehind_147 (by decide) (fun c147 => ?_) (fun c147 => ?_)
    · refine lv_iconst (v := (-1)) hx hb dX0_stateBehind_156 (by decide) ?_
      exact k_iret hx hb hr hlk dX0_stateBehind_157 (congrArg oI (iF_f c147))
    · refine lv_iload_n hx hb dX0_stateBehind_150 rfl (lv_at hl 0 rfl) ?_
      refine lv_iconst (v := nI 1) hx hb dX0_stateBehind_151 (by decide) ?_
      refine n_iadd (n := 8) hx hb dX0_stateBehind_152 (by omega) ?_
      refine lv_goto (tgt := 157) hx hb dX0_stateBehind_153 (by decide) ?_
      exact k_iret hx hb hr hlk dX0_stateBehind_157 (congrArg oI (iF_t c147))
  · have hl : lv_has ls 2 [(0, .int (nI 8)), (1, .int x)] := hl
    refine lv_iload_n hx hb dX0_stateBehind_0 rfl (lv_at hl 0 rfl) ?_
    refine lv_tableIn (off := 140) (tgt := 141) hx hb dX0_stateBehind_1 (by decide) (by decide) (by decide) (by decide) ?_
    refine lv_bipush (v := nI 10) hx hb dX0_stateBehind_141 (by decide) ?_
    refine lv_iload_n hx hb dX0_stateBehind_143 rfl (lv_at hl 1 rfl) ?_
    refine k_S (As := [.int (nI 10), .int x]) (rest := []) S hK (c_X0_isDigitBelow l E 10 x (by omega)) gX0_stateBehind_X0_isDigitBelow rfl hd_X0_isDigitBelow ⟨rfl, rfl⟩ ⟨Nat.le_of_ble_eq_true rfl, Nat.le_of_ble_eq_true rfl⟩ trivial rfl hl.1 rfl (Nat.le_of_ble_eq_true rfl) dX0_stateBehind_144 ⟨Nat.le_of_ble_eq_true rfl, Nat.le_of_ble_eq_true rfl⟩ ?_
    refine b_eq (tgt := 156) hx hb dX0_stateBehind_147 (by decide) (fun c147 => ?_) (fun c147 => ?_)
    · refine lv_iconst (v := (-1)) hx hb dX0_stateBehind_156 (by decide) ?_
      exact k_iret hx hb hr hlk dX0_stateBehind_157 (congrArg oI (iF_f c147))
    · refine lv_iload_n hx hb dX0_stateBehind_150 rfl (lv_at hl 0 rfl) ?_
      refine lv_iconst (v := nI 1) hx hb dX0_stateBehind_151 (by decide) ?_
      refine n_iadd (n := 9) hx hb dX0_stateBehind_152 (by omega) ?_
      refine lv_goto (tgt := 157) hx hb dX0_stateBehind_153 (by decide) ?_
      exact k_iret hx hb hr hlk dX0_stateBehind_157 (congrArg oI (iF_t c147))
  · have hl : lv_has ls 2 [(0, .int (nI 9)), (1, .int x)] := hl
    refine lv_iload_n hx hb dX0_stateBehind_0 rfl (lv_at hl 0 rfl) ?_
    refine lv_tableIn (off := 128) (tgt := 129) hx hb dX0_stateBehind_1 (by decide) (by decide) (by decide) (by decide) ?_
    refine lv_iload_n hx hb dX0_stateBehind_129 rfl (lv_at hl 1 rfl) ?_
    refine lv_bipush (v := nI 59) hx hb dX0_stateBehind_130 (by decide) ?_
    refine lv_icmp_ne (tgt := 139) hx hb dX0_stateBehind_132 (by decide) (fun c132 => ?_) (fun c132 => ?_)
    · refine lv_iconst (v := (-1)) hx hb dX0_stateBehind_139 (by decide) ?_
      exact k_iret hx hb hr hlk dX0_stateBehind_140 (congrArg oI (iF_f c132))
    · refine lv_iconst (v := nI 0) hx hb dX0_stateBehind_135 (by decide) ?_
      refine lv_goto (tgt := 140) hx hb dX0_stateBehind_136 (by decide) ?_
      exact k_iret hx hb hr hlk dX0_stateBehind_140 (congrArg oI (iF_t c132))
def rm_X0_add : Room := { frames := 2, cells := 0, slots := 0, locals := 42 }
theorem hd_X0_add : k_hd1 yX0_add RX0 1 := by decide +kernel
set_option maxHeartbeats 4000000 in
set_option maxRecDepth 100000 in
theorem c_X0_add (l : Launch) (E : ke_E) (bb : Nat) (n : Nat) (f : Nat → Int32) (y : Int32) (hn60 : n < 60) : Met l yX0_add wsX0_add rm_X0_add (kp E [.ref bb, .int y] (bo E bb n (auE (au f n)) (auS (au f n)) f)) (qm none (bl bb 2) (bo E bb (n + 1) (auE (au (upd f n y) (n + 1))) (auS (au (upd f n y) (n + 1))) (upd f n y))) 0 0 (bl bb 2) := by
  refine k_hd (cc := cX0_add) (maxL := 2) (ret := none) (by decide) rfl (Nat.le_of_ble_eq_true rfl) ?_
  intro p e s m below meth c ls S hr hlk hnm hK hP hl
  have hx := S.1
  have hb := S.2.1
  have hts := S.2.2.2.2
  have hP : bo E bb n (auE (au f n)) (auS (au f n)) f s.heap := hP
  have hl : lv_has ls 2 [(0, .ref bb), (1, .int y)] := hl
  have hS : va_S (bl bb 2) s.heap s.heap [] := va_S.rf
  rcases hau : au f n with s9 | e9
  · have hB : bo E bb n (-1) (nI s9) f s.heap := by have h9 := hP; rw [hau] at h9; exact h9
    have hs9 := au_9 _ _ hau
    refine lv_aload_n hx hb dX0_add_0 rfl (lv_at hl 0 rfl) ?_
    refine k_get S hK hB.1 rfl (fun _ h => List.mem_cons_of_mem _ (List.mem_append_right _ (h))) 1 (by decide) (List.mem_cons_of_mem _ (List.mem_append_left _ (List.mem_of_getElem? (i := 0) rfl))) rfl (v := .int (nI n)) rfl dX0_add_1 ?_
    refine lv_aload_n hx hb dX0_add_4 rfl (lv_at hl 0 rfl) ?_
    refine k_get S hK hB.1 rfl (fun _ h => List.mem_cons_of_mem _ (List.mem_append_right _ (h))) 0 (by decide) (List.mem_cons_of_mem _ (List.mem_append_left _ (List.mem_of_getElem? (i := 1) rfl))) rfl (v := .ref (bb + 1)) rfl dX0_add_5 ?_
    refine k_alen hx hb hK (t := 0) rfl hB.2 dX0_add_8 ?_
    refine k_top (y := nI 60) rfl ?_
    refine k_SN (q := (RX0, 25, yX6_isIndex, RX6)) (As := [.int (nI n), .int (nI 60)]) (rest := []) S hK (List.mem_of_getElem? (i := 1) rfl) (c_X6_isIndex_n l E n 60 (by omega) (by omega)) ggX0_add_X6_isIndex rfl hd_X6_isIndex (List.mem_cons_of_mem _ (List.mem_append_left _ (List.mem_of_getElem? (i := 4) rfl))) (List.mem_cons_of_mem _ (List.mem_append_left _ (List.mem_of_getElem? (i := 5) rfl))) ⟨rfl, rfl⟩ ⟨Nat.le_of_ble_eq_true rfl, Nat.le_of_ble_eq_true rfl⟩ trivial rfl hl.1 rfl (Nat.le_of_ble_eq_true rfl) dX0_add_9 ⟨Nat.le_of_ble_eq_true rfl, Nat.le_of_ble_eq_true rfl⟩ ?_
    refine b_ne (tgt := 16) hx hb dX0_add_12 (by decide) (fun c12 => ?_) (fun h => absurd hn60 h)
    refine lv_aload_n hx hb dX0_add_16 rfl (lv_at hl 0 rfl) ?_
    refine k_get S hK hB.1 rfl (fun _ h => List.mem_cons_of_mem _ (List.mem_append_right _ (h))) 2 (by decide) (List.mem_cons_of_mem _ (List.mem_append_left _ (List.mem_of_getElem? (i := 2) rfl))) rfl (v := .int (-1)) rfl dX0_add_17 ?_
    refine lv_iconst (v := (-1)) hx hb dX0_add_20 (by decide) ?_
    refine lv_icmp_ne (tgt := 56) hx hb dX0_add_21 (by decide) (fun h => absurd rfl h) (fun c21 => ?_)
    refine lv_aload_n hx hb dX0_add_24 rfl (lv_at hl 0 rfl) ?_
    refine lv_aload_n hx hb dX0_add_25 rfl (lv_at hl 0 rfl) ?_
    refine k_get S hK hB.1 rfl (fun _ h => List.mem_cons_of_mem _ (List.mem_append_right _ (h))) 3 (by decide) (List.mem_cons_of_mem _ (List.mem_append_left _ (List.mem_of_getElem? (i := 3) rfl))) rfl (v := .int (nI s9)) rfl dX0_add_26 ?_
    refine lv_iload_n hx hb dX0_add_29 rfl (lv_at hl 1 rfl) ?_
    refine k_S (As := [.int (nI s9), .int y]) (rest := [.ref bb]) S hK (c_X0_stateBehind l E s9 y (by omega)) gX0_add_X0_stateBehind rfl hd_X0_stateBehind ⟨rfl, rfl⟩ ⟨Nat.le_of_ble_eq_true rfl, Nat.le_of_ble_eq_true rfl⟩ trivial rfl hl.1 rfl (Nat.le_of_ble_eq_true rfl) dX0_add_30 ⟨Nat.le_of_ble_eq_true rfl, Nat.le_of_ble_eq_true rfl⟩ ?_
    refine bo_put (n' := n) (er' := (-1)) (st' := oI (nx s9 y)) S hK hB (fun _ h => List.mem_cons_of_mem _ (List.mem_append_right _ (h))) 3 (by decide) (List.mem_cons_of_mem _ (List.mem_append_left _ (List.mem_of_getElem? (i := 3) rfl))) rfl rfl rfl rfl rfl hS (fun _ h => h) dX0_add_33 (fun H locs hP zH fH hS => ?_)
    refine lv_aload_n hx hb dX0_add_36 rfl (lv_at hl 0 rfl) ?_
    refine lv_aload_n hx hb dX0_add_37 rfl (lv_at hl 0 rfl) ?_
    refine k_get S hK hP.1 rfl (fun _ h => List.mem_cons_of_mem _ (List.mem_append_right _ (h))) 3 (by decide) (List.mem_cons_of_mem _ (List.mem_append_left _ (List.mem_of_getElem? (i := 3) rfl))) rfl (v := .int (oI (nx s9 y))) rfl dX0_add_38 ?_
    refine lv_iconst (v := (-1)) hx hb dX0_add_41 (by decide) ?_
    refine lv_icmp_ne (tgt := 52) hx hb dX0_add_42 (by decide) (fun c42 => ?_) (fun c42 => ?_)
    · refine lv_iconst (v := (-1)) hx hb dX0_add_52 (by decide) ?_
      refine bo_put (n' := n) (er' := (-1)) (st' := oI (nx s9 y)) S hK hP (fun _ h => List.mem_cons_of_mem _ (List.mem_append_right _ (h))) 2 (by decide) (List.mem_cons_of_mem _ (List.mem_append_left _ (List.mem_of_getElem? (i := 2) rfl))) rfl rfl rfl rfl rfl hS (fun _ h => h) dX0_add_53 (fun H locs hP zH fH hS => ?_)
      refine lv_aload_n hx hb dX0_add_56 rfl (lv_at hl 0 rfl) ?_
      refine k_get S hK hP.1 rfl (fun _ h => List.mem_cons_of_mem _ (List.mem_append_right _ (h))) 0 (by decide) (List.mem_cons_of_mem _ (List.mem_append_left _ (List.mem_of_getElem? (i := 1) rfl))) rfl (v := .ref (bb + 1)) rfl dX0_add_57 ?_
      refine lv_aload_n hx hb dX0_add_60 rfl (lv_at hl 0 rfl) ?_
      refine k_get S hK hP.1 rfl (fun _ h => List.mem_cons_of_mem _ (List.mem_append_right _ (h))) 1 (by decide) (List.mem_cons_of_mem _ (List.mem_append_left _ (List.mem_of_getElem? (i := 0) rfl))) rfl (v := .int (nI n)) rfl dX0_add_61 ?_
      refine lv_iload_n hx hb dX0_add_64 rfl (lv_at hl 1 rfl) ?_
      refine bo_ast hx hb hK hP (by omega) hS (fun _ h => h) dX0_add_65 (fun H locs hP zH fH hS => ?_)
      refine lv_aload_n hx hb dX0_add_66 rfl (lv_at hl 0 rfl) ?_
      refine lv_dup hx hb dX0_add_67 rfl ?_
      refine k_get S hK hP.1 rfl (fun _ h => List.mem_cons_of_mem _ (List.mem_append_right _ (h))) 1 (by decide) (List.mem_cons_of_mem _ (List.mem_append_left _ (List.mem_of_getElem? (i := 0) rfl))) rfl (v := .int (nI n)) rfl dX0_add_68 ?_
      refine lv_iconst (v := nI 1) hx hb dX0_add_71 (by decide) ?_
      refine n_iadd (n := n + 1) hx hb dX0_add_72 (by omega) ?_
      refine bo_put (n' := n + 1) (er' := (-1)) (st' := oI (nx s9 y)) S hK hP (fun _ h => List.mem_cons_of_mem _ (List.mem_append_right _ (h))) 1 (by decide) (List.mem_cons_of_mem _ (List.mem_append_left _ (List.mem_of_getElem? (i := 0) rfl))) rfl rfl rfl rfl rfl hS (fun _ h => h) dX0_add_73 (fun H locs hP zH fH hS => ?_)
      exact k_vretM hx hb hr hlk dX0_add_76 hS (show bo E bb (n + 1) (auE (au (upd f n y) (n + 1))) (auS (au (upd f n y) (n + 1))) (upd f n y) _ from (by obtain ⟨t9, ht9⟩ := nx_some c42; have h9 := hP; rw [ht9] at h9; rw [au_u hau, auN_s ht9]; exact h9))
    · refine lv_aload_n hx hb dX0_add_45 rfl (lv_at hl 0 rfl) ?_
      refine k_get S hK hP.1 rfl (fun _ h => List.mem_cons_of_mem _ (List.mem_append_right _ (h))) 1 (by decide) (List.mem_cons_of_mem _ (List.mem_append_left _ (List.mem_of_getElem? (i := 0) rfl))) rfl (v := .int (nI n)) rfl dX0_add_46 ?_
      refine lv_goto (tgt := 53) hx hb dX0_add_49 (by decide) ?_
      refine bo_put (n' := n) (er' := nI n) (st' := oI (nx s9 y)) S hK hP (fun _ h => List.mem_cons_of_mem _ (List.mem_append_right _ (h))) 2 (by decide) (List.mem_cons_of_mem _ (List.mem_append_left _ (List.mem_of_getElem? (i := 2) rfl))) rfl rfl rfl rfl rfl hS (fun _ h => h) dX0_add_53 (fun H locs hP zH fH hS => ?_)
      refine lv_aload_n hx hb dX0_add_56 rfl (lv_at hl 0 rfl) ?_
      refine k_get S hK hP.1 rfl (fun _ h => List.mem_cons_of_mem _ (List.mem_append_right _ (h))) 0 (by decide) (List.mem_cons_of_mem _ (List.mem_append_left _ (List.mem_of_getElem? (i := 1) rfl))) rfl (v := .ref (bb + 1)) rfl dX0_add_57 ?_
      refine lv_aload_n hx hb dX0_add_60 rfl (lv_at hl 0 rfl) ?_
      refine k_get S hK hP.1 rfl (fun _ h => List.mem_cons_of_mem _ (List.mem_append_right _ (h))) 1 (by decide) (List.mem_cons_of_mem _ (List.mem_append_left _ (List.mem_of_getElem? (i := 0) rfl))) rfl (v := .int (nI n)) rfl dX0_add_61 ?_
      refine lv_iload_n hx hb dX0_add_64 rfl (lv_at hl 1 rfl) ?_
      refine bo_ast hx hb hK hP (by omega) hS (fun _ h => h) dX0_add_65 (fun H locs hP zH fH hS => ?_)
      refine lv_aload_n hx hb dX0_add_66 rfl (lv_at hl 0 rfl) ?_
      refine lv_dup hx hb dX0_add_67 rfl ?_
      refine k_get S hK hP.1 rfl (fun _ h => List.mem_cons_of_mem _ (List.mem_append_right _ (h))) 1 (by decide) (List.mem_cons_of_mem _ (List.mem_append_left _ (List.mem_of_getElem? (i := 0) rfl))) rfl (v := .int (nI n)) rfl dX0_add_68 ?_
      refine lv_iconst (v := nI 1) hx hb dX0_add_71 (by decide) ?_
      refine n_iadd (n := n + 1) hx hb dX0_add_72 (by omega) ?_
      refine bo_put (n' := n + 1) (er' := nI n) (st' := oI (nx s9 y)) S hK hP (fun _ h => List.mem_cons_of_mem _ (List.mem_append_right _ (h))) 1 (by decide) (List.mem_cons_of_mem _ (List.mem_append_left _ (List.mem_of_getElem? (i := 0) rfl))) rfl rfl rfl rfl rfl hS (fun _ h => h) dX0_add_73 (fun H locs hP zH fH hS => ?_)
      exact k_vretM hx hb hr hlk dX0_add_76 hS (show bo E bb (n + 1) (auE (au (upd f n y) (n + 1))) (auS (au (upd f n y) (n + 1))) (upd f n y) _ from (by have ht9 := nx_none c42; have h9 := hP; rw [ht9] at h9; rw [au_u hau, auN_n ht9]; exact h9))
  · have hB : bo E bb n (nI e9) (-1) f s.heap := by have h9 := hP; rw [hau] at h9; exact h9
    have he9 := au_e _ _ hau
    refine lv_aload_n hx hb dX0_add_0 rfl (lv_at hl 0 rfl) ?_
    refine k_get S hK hB.1 rfl (fun _ h => List.mem_cons_of_mem _ (List.mem_append_right _ (h))) 1 (by decide) (List.mem_cons_of_mem _ (List.mem_append_left _ (List.mem_of_getElem? (i := 0) rfl))) rfl (v := .int (nI n)) rfl dX0_add_1 ?_
    refine lv_aload_n hx hb dX0_add_4 rfl (lv_at hl 0 rfl) ?_
    refine k_get S hK hB.1 rfl (fun _ h => List.mem_cons_of_mem _ (List.mem_append_right _ (h))) 0 (by decide) (List.mem_cons_of_mem _ (List.mem_append_left _ (List.mem_of_getElem? (i := 1) rfl))) rfl (v := .ref (bb + 1)) rfl dX0_add_5 ?_
    refine k_alen hx hb hK (t := 0) rfl hB.2 dX0_add_8 ?_
    refine k_top (y := nI 60) rfl ?_
    refine k_SN (q := (RX0, 25, yX6_isIndex, RX6)) (As := [.int (nI n), .int (nI 60)]) (rest := []) S hK (List.mem_of_getElem? (i := 1) rfl) (c_X6_isIndex_n l E n 60 (by omega) (by omega)) ggX0_add_X6_isIndex rfl hd_X6_isIndex (List.mem_cons_of_mem _ (List.mem_append_left _ (List.mem_of_getElem? (i := 4) rfl))) (List.mem_cons_of_mem _ (List.mem_append_left _ (List.mem_of_getElem? (i := 5) rfl))) ⟨rfl, rfl⟩ ⟨Nat.le_of_ble_eq_true rfl, Nat.le_of_ble_eq_true rfl⟩ trivial rfl hl.1 rfl (Nat.le_of_ble_eq_true rfl) dX0_add_9 ⟨Nat.le_of_ble_eq_true rfl, Nat.le_of_ble_eq_true rfl⟩ ?_
    refine b_ne (tgt := 16) hx hb dX0_add_12 (by decide) (fun c12 => ?_) (fun h => absurd hn60 h)
    refine lv_aload_n hx hb dX0_add_16 rfl (lv_at hl 0 rfl) ?_
    refine k_get S hK hB.1 rfl (fun _ h => List.mem_cons_of_mem _ (List.mem_append_right _ (h))) 2 (by decide) (List.mem_cons_of_mem _ (List.mem_append_left _ (List.mem_of_getElem? (i := 2) rfl))) rfl (v := .int (nI e9)) rfl dX0_add_17 ?_
    refine lv_iconst (v := (-1)) hx hb dX0_add_20 (by decide) ?_
    refine lv_icmp_ne (tgt := 56) hx hb dX0_add_21 (by decide) (fun c21 => ?_) (fun h => absurd h (nI_nm1 (by omega)))
    refine lv_aload_n hx hb dX0_add_56 rfl (lv_at hl 0 rfl) ?_
    refine k_get S hK hB.1 rfl (fun _ h => List.mem_cons_of_mem _ (List.mem_append_right _ (h))) 0 (by decide) (List.mem_cons_of_mem _ (List.mem_append_left _ (List.mem_of_getElem? (i := 1) rfl))) rfl (v := .ref (bb + 1)) rfl dX0_add_57 ?_
    refine lv_aload_n hx hb dX0_add_60 rfl (lv_at hl 0 rfl) ?_
    refine k_get S hK hB.1 rfl (fun _ h => List.mem_cons_of_mem _ (List.mem_append_right _ (h))) 1 (by decide) (List.mem_cons_of_mem _ (List.mem_append_left _ (List.mem_of_getElem? (i := 0) rfl))) rfl (v := .int (nI n)) rfl dX0_add_61 ?_
    refine lv_iload_n hx hb dX0_add_64 rfl (lv_at hl 1 rfl) ?_
    refine bo_ast hx hb hK hB (by omega) hS (fun _ h => h) dX0_add_65 (fun H locs hP zH fH hS => ?_)
    refine lv_aload_n hx hb dX0_add_66 rfl (lv_at hl 0 rfl) ?_
    refine lv_dup hx hb dX0_add_67 rfl ?_
    refine k_get S hK hP.1 rfl (fun _ h => List.mem_cons_of_mem _ (List.mem_append_right _ (h))) 1 (by decide) (List.mem_cons_of_mem _ (List.mem_append_left _ (List.mem_of_getElem? (i := 0) rfl))) rfl (v := .int (nI n)) rfl dX0_add_68 ?_
    refine lv_iconst (v := nI 1) hx hb dX0_add_71 (by decide) ?_
    refine n_iadd (n := n + 1) hx hb dX0_add_72 (by omega) ?_
    refine bo_put (n' := n + 1) (er' := nI e9) (st' := (-1)) S hK hP (fun _ h => List.mem_cons_of_mem _ (List.mem_append_right _ (h))) 1 (by decide) (List.mem_cons_of_mem _ (List.mem_append_left _ (List.mem_of_getElem? (i := 0) rfl))) rfl rfl rfl rfl rfl hS (fun _ h => h) dX0_add_73 (fun H locs hP zH fH hS => ?_)
    exact k_vretM hx hb hr hlk dX0_add_76 hS (show bo E bb (n + 1) (auE (au (upd f n y) (n + 1))) (auS (au (upd f n y) (n + 1))) (upd f n y) _ from (by rw [au_ur hau]; exact hP))
def rm_X0_isComplete : Room := { frames := 0, cells := 0, slots := 0, locals := 0 }
theorem hd_X0_isComplete : k_hd1 yX0_isComplete RX0 0 := by decide +kernel
set_option maxHeartbeats 4000000 in
set_option maxRecDepth 100000 in
theorem c_X0_isComplete (l : Launch) (E : ke_E) (bb : Nat) (n : Nat) (f : Nat → Int32) : Met l yX0_isComplete wsX0_isComplete rm_X0_isComplete (kp E [.ref bb] (bo E bb n (auE (au f n)) (auS (au f n)) f)) (qp (some (.int (bI (au f n = .inl 4 ∨ au f n = .inl 9))))) 0 0 nof := by
  refine k_hd (cc := cX0_isComplete) (maxL := 1) (ret := (some .boolean)) (by decide) rfl (Nat.le_of_ble_eq_true rfl) ?_
  intro p e s m below meth c ls S hr hlk hnm hK hP hl
  have hx := S.1
  have hb := S.2.1
  have hts := S.2.2.2.2
  have hP : bo E bb n (auE (au f n)) (auS (au f n)) f s.heap := hP
  have hl : lv_has ls 1 [(0, .ref bb)] := hl
  rcases hau : au f n with s9 | e9
  · have hB : bo E bb n (-1) (nI s9) f s.heap := by have h9 := hP; rw [hau] at h9; exact h9
    have hs9 := au_9 _ _ hau
    refine lv_aload_n hx hb dX0_isComplete_0 rfl (lv_at hl 0 rfl) ?_
    refine k_get S hK hB.1 rfl (fun _ h => List.mem_cons_of_mem _ (List.mem_append_right _ (h))) 3 (by decide) (List.mem_cons_of_mem _ (List.mem_append_left _ (List.mem_of_getElem? (i := 0) rfl))) rfl (v := .int (nI s9)) rfl dX0_isComplete_1 ?_
    refine lv_iconst (v := nI 4) hx hb dX0_isComplete_4 (by decide) ?_
    refine n_ieq (tgt := 17) hx hb dX0_isComplete_5 (by decide) (by omega) (by omega) (fun c5 => ?_) (fun c5 => ?_)
    · refine lv_iconst (v := nI 1) hx hb dX0_isComplete_17 (by decide) ?_
      refine lv_goto (tgt := 22) hx hb dX0_isComplete_18 (by decide) ?_
      exact k_bret hx hb hr hlk dX0_isComplete_22 rfl (bI_t (Or.inl (by rw [c5])))
    · refine lv_aload_n hx hb dX0_isComplete_8 rfl (lv_at hl 0 rfl) ?_
      refine k_get S hK hB.1 rfl (fun _ h => List.mem_cons_of_mem _ (List.mem_append_right _ (h))) 3 (by decide) (List.mem_cons_of_mem _ (List.mem_append_left _ (List.mem_of_getElem? (i := 0) rfl))) rfl (v := .int (nI s9)) rfl dX0_isComplete_9 ?_
      refine lv_bipush (v := nI 9) hx hb dX0_isComplete_12 (by decide) ?_
      refine n_ine (tgt := 21) hx hb dX0_isComplete_14 (by decide) (by omega) (by omega) (fun c14 => ?_) (fun c14 => ?_)
      · refine lv_iconst (v := nI 0) hx hb dX0_isComplete_21 (by decide) ?_
        exact k_bret hx hb hr hlk dX0_isComplete_22 rfl (bI_f (fun h => by rcases h with h | h <;> cases h <;> omega))
      · refine lv_iconst (v := nI 1) hx hb dX0_isComplete_17 (by decide) ?_
        refine lv_goto (tgt := 22) hx hb dX0_isComplete_18 (by decide) ?_
        exact k_bret hx hb hr hlk dX0_isComplete_22 rfl (bI_t (Or.inr (by rw [c14])))
  · have hB : bo E bb n (nI e9) (-1) f s.heap := by have h9 := hP; rw [hau] at h9; exact h9
    have he9 := au_e _ _ hau
    refine lv_aload_n hx hb dX0_isComplete_0 rfl (lv_at hl 0 rfl) ?_
    refine k_get S hK hB.1 rfl (fun _ h => List.mem_cons_of_mem _ (List.mem_append_right _ (h))) 3 (by decide) (List.mem_cons_of_mem _ (List.mem_append_left _ (List.mem_of_getElem? (i := 0) rfl))) rfl (v := .int (-1)) rfl dX0_isComplete_1 ?_
    refine lv_iconst (v := nI 4) hx hb dX0_isComplete_4 (by decide) ?_
    refine lv_icmp_eq (tgt := 17) hx hb dX0_isComplete_5 (by decide) (fun h => absurd h (by decide)) (fun c5 => ?_)
    refine lv_aload_n hx hb dX0_isComplete_8 rfl (lv_at hl 0 rfl) ?_
    refine k_get S hK hB.1 rfl (fun _ h => List.mem_cons_of_mem _ (List.mem_append_right _ (h))) 3 (by decide) (List.mem_cons_of_mem _ (List.mem_append_left _ (List.mem_of_getElem? (i := 0) rfl))) rfl (v := .int (-1)) rfl dX0_isComplete_9 ?_
    refine lv_bipush (v := nI 9) hx hb dX0_isComplete_12 (by decide) ?_
    refine lv_icmp_ne (tgt := 21) hx hb dX0_isComplete_14 (by decide) (fun c14 => ?_) (fun h => absurd h (by decide))
    refine lv_iconst (v := nI 0) hx hb dX0_isComplete_21 (by decide) ?_
    exact k_bret hx hb hr hlk dX0_isComplete_22 rfl (bI_f (fun h => by rcases h with h | h <;> cases h))
def rm_X0_unitsInText : Room := { frames := 0, cells := 0, slots := 0, locals := 0 }
theorem hd_X0_unitsInText : k_hd1 yX0_unitsInText RX0 0 := by decide +kernel
set_option maxHeartbeats 4000000 in
set_option maxRecDepth 100000 in
theorem c_X0_unitsInText (l : Launch) (E : ke_E) (bb : Nat) (n : Nat) (f : Nat → Int32) (hn60 : n ≤ 60) : Met l yX0_unitsInText wsX0_unitsInText rm_X0_unitsInText (kp E [.ref bb] (bo E bb n (auE (au f n)) (auS (au f n)) f)) (qp (some (.int (nI (sC f n + 1))))) 0 0 nof := by
  refine k_hd (cc := cX0_unitsInText) (maxL := 3) (ret := (some .int)) (by decide) rfl (Nat.le_of_ble_eq_true rfl) ?_
  intro p e s m below meth c ls S hr hlk hnm hK hP hl
  have hx := S.1
  have hb := S.2.1
  have hts := S.2.2.2.2
  have hP : bo E bb n (auE (au f n)) (auS (au f n)) f s.heap := hP
  have hl : lv_has ls 3 [(0, .ref bb)] := hl
  have J4 : ∀ (n_ : Nat), ∀ (i : Nat), i ≤ n → n < i + n_ → ∀ (ls : Array Slot), lv_has ls 3 [(0, .ref bb), (1, .int (nI (sC f i + 1))), (2, .int (nI i))] → W p l e (headSpec wsX0_unitsInText rm_X0_unitsInText).room s m ([.ref bb] : List Value).toArray below meth c s.heap [] 0 0 (MQ below (qp (some (.int (nI (sC f n + 1))))) ([.ref bb] : List Value).toArray s 0 0 nof) (F0 m 4 ls []) := by
    intro n_
    induction n_ with
    | zero =>
      intro i hi hn_ _ _
      exact absurd hn_ (by omega)
    | succ n_ ih =>
      intro i hi hn_ ls hl
      refine lv_iload_n hx hb dX0_unitsInText_4 rfl (lv_at hl 2 rfl) ?_
      refine lv_aload_n hx hb dX0_unitsInText_5 rfl (lv_at hl 0 rfl) ?_
      refine k_get S hK hP.1 rfl (fun _ h => List.mem_cons_of_mem _ (List.mem_append_right _ (h))) 1 (by decide) (List.mem_cons_of_mem _ (List.mem_append_left _ (List.mem_of_getElem? (i := 0) rfl))) rfl (v := .int (nI n)) rfl dX0_unitsInText_6 ?_
      refine n_ige (tgt := 46) hx hb dX0_unitsInText_9 (by decide) (by omega) (by omega) (fun c9 => ?_) (fun c9 => ?_)
      · refine lv_iload_n hx hb dX0_unitsInText_46 rfl (lv_at hl 1 rfl) ?_
        exact k_iret hx hb hr hlk dX0_unitsInText_47 (by rw [show n = i by omega])
      · refine lv_iload_n hx hb dX0_unitsInText_12 rfl (lv_at hl 2 rfl) ?_
        refine lv_aload_n hx hb dX0_unitsInText_13 rfl (lv_at hl 0 rfl) ?_
        refine k_get S hK hP.1 rfl (fun _ h => List.mem_cons_of_mem _ (List.mem_append_right _ (h))) 0 (by decide) (List.mem_cons_of_mem _ (List.mem_append_left _ (List.mem_of_getElem? (i := 1) rfl))) rfl (v := .ref (bb + 1)) rfl dX0_unitsInText_14 ?_
        refine k_alen hx hb hK (t := 0) rfl hP.2 dX0_unitsInText_17 ?_
        refine k_top (y := nI 60) rfl ?_
        refine n_ige (tgt := 46) hx hb dX0_unitsInText_18 (by decide) (by omega) (by omega) (fun c18 => ?_) (fun c18 => ?_)
        · refine lv_iload_n hx hb dX0_unitsInText_46 rfl (lv_at hl 1 rfl) ?_
          exact k_iret hx hb hr hlk dX0_unitsInText_47 (by rw [show n = i by omega])
        · refine lv_iload_n hx hb dX0_unitsInText_21 rfl (lv_at hl 1 rfl) ?_
          refine lv_aload_n hx hb dX0_unitsInText_22 rfl (lv_at hl 0 rfl) ?_
          refine k_get S hK hP.1 rfl (fun _ h => List.mem_cons_of_mem _ (List.mem_append_right _ (h))) 0 (by decide) (List.mem_cons_of_mem _ (List.mem_append_left _ (List.mem_of_getElem? (i := 1) rfl))) rfl (v := .ref (bb + 1)) rfl dX0_unitsInText_23 ?_
          refine lv_iload_n hx hb dX0_unitsInText_26 rfl (lv_at hl 2 rfl) ?_
          refine k_iald hx hb hK hP.2 (by omega) (by decide) (v := f i) rfl dX0_unitsInText_27 ?_
          refine lv_bipush (v := nI 59) hx hb dX0_unitsInText_28 (by decide) ?_
          refine lv_icmp_ne (tgt := 37) hx hb dX0_unitsInText_30 (by decide) (fun c30 => ?_) (fun c30 => ?_)
          · refine lv_iconst (v := nI 0) hx hb dX0_unitsInText_37 (by decide) ?_
            refine n_iadd (n := sC f i + 1) hx hb dX0_unitsInText_38 (by omega) ?_
            refine lv_istore_n (lv' := [(1, .int (nI (sC f i + 1))), (0, .ref bb), (2, .int (nI i))]) hx hb dX0_unitsInText_39 rfl hl (by decide) rfl (fun ls hl => ?_)
            refine lv_iinc (v := nI (i + 1)) (lv' := [(2, .int (nI (i + 1))), (1, .int (nI (sC f i + 1))), (0, .ref bb)]) hx hb dX0_unitsInText_40 hl (k := 2) rfl (inc_1 _) (by decide) rfl (fun ls hl => ?_)
            refine lv_goto (tgt := 4) hx hb dX0_unitsInText_43 (by decide) ?_
            have hl : lv_has ls 3 [(0, .ref bb), (1, .int (nI (sC f (i + 1) + 1))), (2, .int (nI (i + 1)))] := by
              have h9 := lv_sub (l' := [(0, .ref bb), (1, .int (nI (sC f i + 1))), (2, .int (nI (i + 1)))]) hl [2, 1, 0] rfl
              rw [show (.int (nI (sC f (i + 1) + 1)) : Value) = .int (nI (sC f i + 1)) from congrArg Value.int (by rw [sC_n c30])]
              exact h9
            exact ih (i + 1) (by omega) (by omega) _ hl
          · refine lv_iconst (v := nI 1) hx hb dX0_unitsInText_33 (by decide) ?_
            refine lv_goto (tgt := 38) hx hb dX0_unitsInText_34 (by decide) ?_
            refine n_iadd (n := sC f i + 2) hx hb dX0_unitsInText_38 (by omega) ?_
            refine lv_istore_n (lv' := [(1, .int (nI (sC f i + 2))), (0, .ref bb), (2, .int (nI i))]) hx hb dX0_unitsInText_39 rfl hl (by decide) rfl (fun ls hl => ?_)
            refine lv_iinc (v := nI (i + 1)) (lv' := [(2, .int (nI (i + 1))), (1, .int (nI (sC f i + 2))), (0, .ref bb)]) hx hb dX0_unitsInText_40 hl (k := 2) rfl (inc_1 _) (by decide) rfl (fun ls hl => ?_)
            refine lv_goto (tgt := 4) hx hb dX0_unitsInText_43 (by decide) ?_
            have hl : lv_has ls 3 [(0, .ref bb), (1, .int (nI (sC f (i + 1) + 1))), (2, .int (nI (i + 1)))] := by
              have h9 := lv_sub (l' := [(0, .ref bb), (1, .int (nI (sC f i + 2))), (2, .int (nI (i + 1)))]) hl [2, 1, 0] rfl
              rw [show (.int (nI (sC f (i + 1) + 1)) : Value) = .int (nI (sC f i + 2)) from congrArg Value.int (by rw [sC_s c30])]
              exact h9
            exact ih (i + 1) (by omega) (by omega) _ hl
  refine lv_iconst (v := nI 1) hx hb dX0_unitsInText_0 (by decide) ?_
  refine lv_istore_n (lv' := [(1, .int (nI 1)), (0, .ref bb)]) hx hb dX0_unitsInText_1 rfl hl (by decide) rfl (fun ls hl => ?_)
  refine lv_iconst (v := nI 0) hx hb dX0_unitsInText_2 (by decide) ?_
  refine lv_istore_n (lv' := [(2, .int (nI 0)), (1, .int (nI 1)), (0, .ref bb)]) hx hb dX0_unitsInText_3 rfl hl (by decide) rfl (fun ls hl => ?_)
  have hl : lv_has ls 3 [(0, .ref bb), (1, .int (nI (sC f 0 + 1))), (2, .int (nI 0))] := by
    have h9 := lv_sub (l' := [(0, .ref bb), (1, .int (nI 1)), (2, .int (nI 0))]) hl [2, 1, 0] rfl
    rw [show (.int (nI (sC f 0 + 1)) : Value) = .int (nI 1) from congrArg Value.int (rfl)]
    exact h9
  exact J4 (n + 1) 0 (by omega) (by omega) _ hl
def rm_X0_withText : Room := { frames := 0, cells := 0, slots := 0, locals := 0 }
theorem hd_X0_withText : k_hd1 yX0_withText RX0 1 := by decide +kernel
set_option maxHeartbeats 4000000 in
set_option maxRecDepth 100000 in
theorem c_X0_withText (l : Launch) (E : ke_E) (bb : Nat) (n : Nat) (f : Nat → Int32) (x : Int64) (hn60 : n ≤ 60) : Met l yX0_withText wsX0_withText rm_X0_withText (kp E [.ref bb, .long x] (bo E bb n (auE (au f n)) (auS (au f n)) f)) (qp (some (.long (fl f (mx x (nI n)) n)))) 0 0 nof := by
  refine k_hd (cc := cX0_withText) (maxL := 6) (ret := (some .long)) (by decide) rfl (Nat.le_of_ble_eq_true rfl) ?_
  intro p e s m below meth c ls S hr hlk hnm hK hP hl
  have hx := S.1
  have hb := S.2.1
  have hts := S.2.2.2.2
  have hP : bo E bb n (auE (au f n)) (auS (au f n)) f s.heap := hP
  have hl : lv_has ls 6 [(0, .ref bb), (1, .long x)] := hl
  have J15 : ∀ (n_ : Nat), ∀ (i : Nat), i ≤ n → n < i + n_ → ∀ (ls : Array Slot), lv_has ls 6 [(0, .ref bb), (3, .long (fl f (mx x (nI n)) i)), (5, .int (nI i))] → W p l e (headSpec wsX0_withText rm_X0_withText).room s m ([.ref bb, .long x] : List Value).toArray below meth c s.heap [] 0 0 (MQ below (qp (some (.long (fl f (mx x (nI n)) n)))) ([.ref bb, .long x] : List Value).toArray s 0 0 nof) (F0 m 15 ls []) := by
    intro n_
    induction n_ with
    | zero =>
      intro i hi hn_ _ _
      exact absurd hn_ (by omega)
    | succ n_ ih =>
      intro i hi hn_ ls hl
      refine lv_iload hx hb dX0_withText_15 (lv_at hl 2 rfl) ?_
      refine lv_aload_n hx hb dX0_withText_17 rfl (lv_at hl 0 rfl) ?_
      refine k_get S hK hP.1 rfl (fun _ h => List.mem_cons_of_mem _ (List.mem_append_right _ (h))) 1 (by decide) (List.mem_cons_of_mem _ (List.mem_append_left _ (List.mem_of_getElem? (i := 1) rfl))) rfl (v := .int (nI n)) rfl dX0_withText_18 ?_
      refine n_ige (tgt := 55) hx hb dX0_withText_21 (by decide) (by omega) (by omega) (fun c21 => ?_) (fun c21 => ?_)
      · refine lv_lload_n hx hb dX0_withText_55 rfl (lv_at hl 1 rfl) ?_
        exact k_lret hx hb hr hlk dX0_withText_56 (by rw [show n = i by omega])
      · refine lv_iload hx hb dX0_withText_24 (lv_at hl 2 rfl) ?_
        refine lv_aload_n hx hb dX0_withText_26 rfl (lv_at hl 0 rfl) ?_
        refine k_get S hK hP.1 rfl (fun _ h => List.mem_cons_of_mem _ (List.mem_append_right _ (h))) 0 (by decide) (List.mem_cons_of_mem _ (List.mem_append_left _ (List.mem_of_getElem? (i := 2) rfl))) rfl (v := .ref (bb + 1)) rfl dX0_withText_27 ?_
        refine k_alen hx hb hK (t := 0) rfl hP.2 dX0_withText_30 ?_
        refine k_top (y := nI 60) rfl ?_
        refine n_ige (tgt := 55) hx hb dX0_withText_31 (by decide) (by omega) (by omega) (fun c31 => ?_) (fun c31 => ?_)
        · refine lv_lload_n hx hb dX0_withText_55 rfl (lv_at hl 1 rfl) ?_
          exact k_lret hx hb hr hlk dX0_withText_56 (by rw [show n = i by omega])
        · refine lv_ldc2 (v := 31) hx hb S.2.2.2.1 (hts _ (List.mem_cons_of_mem _ (List.mem_append_left _ (List.mem_of_getElem? (i := 0) rfl)))) dX0_withText_34 ?_
          refine lv_lload_n hx hb dX0_withText_37 rfl (lv_at hl 1 rfl) ?_
          refine lv_lmul hx hb dX0_withText_38 ?_
          refine lv_aload_n hx hb dX0_withText_39 rfl (lv_at hl 0 rfl) ?_
          refine k_get S hK hP.1 rfl (fun _ h => List.mem_cons_of_mem _ (List.mem_append_right _ (h))) 0 (by decide) (List.mem_cons_of_mem _ (List.mem_append_left _ (List.mem_of_getElem? (i := 2) rfl))) rfl (v := .ref (bb + 1)) rfl dX0_withText_40 ?_
          refine lv_iload hx hb dX0_withText_43 (lv_at hl 2 rfl) ?_
          refine k_iald hx hb hK hP.2 (by omega) (by decide) (v := f i) rfl dX0_withText_45 ?_
          refine lv_i2l hx hb dX0_withText_46 rfl ?_
          refine lv_ladd hx hb dX0_withText_47 ?_
          refine lv_lstore_n (lv' := [(3, .long ((31 * (fl f (mx x (nI n)) i)) + ((f i).toInt64))), (0, .ref bb), (5, .int (nI i))]) hx hb dX0_withText_48 rfl hl (by decide) rfl (fun ls hl => ?_)
          refine lv_iinc (v := nI (i + 1)) (lv' := [(5, .int (nI (i + 1))), (3, .long ((31 * (fl f (mx x (nI n)) i)) + ((f i).toInt64))), (0, .ref bb)]) hx hb dX0_withText_49 hl (k := 2) rfl (inc_1 _) (by decide) rfl (fun ls hl => ?_)
          refine lv_goto (tgt := 15) hx hb dX0_withText_52 (by decide) ?_
          have hl : lv_has ls 6 [(0, .ref bb), (3, .long (fl f (mx x (nI n)) (i + 1))), (5, .int (nI (i + 1)))] := by
            have h9 := lv_sub (l' := [(0, .ref bb), (3, .long ((31 * (fl f (mx x (nI n)) i)) + ((f i).toInt64))), (5, .int (nI (i + 1)))]) hl [2, 1, 0] rfl
            rw [show (.long (fl f (mx x (nI n)) (i + 1)) : Value) = .long ((31 * (fl f (mx x (nI n)) i)) + ((f i).toInt64)) from congrArg Value.long (rfl)]
            exact h9
          exact ih (i + 1) (by omega) (by omega) _ hl
  refine lv_ldc2 (v := 31) hx hb S.2.2.2.1 (hts _ (List.mem_cons_of_mem _ (List.mem_append_left _ (List.mem_of_getElem? (i := 0) rfl)))) dX0_withText_0 ?_
  refine lv_lload_n hx hb dX0_withText_3 rfl (lv_at hl 1 rfl) ?_
  refine lv_lmul hx hb dX0_withText_4 ?_
  refine lv_aload_n hx hb dX0_withText_5 rfl (lv_at hl 0 rfl) ?_
  refine k_get S hK hP.1 rfl (fun _ h => List.mem_cons_of_mem _ (List.mem_append_right _ (h))) 1 (by decide) (List.mem_cons_of_mem _ (List.mem_append_left _ (List.mem_of_getElem? (i := 1) rfl))) rfl (v := .int (nI n)) rfl dX0_withText_6 ?_
  refine lv_i2l hx hb dX0_withText_9 rfl ?_
  refine lv_ladd hx hb dX0_withText_10 ?_
  refine lv_lstore_n (lv' := [(3, .long ((31 * x) + ((nI n).toInt64))), (0, .ref bb), (1, .long x)]) hx hb dX0_withText_11 rfl hl (by decide) rfl (fun ls hl => ?_)
  refine lv_iconst (v := nI 0) hx hb dX0_withText_12 (by decide) ?_
  refine lv_istore (lv' := [(5, .int (nI 0)), (3, .long ((31 * x) + ((nI n).toInt64))), (0, .ref bb), (1, .long x)]) hx hb dX0_withText_13 hl (by decide) rfl (fun ls hl => ?_)
  have hl : lv_has ls 6 [(0, .ref bb), (3, .long (fl f (mx x (nI n)) 0)), (5, .int (nI 0))] := by
    have h9 := lv_sub (l' := [(0, .ref bb), (3, .long ((31 * x) + ((nI n).toInt64))), (5, .int (nI 0))]) hl [2, 1, 0] rfl
    rw [show (.long (fl f (mx x (nI n)) 0) : Value) = .long ((31 * x) + ((nI n).toInt64)) from congrArg Value.long (rfl)]
    exact h9
  exact J15 (n + 1) 0 (by omega) (by omega) _ hl
def rm_X0_putUnitsOn : Room := { frames := 2, cells := 0, slots := 0, locals := 45 }
theorem hd_X0_putUnitsOn : k_hd1 yX0_putUnitsOn RX0 1 := by decide +kernel
set_option maxHeartbeats 4000000 in
set_option maxRecDepth 100000 in
theorem c_X0_putUnitsOn (l : Launch) (E : ke_E) (bb : Nat) (n : Nat) (f : Nat → Int32) (d : Nat) (z : Nat → Int32) (ee : Nat) (hdj : d + 59 ≤ bb ∨ bb + 2 ≤ d) (hI : iv z) (hG : au f n = .inl ee) (hc : cn z + tC f n ≤ 20) (hn60 : n ≤ 60) : Met l yX0_putUnitsOn wsX0_putUnitsOn rm_X0_putUnitsOn (kp E [.ref bb, .ref d] (fun H => bo E bb n (auE (au f n)) (auS (au f n)) f H ∧ dz E d z H)) (qm none (bl d 59) (dz E d (pu f z n).1)) 0 0 (bl d 59) := by
  refine k_hd (cc := cX0_putUnitsOn) (maxL := 6) (ret := none) (by decide) rfl (Nat.le_of_ble_eq_true rfl) ?_
  intro p e s m below meth c ls S hr hlk hnm hK hP hl
  have hx := S.1
  have hb := S.2.1
  have hts := S.2.2.2.2
  obtain ⟨hP0, hP1⟩ := hP
  have hl : lv_has ls 6 [(0, .ref bb), (1, .ref d)] := hl
  have hS : va_S (bl d 59) s.heap s.heap [] := va_S.rf
  have J7 : ∀ (n_ : Nat), ∀ (i : Nat), ∀ (sN : Nat), i ≤ n → au f i = .inl sN → n < i + n_ → ∀ (H : Heap) (locs : List Loc), dz E d (pu f z i).1 H → bo E bb n (auE (au f n)) (auS (au f n)) f H → va_S (bl d 59) s.heap H locs → ∀ (ls : Array Slot), lv_has ls 6 [(0, .ref bb), (1, .ref d), (2, .int (pu f z i).2), (3, .int (nI sN)), (4, .int (nI i))] → W p l e (headSpec wsX0_putUnitsOn rm_X0_putUnitsOn).room s m ([.ref bb, .ref d] : List Value).toArray below meth c H locs 0 0 (MQ below (qm none (bl d 59) (dz E d (pu f z n).1)) ([.ref bb, .ref d] : List Value).toArray s 0 0 (bl d 59)) (F0 m 7 ls []) := by
    intro n_
    induction n_ with
    | zero =>
      intro i sN hi hs hn_ _ _ _ _ _ _ _
      exact absurd hn_ (by omega)
    | succ n_ ih =>
      intro i sN hi hs hn_ H locs hW0 hW1 hS ls hl
      have hJ := pu_inv hI hG hc i (by omega)
      have hJ2 := hJ.2.1
      have hs9 := au_9 _ _ hs
      refine lv_iload hx hb dX0_putUnitsOn_7 (lv_at hl 4 rfl) ?_
      refine lv_aload_n hx hb dX0_putUnitsOn_9 rfl (lv_at hl 0 rfl) ?_
      refine k_get S hK hW1.1 rfl (fun _ h => List.mem_cons_of_mem _ (List.mem_append_left _ (List.mem_append_left _ (List.mem_append_right _ (h))))) 1 (by decide) (List.mem_cons_of_mem _ (List.mem_append_left _ (List.mem_append_left _ (List.mem_append_left _ (List.mem_append_left _ (List.mem_of_getElem? (i := 0) rfl)))))) rfl (v := .int (nI n)) rfl dX0_putUnitsOn_10 ?_
      refine n_ige (tgt := 102) hx hb dX0_putUnitsOn_13 (by decide) (by omega) (by omega) (fun c13 => ?_) (fun c13 => ?_)
      · exact k_vretM hx hb hr hlk dX0_putUnitsOn_102 hS (show dz E d (pu f z n).1 _ from (by rw [show n = i by omega]; exact hW0))
      · refine lv_iload hx hb dX0_putUnitsOn_16 (lv_at hl 4 rfl) ?_
        refine lv_aload_n hx hb dX0_putUnitsOn_18 rfl (lv_at hl 0 rfl) ?_
        refine k_get S hK hW1.1 rfl (fun _ h => List.mem_cons_of_mem _ (List.mem_append_left _ (List.mem_append_left _ (List.mem_append_right _ (h))))) 0 (by decide) (List.mem_cons_of_mem _ (List.mem_append_left _ (List.mem_append_left _ (List.mem_append_left _ (List.mem_append_left _ (List.mem_of_getElem? (i := 1) rfl)))))) rfl (v := .ref (bb + 1)) rfl dX0_putUnitsOn_19 ?_
        refine k_alen hx hb hK (t := 0) rfl hW1.2 dX0_putUnitsOn_22 ?_
        refine k_top (y := nI 60) rfl ?_
        refine n_ige (tgt := 102) hx hb dX0_putUnitsOn_23 (by decide) (by omega) (by omega) (fun c23 => ?_) (fun c23 => ?_)
        · exact k_vretM hx hb hr hlk dX0_putUnitsOn_102 hS (show dz E d (pu f z n).1 _ from (by rw [show n = i by omega]; exact hW0))
        · refine lv_aload_n hx hb dX0_putUnitsOn_26 rfl (lv_at hl 0 rfl) ?_
          refine k_get S hK hW1.1 rfl (fun _ h => List.mem_cons_of_mem _ (List.mem_append_left _ (List.mem_append_left _ (List.mem_append_right _ (h))))) 0 (by decide) (List.mem_cons_of_mem _ (List.mem_append_left _ (List.mem_append_left _ (List.mem_append_left _ (List.mem_append_left _ (List.mem_of_getElem? (i := 1) rfl)))))) rfl (v := .ref (bb + 1)) rfl dX0_putUnitsOn_27 ?_
          refine lv_iload hx hb dX0_putUnitsOn_30 (lv_at hl 4 rfl) ?_
          refine k_iald hx hb hK hW1.2 (by omega) (by decide) (v := f i) rfl dX0_putUnitsOn_32 ?_
          refine lv_bipush (v := nI 48) hx hb dX0_putUnitsOn_33 (by decide) ?_
          refine lv_isub hx hb dX0_putUnitsOn_35 ?_
          refine lv_istore (lv' := [(5, .int ((f i) - (nI 48))), (0, .ref bb), (1, .ref d), (2, .int (pu f z i).2), (3, .int (nI sN)), (4, .int (nI i))]) hx hb dX0_putUnitsOn_36 hl (by decide) rfl (fun ls hl => ?_)
          refine lv_iload_n hx hb dX0_putUnitsOn_38 rfl (lv_at hl 4 rfl) ?_
          refine lv_iconst (v := nI 1) hx hb dX0_putUnitsOn_39 (by decide) ?_
          refine n_ine (tgt := 49) hx hb dX0_putUnitsOn_40 (by decide) (by omega) (by omega) (fun c40 => ?_) (fun c40 => ?_)
          · refine lv_iload_n hx hb dX0_putUnitsOn_49 rfl (lv_at hl 4 rfl) ?_
            refine lv_iconst (v := nI 3) hx hb dX0_putUnitsOn_50 (by decide) ?_
            refine n_ine (tgt := 64) hx hb dX0_putUnitsOn_51 (by decide) (by omega) (by omega) (fun c51 => ?_) (fun c51 => ?_)
            · refine lv_iload_n hx hb dX0_putUnitsOn_64 rfl (lv_at hl 4 rfl) ?_
              refine lv_iconst (v := nI 5) hx hb dX0_putUnitsOn_65 (by decide) ?_
              refine n_ilt (tgt := 84) hx hb dX0_putUnitsOn_66 (by decide) (by omega) (by omega) (fun c66 => ?_) (fun c66 => ?_)
              · obtain ⟨t9, ht9⟩ := au_pre hG (m := i + 1) (by omega)
                have hx9 := au_nx hs ht9
                refine lv_iload_n hx hb dX0_putUnitsOn_84 rfl (lv_at hl 4 rfl) ?_
                refine lv_aload_n hx hb dX0_putUnitsOn_85 rfl (lv_at hl 1 rfl) ?_
                refine k_get S hK hW1.1 rfl (fun _ h => List.mem_cons_of_mem _ (List.mem_append_left _ (List.mem_append_left _ (List.mem_append_right _ (h))))) 0 (by decide) (List.mem_cons_of_mem _ (List.mem_append_left _ (List.mem_append_left _ (List.mem_append_left _ (List.mem_append_left _ (List.mem_of_getElem? (i := 1) rfl)))))) rfl (v := .ref (bb + 1)) rfl dX0_putUnitsOn_86 ?_
                refine lv_iload hx hb dX0_putUnitsOn_89 (lv_at hl 5 rfl) ?_
                refine k_iald hx hb hK hW1.2 (by omega) (by decide) (v := f i) rfl dX0_putUnitsOn_91 ?_
                refine k_S (As := [.int (nI sN), .int (f i)]) (rest := []) S hK (c_X0_stateBehind l E sN (f i) (by omega)) gX0_putUnitsOn_X0_stateBehind rfl hd_X0_stateBehind ⟨rfl, rfl⟩ ⟨Nat.le_of_ble_eq_true rfl, Nat.le_of_ble_eq_true rfl⟩ trivial rfl hl.1 rfl (Nat.le_of_ble_eq_true rfl) dX0_putUnitsOn_92 ⟨Nat.le_of_ble_eq_true rfl, Nat.le_of_ble_eq_true rfl⟩ ?_
                refine lv_istore_n (lv' := [(3, .int (oI (nx sN (f i)))), (5, .int ((f i) - (nI 48))), (0, .ref bb), (1, .ref d), (2, .int (pu f z i).2), (4, .int (nI i))]) hx hb dX0_putUnitsOn_95 rfl hl (by decide) rfl (fun ls hl => ?_)
                refine lv_iinc (v := nI (i + 1)) (lv' := [(4, .int (nI (i + 1))), (3, .int (oI (nx sN (f i)))), (5, .int ((f i) - (nI 48))), (0, .ref bb), (1, .ref d), (2, .int (pu f z i).2)]) hx hb dX0_putUnitsOn_96 hl (k := 5) rfl (inc_1 _) (by decide) rfl (fun ls hl => ?_)
                refine lv_goto (tgt := 7) hx hb dX0_putUnitsOn_99 (by decide) ?_
                have hl : lv_has ls 6 [(0, .ref bb), (1, .ref d), (2, .int (pu f z (i + 1)).2), (3, .int (nI t9)), (4, .int (nI (i + 1)))] := by
                  have h9 := lv_sub (l' := [(0, .ref bb), (1, .ref d), (2, .int (pu f z i).2), (3, .int (oI (nx sN (f i)))), (4, .int (nI (i + 1)))]) hl [3, 4, 5, 1, 0] rfl
                  rw [show (.int (pu f z (i + 1)).2 : Value) = .int (pu f z i).2 from congrArg Value.int (by rw [pu_l hs, puS_o (by omega) (by omega) (by omega)])]
                  rw [show (.int (nI t9) : Value) = .int (oI (nx sN (f i))) from congrArg Value.int (by rw [hx9]; rfl)]
                  exact h9
                exact ih (i + 1) t9 (by omega) ht9 (by omega) _ _ (show dz E d (pu f z (i + 1)).1 _ from (by rw [pu_l hs, puS_o (by omega) (by omega) (by omega)]; exact hW0)) hW1 hS _ hl
              · refine lv_iload_n hx hb dX0_putUnitsOn_69 rfl (lv_at hl 4 rfl) ?_
                refine lv_bipush (v := nI 9) hx hb dX0_putUnitsOn_70 (by decide) ?_
                refine n_ige (tgt := 84) hx hb dX0_putUnitsOn_72 (by decide) (by omega) (by omega) (fun c72 => ?_) (fun c72 => ?_)
                · obtain ⟨t9, ht9⟩ := au_pre hG (m := i + 1) (by omega)
                  have hx9 := au_nx hs ht9
                  refine lv_iload_n hx hb dX0_putUnitsOn_84 rfl (lv_at hl 4 rfl) ?_
                  refine lv_aload_n hx hb dX0_putUnitsOn_85 rfl (lv_at hl 1 rfl) ?_
                  refine k_get S hK hW1.1 rfl (fun _ h => List.mem_cons_of_mem _ (List.mem_append_left _ (List.mem_append_left _ (List.mem_append_right _ (h))))) 0 (by decide) (List.mem_cons_of_mem _ (List.mem_append_left _ (List.mem_append_left _ (List.mem_append_left _ (List.mem_append_left _ (List.mem_of_getElem? (i := 1) rfl)))))) rfl (v := .ref (bb + 1)) rfl dX0_putUnitsOn_86 ?_
                  refine lv_iload hx hb dX0_putUnitsOn_89 (lv_at hl 5 rfl) ?_
                  refine k_iald hx hb hK hW1.2 (by omega) (by decide) (v := f i) rfl dX0_putUnitsOn_91 ?_
                  refine k_S (As := [.int (nI sN), .int (f i)]) (rest := []) S hK (c_X0_stateBehind l E sN (f i) (by omega)) gX0_putUnitsOn_X0_stateBehind rfl hd_X0_stateBehind ⟨rfl, rfl⟩ ⟨Nat.le_of_ble_eq_true rfl, Nat.le_of_ble_eq_true rfl⟩ trivial rfl hl.1 rfl (Nat.le_of_ble_eq_true rfl) dX0_putUnitsOn_92 ⟨Nat.le_of_ble_eq_true rfl, Nat.le_of_ble_eq_true rfl⟩ ?_
                  refine lv_istore_n (lv' := [(3, .int (oI (nx sN (f i)))), (5, .int ((f i) - (nI 48))), (0, .ref bb), (1, .ref d), (2, .int (pu f z i).2), (4, .int (nI i))]) hx hb dX0_putUnitsOn_95 rfl hl (by decide) rfl (fun ls hl => ?_)
                  refine lv_iinc (v := nI (i + 1)) (lv' := [(4, .int (nI (i + 1))), (3, .int (oI (nx sN (f i)))), (5, .int ((f i) - (nI 48))), (0, .ref bb), (1, .ref d), (2, .int (pu f z i).2)]) hx hb dX0_putUnitsOn_96 hl (k := 5) rfl (inc_1 _) (by decide) rfl (fun ls hl => ?_)
                  refine lv_goto (tgt := 7) hx hb dX0_putUnitsOn_99 (by decide) ?_
                  have hl : lv_has ls 6 [(0, .ref bb), (1, .ref d), (2, .int (pu f z (i + 1)).2), (3, .int (nI t9)), (4, .int (nI (i + 1)))] := by
                    have h9 := lv_sub (l' := [(0, .ref bb), (1, .ref d), (2, .int (pu f z i).2), (3, .int (oI (nx sN (f i)))), (4, .int (nI (i + 1)))]) hl [3, 4, 5, 1, 0] rfl
                    rw [show (.int (pu f z (i + 1)).2 : Value) = .int (pu f z i).2 from congrArg Value.int (by rw [pu_l hs, puS_o (by omega) (by omega) (by omega)])]
                    rw [show (.int (nI t9) : Value) = .int (oI (nx sN (f i))) from congrArg Value.int (by rw [hx9]; rfl)]
                    exact h9
                  exact ih (i + 1) t9 (by omega) ht9 (by omega) _ _ (show dz E d (pu f z (i + 1)).1 _ from (by rw [pu_l hs, puS_o (by omega) (by omega) (by omega)]; exact hW0)) hW1 hS _ hl
                · obtain ⟨t5, rfl⟩ : ∃ t5, sN = t5 + 5 := ⟨sN - 5, by omega⟩
                  have hl : lv_has ls 6 [(5, .int ((f i) - (nI 48))), (0, .ref bb), (1, .ref d), (2, .int (pu f z i).2), (3, .int (nI (t5 + 5))), (4, .int (nI i))] := hl
                  obtain ⟨t9, ht9⟩ := au_pre hG (m := i + 1) (by omega)
                  have hx9 := au_nx hs ht9
                  have hT9 := (hJ.2.2 _ hs).2 (by omega)
                  refine lv_aload_n hx hb dX0_putUnitsOn_75 rfl (lv_at hl 2 rfl) ?_
                  refine lv_iload_n hx hb dX0_putUnitsOn_76 rfl (lv_at hl 4 rfl) ?_
                  refine lv_iconst (v := nI 5) hx hb dX0_putUnitsOn_77 (by decide) ?_
                  refine n_isub (n := t5) hx hb dX0_putUnitsOn_78 (by omega) ?_
                  refine lv_iload hx hb dX0_putUnitsOn_79 (lv_at hl 0 rfl) ?_
                  refine k_VM (As := [.int (nI t5), .int ((f i) - (nI 48))]) (rest := []) S hK (c_X1_scoreLastUnit l E d (pu f z i).1 (cn (pu f z i).1 - 1) t5 ((f i) - (nI 48)) hJ.1 (by omega) (by omega)) gX0_putUnitsOn_X1_scoreLastUnit rfl hd_X1_scoreLastUnit ⟨rfl, rfl⟩ ⟨Nat.le_of_ble_eq_true rfl, Nat.le_of_ble_eq_true rfl⟩ (k_recv hK (dz_d hW0) rfl) hW0 rfl hl.1 rfl (Nat.le_of_ble_eq_true rfl) dX0_putUnitsOn_81 ⟨Nat.le_of_ble_eq_true rfl, Nat.le_of_ble_eq_true rfl⟩ hS (fun q h => h) (fun q h => h) (fun H locs hQ zH fH hS => ?_)
                  have hP := hQ
                  have hk0 := bo_fr2 hW1 (fun q hz hq => fH q hz (bl_ne hq (by omega)))
                  refine lv_iload_n hx hb dX0_putUnitsOn_84 rfl (lv_at hl 4 rfl) ?_
                  refine lv_aload_n hx hb dX0_putUnitsOn_85 rfl (lv_at hl 1 rfl) ?_
                  refine k_get S hK hk0.1 rfl (fun _ h => List.mem_cons_of_mem _ (List.mem_append_left _ (List.mem_append_left _ (List.mem_append_right _ (h))))) 0 (by decide) (List.mem_cons_of_mem _ (List.mem_append_left _ (List.mem_append_left _ (List.mem_append_left _ (List.mem_append_left _ (List.mem_of_getElem? (i := 1) rfl)))))) rfl (v := .ref (bb + 1)) rfl dX0_putUnitsOn_86 ?_
                  refine lv_iload hx hb dX0_putUnitsOn_89 (lv_at hl 5 rfl) ?_
                  refine k_iald hx hb hK hk0.2 (by omega) (by decide) (v := f i) rfl dX0_putUnitsOn_91 ?_
                  refine k_S (As := [.int (nI (t5 + 5)), .int (f i)]) (rest := []) S hK (c_X0_stateBehind l E (t5 + 5) (f i) (by omega)) gX0_putUnitsOn_X0_stateBehind rfl hd_X0_stateBehind ⟨rfl, rfl⟩ ⟨Nat.le_of_ble_eq_true rfl, Nat.le_of_ble_eq_true rfl⟩ trivial rfl hl.1 rfl (Nat.le_of_ble_eq_true rfl) dX0_putUnitsOn_92 ⟨Nat.le_of_ble_eq_true rfl, Nat.le_of_ble_eq_true rfl⟩ ?_
                  refine lv_istore_n (lv' := [(3, .int (oI (nx (t5 + 5) (f i)))), (5, .int ((f i) - (nI 48))), (0, .ref bb), (1, .ref d), (2, .int (pu f z i).2), (4, .int (nI i))]) hx hb dX0_putUnitsOn_95 rfl hl (by decide) rfl (fun ls hl => ?_)
                  refine lv_iinc (v := nI (i + 1)) (lv' := [(4, .int (nI (i + 1))), (3, .int (oI (nx (t5 + 5) (f i)))), (5, .int ((f i) - (nI 48))), (0, .ref bb), (1, .ref d), (2, .int (pu f z i).2)]) hx hb dX0_putUnitsOn_96 hl (k := 5) rfl (inc_1 _) (by decide) rfl (fun ls hl => ?_)
                  refine lv_goto (tgt := 7) hx hb dX0_putUnitsOn_99 (by decide) ?_
                  have hl : lv_has ls 6 [(0, .ref bb), (1, .ref d), (2, .int (pu f z (i + 1)).2), (3, .int (nI t9)), (4, .int (nI (i + 1)))] := by
                    have h9 := lv_sub (l' := [(0, .ref bb), (1, .ref d), (2, .int (pu f z i).2), (3, .int (oI (nx (t5 + 5) (f i)))), (4, .int (nI (i + 1)))]) hl [3, 4, 5, 1, 0] rfl
                    rw [show (.int (pu f z (i + 1)).2 : Value) = .int (pu f z i).2 from congrArg Value.int (by rw [pu_l hs, puS_sc (by omega)])]
                    rw [show (.int (nI t9) : Value) = .int (oI (nx (t5 + 5) (f i))) from congrArg Value.int (by rw [hx9]; rfl)]
                    exact h9
                  exact ih (i + 1) t9 (by omega) ht9 (by omega) _ _ (show dz E d (pu f z (i + 1)).1 _ from (by rw [pu_l hs, puS_sc (by omega)]; exact hP)) hk0 hS _ hl
            · subst c51
              have hl : lv_has ls 6 [(5, .int ((f i) - (nI 48))), (0, .ref bb), (1, .ref d), (2, .int (pu f z i).2), (3, .int (nI 3)), (4, .int (nI i))] := hl
              obtain ⟨t9, ht9⟩ := au_pre hG (m := i + 1) (by omega)
              have hx9 := au_nx hs ht9
              obtain ⟨q9, hq9, hq8⟩ := (hJ.2.2 _ hs).1 (Or.inr rfl)
              obtain ⟨hd4, _⟩ := nx_3 hx9
              obtain ⟨r9, hr9, hr8⟩ := dg_nI (h := 3) (by decide) hd4
              have hm9 := tC_mono (b := f) (i := i + 1) (n - (i + 1))
              rw [show i + 1 + (n - (i + 1)) = n by omega, tC_l hs] at hm9
              have hm8 : tS (.inl 3) = 1 := rfl
              refine lv_aload_n hx hb dX0_putUnitsOn_54 rfl (lv_at hl 2 rfl) ?_
              refine lv_iload_n hx hb dX0_putUnitsOn_55 rfl (lv_at hl 3 rfl) ?_
              refine lv_iload hx hb dX0_putUnitsOn_56 (lv_at hl 0 rfl) ?_
              refine k_top (y := nI r9) (hr8) ?_
              refine k_top2 (y := nI q9) (hq8) ?_
              refine k_VM (As := [.int (nI q9), .int (nI r9)]) (rest := []) S hK (c_X1_addUnit l E d (pu f z i).1 q9 r9 hJ.1 (by omega)) gX0_putUnitsOn_X1_addUnit rfl hd_X1_addUnit ⟨rfl, rfl⟩ ⟨Nat.le_of_ble_eq_true rfl, Nat.le_of_ble_eq_true rfl⟩ (k_recv hK (dz_d hW0) rfl) hW0 rfl hl.1 rfl (Nat.le_of_ble_eq_true rfl) dX0_putUnitsOn_58 ⟨Nat.le_of_ble_eq_true rfl, Nat.le_of_ble_eq_true rfl⟩ hS (fun q h => h) (fun q h => h) (fun H locs hQ zH fH hS => ?_)
              have hP := hQ
              have hk0 := bo_fr2 hW1 (fun q hz hq => fH q hz (bl_ne hq (by omega)))
              refine lv_goto (tgt := 84) hx hb dX0_putUnitsOn_61 (by decide) ?_
              refine lv_iload_n hx hb dX0_putUnitsOn_84 rfl (lv_at hl 4 rfl) ?_
              refine lv_aload_n hx hb dX0_putUnitsOn_85 rfl (lv_at hl 1 rfl) ?_
              refine k_get S hK hk0.1 rfl (fun _ h => List.mem_cons_of_mem _ (List.mem_append_left _ (List.mem_append_left _ (List.mem_append_right _ (h))))) 0 (by decide) (List.mem_cons_of_mem _ (List.mem_append_left _ (List.mem_append_left _ (List.mem_append_left _ (List.mem_append_left _ (List.mem_of_getElem? (i := 1) rfl)))))) rfl (v := .ref (bb + 1)) rfl dX0_putUnitsOn_86 ?_
              refine lv_iload hx hb dX0_putUnitsOn_89 (lv_at hl 5 rfl) ?_
              refine k_iald hx hb hK hk0.2 (by omega) (by decide) (v := f i) rfl dX0_putUnitsOn_91 ?_
              refine k_S (As := [.int (nI 3), .int (f i)]) (rest := []) S hK (c_X0_stateBehind l E 3 (f i) (by omega)) gX0_putUnitsOn_X0_stateBehind rfl hd_X0_stateBehind ⟨rfl, rfl⟩ ⟨Nat.le_of_ble_eq_true rfl, Nat.le_of_ble_eq_true rfl⟩ trivial rfl hl.1 rfl (Nat.le_of_ble_eq_true rfl) dX0_putUnitsOn_92 ⟨Nat.le_of_ble_eq_true rfl, Nat.le_of_ble_eq_true rfl⟩ ?_
              refine lv_istore_n (lv' := [(3, .int (oI (nx 3 (f i)))), (5, .int ((f i) - (nI 48))), (0, .ref bb), (1, .ref d), (2, .int (pu f z i).2), (4, .int (nI i))]) hx hb dX0_putUnitsOn_95 rfl hl (by decide) rfl (fun ls hl => ?_)
              refine lv_iinc (v := nI (i + 1)) (lv' := [(4, .int (nI (i + 1))), (3, .int (oI (nx 3 (f i)))), (5, .int ((f i) - (nI 48))), (0, .ref bb), (1, .ref d), (2, .int (pu f z i).2)]) hx hb dX0_putUnitsOn_96 hl (k := 5) rfl (inc_1 _) (by decide) rfl (fun ls hl => ?_)
              refine lv_goto (tgt := 7) hx hb dX0_putUnitsOn_99 (by decide) ?_
              have hl : lv_has ls 6 [(0, .ref bb), (1, .ref d), (2, .int (pu f z (i + 1)).2), (3, .int (nI t9)), (4, .int (nI (i + 1)))] := by
                have h9 := lv_sub (l' := [(0, .ref bb), (1, .ref d), (2, .int (pu f z i).2), (3, .int (oI (nx 3 (f i)))), (4, .int (nI (i + 1)))]) hl [3, 4, 5, 1, 0] rfl
                rw [show (.int (pu f z (i + 1)).2 : Value) = .int (pu f z i).2 from congrArg Value.int (by rw [pu_l hs]; rfl)]
                rw [show (.int (nI t9) : Value) = .int (oI (nx 3 (f i))) from congrArg Value.int (by rw [hx9]; rfl)]
                exact h9
              exact ih (i + 1) t9 (by omega) ht9 (by omega) _ _ (show dz E d (pu f z (i + 1)).1 _ from (by rw [pu_l hs]; show dz E d (rcv (pu f z i).1 (pu f z i).2.toNatClampNeg (f i - nI 48).toNatClampNeg) _; rw [hq8, hr8, nI_clamp (by omega), nI_clamp (by omega)]; exact hP)) hk0 hS _ hl
          · subst c40
            have hl : lv_has ls 6 [(5, .int ((f i) - (nI 48))), (0, .ref bb), (1, .ref d), (2, .int (pu f z i).2), (3, .int (nI 1)), (4, .int (nI i))] := hl
            obtain ⟨t9, ht9⟩ := au_pre hG (m := i + 1) (by omega)
            have hx9 := au_nx hs ht9
            refine lv_iload hx hb dX0_putUnitsOn_43 (lv_at hl 0 rfl) ?_
            refine lv_istore_n (lv' := [(2, .int ((f i) - (nI 48))), (5, .int ((f i) - (nI 48))), (0, .ref bb), (1, .ref d), (3, .int (nI 1)), (4, .int (nI i))]) hx hb dX0_putUnitsOn_45 rfl hl (by decide) rfl (fun ls hl => ?_)
            refine lv_goto (tgt := 84) hx hb dX0_putUnitsOn_46 (by decide) ?_
            refine lv_iload_n hx hb dX0_putUnitsOn_84 rfl (lv_at hl 4 rfl) ?_
            refine lv_aload_n hx hb dX0_putUnitsOn_85 rfl (lv_at hl 2 rfl) ?_
            refine k_get S hK hW1.1 rfl (fun _ h => List.mem_cons_of_mem _ (List.mem_append_left _ (List.mem_append_left _ (List.mem_append_right _ (h))))) 0 (by decide) (List.mem_cons_of_mem _ (List.mem_append_left _ (List.mem_append_left _ (List.mem_append_left _ (List.mem_append_left _ (List.mem_of_getElem? (i := 1) rfl)))))) rfl (v := .ref (bb + 1)) rfl dX0_putUnitsOn_86 ?_
            refine lv_iload hx hb dX0_putUnitsOn_89 (lv_at hl 5 rfl) ?_
            refine k_iald hx hb hK hW1.2 (by omega) (by decide) (v := f i) rfl dX0_putUnitsOn_91 ?_
            refine k_S (As := [.int (nI 1), .int (f i)]) (rest := []) S hK (c_X0_stateBehind l E 1 (f i) (by omega)) gX0_putUnitsOn_X0_stateBehind rfl hd_X0_stateBehind ⟨rfl, rfl⟩ ⟨Nat.le_of_ble_eq_true rfl, Nat.le_of_ble_eq_true rfl⟩ trivial rfl hl.1 rfl (Nat.le_of_ble_eq_true rfl) dX0_putUnitsOn_92 ⟨Nat.le_of_ble_eq_true rfl, Nat.le_of_ble_eq_true rfl⟩ ?_
            refine lv_istore_n (lv' := [(3, .int (oI (nx 1 (f i)))), (2, .int ((f i) - (nI 48))), (5, .int ((f i) - (nI 48))), (0, .ref bb), (1, .ref d), (4, .int (nI i))]) hx hb dX0_putUnitsOn_95 rfl hl (by decide) rfl (fun ls hl => ?_)
            refine lv_iinc (v := nI (i + 1)) (lv' := [(4, .int (nI (i + 1))), (3, .int (oI (nx 1 (f i)))), (2, .int ((f i) - (nI 48))), (5, .int ((f i) - (nI 48))), (0, .ref bb), (1, .ref d)]) hx hb dX0_putUnitsOn_96 hl (k := 5) rfl (inc_1 _) (by decide) rfl (fun ls hl => ?_)
            refine lv_goto (tgt := 7) hx hb dX0_putUnitsOn_99 (by decide) ?_
            have hl : lv_has ls 6 [(0, .ref bb), (1, .ref d), (2, .int (pu f z (i + 1)).2), (3, .int (nI t9)), (4, .int (nI (i + 1)))] := by
              have h9 := lv_sub (l' := [(0, .ref bb), (1, .ref d), (2, .int ((f i) - (nI 48))), (3, .int (oI (nx 1 (f i)))), (4, .int (nI (i + 1)))]) hl [4, 5, 2, 1, 0] rfl
              rw [show (.int (pu f z (i + 1)).2 : Value) = .int ((f i) - (nI 48)) from congrArg Value.int (by rw [pu_l hs]; rfl)]
              rw [show (.int (nI t9) : Value) = .int (oI (nx 1 (f i))) from congrArg Value.int (by rw [hx9]; rfl)]
              exact h9
            exact ih (i + 1) t9 (by omega) ht9 (by omega) _ _ (show dz E d (pu f z (i + 1)).1 _ from (by rw [pu_l hs]; exact hW0)) hW1 hS _ hl
  refine lv_iconst (v := nI 0) hx hb dX0_putUnitsOn_0 (by decide) ?_
  refine lv_istore_n (lv' := [(2, .int (nI 0)), (0, .ref bb), (1, .ref d)]) hx hb dX0_putUnitsOn_1 rfl hl (by decide) rfl (fun ls hl => ?_)
  refine lv_iconst (v := nI 0) hx hb dX0_putUnitsOn_2 (by decide) ?_
  refine lv_istore_n (lv' := [(3, .int (nI 0)), (2, .int (nI 0)), (0, .ref bb), (1, .ref d)]) hx hb dX0_putUnitsOn_3 rfl hl (by decide) rfl (fun ls hl => ?_)
  refine lv_iconst (v := nI 0) hx hb dX0_putUnitsOn_4 (by decide) ?_
  refine lv_istore (lv' := [(4, .int (nI 0)), (3, .int (nI 0)), (2, .int (nI 0)), (0, .ref bb), (1, .ref d)]) hx hb dX0_putUnitsOn_5 hl (by decide) rfl (fun ls hl => ?_)
  have hl : lv_has ls 6 [(0, .ref bb), (1, .ref d), (2, .int (pu f z 0).2), (3, .int (nI 0)), (4, .int (nI 0))] := by
    have h9 := lv_sub (l' := [(0, .ref bb), (1, .ref d), (2, .int (nI 0)), (3, .int (nI 0)), (4, .int (nI 0))]) hl [3, 4, 2, 1, 0] rfl
    rw [show (.int (pu f z 0).2 : Value) = .int (nI 0) from congrArg Value.int (rfl)]
    exact h9
  exact J7 (n + 1) 0 0 (by omega) rfl (by omega) _ _ (show dz E d (pu f z 0).1 _ from hP1) hP0 hS _ hl
