/-! ===== what the constructors make ===== -/
theorem k_cs {p : Program} {l : Launch} {e : Env} {R : Room} {s : State} {m : MethodId} {args : Array Value} {below : List Frame} {meth : Method} {c : Code} {H : Heap} {locs : List Loc} {cells slots cells' slots' : Nat} {Q : State → Prop} {F : JFrame} (h1 : cells = cells') (h2 : slots = slots') (k : W p l e R s m args below meth c H locs cells' slots' Q F) : W p l e R s m args below meth c H locs cells slots Q F := by subst h1; subst h2; exact k
def rfk (f : Nat → Nat) (k : Nat) : Nat → Option Nat := fun i => if i < k then some (f i) else none
theorem rfk_0 {f : Nat → Nat} : (fun _ => none) = rfk f 0 := by
  funext i
  exact (if_neg (by omega)).symm
theorem rfk_s {f : Nat → Nat} {k : Nat} : va_up (rfk f k) k (some (f k)) = rfk f (k + 1) := by
  funext i
  unfold va_up rfk
  by_cases e : i = k
  · subst e; simp
  · by_cases h : i < k
    · simp [e, h, show i < k + 1 by omega]
    · simp [e, h, show ¬ i < k + 1 by omega]
theorem va_rfs {D : va_G} {cl : List vw_C} {a n : Nat} {cA : ClassId} {f : Nat → Nat} {H : Heap} (h : va_at D cl (a, .inl (cA, n, .inr (.inr (.inr (.inr (rfk f n)))))) H) : va_at D cl (a, .inl (cA, rfs n f)) H := by
  show H[a]? = _
  refine h.trans (congrArg some ?_)
  rw [vp_cell_q, vp_cell_q]
  unfold arrV
  congr 1
  apply Array.ext
  · simp
  · intro i h1 h2
    have hi : i < n := by simpa using h1
    simp [rfk, hi]
theorem fam_s {P : Nat → Prop} {k : Nat} (h : ∀ i, i < k → P i) (hk : P k) : ∀ i, i < k + 1 → P i := fun i hi => if e : i < k then h i e else (show i = k by omega) ▸ hk
def zI : Nat → Int32 := fun j => if j = 7 then nI 30 else if j = 8 then nI 20 else if j = 9 then nI 10 else if j = 10 then nI 2 else if j = 11 then nI 3 else if 12 ≤ j ∧ j < 30 ∧ j % 3 = 0 then nI 100 else if 30 ≤ j ∧ j < 62 ∧ (j - 30) % 8 = 0 then nI 1000 else if 30 ≤ j ∧ j < 62 ∧ 4 ≤ (j - 30) % 8 then nI 50 else 0
def zU : Nat → Int32 := fun j => if j < 62 then zI j else if 2 ≤ (j - 62) % 13 ∧ (j - 62) % 13 ≤ 5 then -1 else 0
theorem dfX0 : ∀ j, j < 4 → defaultValue (tyX0 j) = vp_V [.null, .int 0, .int 0, .int 0] j := fun j h => match j, h with
  | 0, _ => rfl
  | 1, _ => rfl
  | 2, _ => rfl
  | 3, _ => rfl
  | (n + 4), h => absurd h (by omega)
theorem dfX1 : ∀ j, j < 7 → defaultValue (tyX1 j) = vp_V [.null, .null, .null, .null, .int 0, .int 0, .int 0] j := fun j h => match j, h with
  | 0, _ => rfl
  | 1, _ => rfl
  | 2, _ => rfl
  | 3, _ => rfl
  | 4, _ => rfl
  | 5, _ => rfl
  | 6, _ => rfl
  | (n + 7), h => absurd h (by omega)
theorem dfX2 : ∀ j, j < 2 → defaultValue (tyX2 j) = vp_V [.null, .int 0] j := fun j h => match j, h with
  | 0, _ => rfl
  | 1, _ => rfl
  | (n + 2), h => absurd h (by omega)
theorem dfX3 : ∀ j, j < 3 → defaultValue (tyX3 j) = vp_V [.int 0, .int 0, .int 0] j := fun j h => match j, h with
  | 0, _ => rfl
  | 1, _ => rfl
  | 2, _ => rfl
  | (n + 3), h => absurd h (by omega)
theorem dfX4 : ∀ j, j < 10 → defaultValue (tyX4 j) = vp_V [.null, .int 0, .int 0, .int 0, .int 0, .int 0, .int 0, .int 0, .int 0, .int 0] j := fun j h => match j, h with
  | 0, _ => rfl
  | 1, _ => rfl
  | 2, _ => rfl
  | 3, _ => rfl
  | 4, _ => rfl
  | 5, _ => rfl
  | 6, _ => rfl
  | 7, _ => rfl
  | 8, _ => rfl
  | 9, _ => rfl
  | (n + 10), h => absurd h (by omega)
theorem dfX5 : ∀ j, j < 5 → defaultValue (tyX5 j) = vp_V [.null, .int 0, .int 0, .int 0, .int 0] j := fun j h => match j, h with
  | 0, _ => rfl
  | 1, _ => rfl
  | 2, _ => rfl
  | 3, _ => rfl
  | 4, _ => rfl
  | (n + 5), h => absurd h (by omega)
theorem dfX6 : ∀ j, j < 4 → defaultValue (tyX6 j) = vp_V [.null, .null, .null, .null] j := fun j h => match j, h with
  | 0, _ => rfl
  | 1, _ => rfl
  | 2, _ => rfl
  | 3, _ => rfl
  | (n + 4), h => absurd h (by omega)
theorem dfX7 : ∀ j, j < 11 → defaultValue (tyX7 j) = vp_V [.null, .null, .null, .int 0, .null, .int 0, .int 0, .int 0, .int 0, .null, .long 0] j := fun j h => match j, h with
  | 0, _ => rfl
  | 1, _ => rfl
  | 2, _ => rfl
  | 3, _ => rfl
  | 4, _ => rfl
  | 5, _ => rfl
  | 6, _ => rfl
  | 7, _ => rfl
  | 8, _ => rfl
  | 9, _ => rfl
  | 10, _ => rfl
  | (n + 11), h => absurd h (by omega)
def n0 (E : ke_E) (b : Nat) (H : Heap) : Prop := H.size = b + 1 ∧ va_at E.1 vwCl (b, .inr (0, [.null, .int 0, .int 0, .int 0])) H
def n1 (E : ke_E) (d : Nat) (H : Heap) : Prop := H.size = d + 1 ∧ va_at E.1 vwCl (d, .inr (1, [.null, .null, .null, .null, .int 0, .int 0, .int 0])) H
def n2 (E : ke_E) (h : Nat) (H : Heap) : Prop := H.size = h + 1 ∧ va_at E.1 vwCl (h, .inr (2, [.null, .int 0])) H
def n3 (E : ke_E) (a : Nat) (H : Heap) : Prop := H.size = a + 1 ∧ va_at E.1 vwCl (a, .inr (3, [.int 0, .int 0, .int 0])) H
def n4 (E : ke_E) (a : Nat) (H : Heap) : Prop := H.size = a + 1 ∧ va_at E.1 vwCl (a, .inr (4, [.null, .int 0, .int 0, .int 0, .int 0, .int 0, .int 0, .int 0, .int 0, .int 0])) H
def n5 (E : ke_E) (a : Nat) (H : Heap) : Prop := H.size = a + 1 ∧ va_at E.1 vwCl (a, .inr (5, [.null, .int 0, .int 0, .int 0, .int 0])) H
def n6 (E : ke_E) (o : Nat) (H : Heap) : Prop := H.size = o + 1 ∧ va_at E.1 vwCl (o, .inr (6, [.null, .null, .null, .null])) H
def n7 (E : ke_E) (o : Nat) (H : Heap) : Prop := H.size = o + 1 ∧ va_at E.1 vwCl (o, .inr (7, [.null, .null, .null, .int 0, .null, .int 0, .int 0, .int 0, .int 0, .null, .long 0])) H
def b3 (E : ke_E) (a : Nat) (H : Heap) : Prop := H.size = a + 1 ∧ va_at E.1 vwCl (a, .inr (3, [.int (nI 100), .int 0, .int 0])) H
def b5 (E : ke_E) (a : Nat) (H : Heap) : Prop := H.size = a + 2 ∧ va_at E.1 vwCl (a, .inr (5, [.ref (a + 1), .int (nI 1000), .int 0, .int 0, .int 0])) H ∧ va_at E.1 vwCl (a + 1, .inl (E.2 0, 4, .inl (upd (upd (upd (upd (fun _ => 0) 0 (nI 50)) 1 (nI 50)) 2 (nI 50)) 3 (nI 50)))) H
def b4 (E : ke_E) (a : Nat) (H : Heap) : Prop := H.size = a + 2 ∧ va_at E.1 vwCl (a, .inr (4, [.ref (a + 1), .int 0, .int 0, .int 0, .int 0, .int 0, .int 0, .int 0, .int 0, .int 0])) H ∧ va_at E.1 vwCl (a + 1, .inl (E.2 0, 4, .inl (upd (upd (upd (upd (fun _ => 0) 0 (-1)) 1 (-1)) 2 (-1)) 3 (-1)))) H
def b1 (E : ke_E) (d : Nat) (H : Heap) : Prop := H.size = d + 59 ∧ dp E d zU H
def b2 (E : ke_E) (h : Nat) (H : Heap) : Prop := H.size = h + 356 ∧ va_at E.1 vwCl (h, .inr (2, [.ref (h + 1), .int 0])) H ∧ va_at E.1 vwCl (h + 1, .inl (E.2 4, rfs 6 (fun k => h + 59*k + 2))) H ∧ ∀ k, k < 6 → dp E (h + 59*k + 2) zU H
def b0 (E : ke_E) (b : Nat) (H : Heap) : Prop := H.size = b + 2 ∧ va_at E.1 vwCl (b, .inr (0, [.ref (b + 1), .int 0, .int (-1), .int (nI 0)])) H ∧ va_at E.1 vwCl (b + 1, .inl (E.2 0, 60, .inl (fun _ => 0))) H
def b6 (E : ke_E) (o : Nat) (H : Heap) : Prop := H.size = o + 477 ∧ va_at E.1 vwCl (o, .inr (6, [.ref (o + 1), .ref (o + 60), .ref (o + 119), .ref (o + 475)])) H ∧ dp E (o + 1) zU H ∧ dp E (o + 60) zU H ∧ va_at E.1 vwCl (o + 119, .inr (2, [.ref (o + 120), .int 0])) H ∧ va_at E.1 vwCl (o + 120, .inl (E.2 4, rfs 6 (fun k => o + 119 + 59*k + 2))) H ∧ (∀ k, k < 6 → dp E (o + 119 + 59*k + 2) zU H) ∧ va_at E.1 vwCl (o + 475, .inr (0, [.ref (o + 476), .int 0, .int (-1), .int (nI 0)])) H ∧ va_at E.1 vwCl (o + 476, .inl (E.2 0, 60, .inl (fun _ => 0))) H
def rm_X3_init : Room := { frames := 1, cells := 0, slots := 0, locals := 12 }
theorem hd_X3_init : k_hd1 yX3_init RX3 0 := by decide +kernel
set_option maxHeartbeats 4000000 in
set_option maxRecDepth 100000 in
theorem c_X3_init (l : Launch) (E : ke_E) (a : Nat) : Met l yX3_init wsX3_init rm_X3_init (kp E [.ref a] ((n3 E a))) (qm none (bl a 1) ((b3 E a))) 0 0 (bl a 1) := by
  refine k_hd (cc := cX3_init) (maxL := 1) (ret := none) (by decide) rfl (Nat.le_of_ble_eq_true rfl) ?_
  intro p e s m below meth c ls S hr hlk hnm hK hP hl
  have hx := S.1
  have hb := S.2.1
  have hts := S.2.2.2.2
  have hin0 : meth.name = "<init>" := hnm
  obtain ⟨hz, a0⟩ := hP
  have hl : lv_has ls 1 [(0, .ref a)] := hl
  have hS : va_S (bl a 1) s.heap s.heap [] := va_S.rf
  refine lv_aload_n hx hb dX3_init_0 rfl (lv_at hl 0 rfl) ?_
  refine k_oi S (List.mem_cons_of_mem _ (List.mem_append_left _ (List.mem_of_getElem? (i := 0) rfl))) (List.mem_cons_of_mem _ (List.mem_append_left _ (List.mem_of_getElem? (i := 1) rfl))) (List.mem_cons_of_mem _ (List.mem_append_left _ (List.mem_of_getElem? (i := 2) rfl))) hl.1 dX3_init_1 (Nat.le_of_ble_eq_true rfl) (Nat.le_of_ble_eq_true rfl) ?_
  refine lv_aload_n hx hb dX3_init_4 rfl (lv_at hl 0 rfl) ?_
  refine lv_bipush (v := nI 100) hx hb dX3_init_5 (by decide) ?_
  refine k_put S hK a0 rfl (fun _ h => List.mem_cons_of_mem _ (List.mem_append_right _ (h))) tyX3_ok nmX3 0 (by decide) (List.mem_cons_of_mem _ (List.mem_append_left _ (List.mem_of_getElem? (i := 3) rfl))) rfl rfl rfl rfl (by simp) hS (by constructor <;> omega) dX3_init_7 (fun H locs a1 zH hF hS => ?_)
  have a1 : va_at E.1 vwCl (a, .inr (3, [.int (nI 100), .int 0, .int 0])) H := a1
  have hz : H.size = a + 1 := by omega
  exact k_cs (cells' := 0) (slots' := 0) (by omega) (by omega) (k_vretM hx hb hr hlk dX3_init_10 hS (show (b3 E a) H from ⟨hz, a1⟩))
def rm_X5_init : Room := { frames := 1, cells := 1, slots := 4, locals := 12 }
theorem hd_X5_init : k_hd1 yX5_init RX5 0 := by decide +kernel
set_option maxHeartbeats 4000000 in
set_option maxRecDepth 100000 in
theorem c_X5_init (l : Launch) (E : ke_E) (a : Nat) : Met l yX5_init wsX5_init rm_X5_init (kp E [.ref a] ((n5 E a))) (qm none (bl a 2) ((b5 E a))) 1 4 (bl a 2) := by
  refine k_hd (cc := cX5_init) (maxL := 1) (ret := none) (by decide) rfl (Nat.le_of_ble_eq_true rfl) ?_
  intro p e s m below meth c ls S hr hlk hnm hK hP hl
  have hx := S.1
  have hb := S.2.1
  have hts := S.2.2.2.2
  have hin0 : meth.name = "<init>" := hnm
  obtain ⟨hz, a0⟩ := hP
  have hl : lv_has ls 1 [(0, .ref a)] := hl
  have hS : va_S (bl a 2) s.heap s.heap [] := va_S.rf
  refine lv_aload_n hx hb dX5_init_0 rfl (lv_at hl 0 rfl) ?_
  refine k_oi S (List.mem_cons_of_mem _ (List.mem_append_left _ (List.mem_of_getElem? (i := 0) rfl))) (List.mem_cons_of_mem _ (List.mem_append_left _ (List.mem_of_getElem? (i := 1) rfl))) (List.mem_cons_of_mem _ (List.mem_append_left _ (List.mem_of_getElem? (i := 2) rfl))) hl.1 dX5_init_1 (Nat.le_of_ble_eq_true rfl) (Nat.le_of_ble_eq_true rfl) ?_
  refine lv_aload_n hx hb dX5_init_4 rfl (lv_at hl 0 rfl) ?_
  refine lv_iconst (v := nI 4) hx hb dX5_init_5 (by decide) ?_
  refine k_newa (n := 4) (q := a + 1) hx hb (hts _ (List.mem_cons_of_mem _ (List.mem_append_left _ (List.mem_of_getElem? (i := 3) rfl)))) hK hS (by omega) (by show _ ≤ 1; omega) (by show _ ≤ 4; omega) hz dX5_init_6 (fun H a1 hz hF hS => ?_)
  have a0 := a0.kept (hF _ (by omega))
  have hz : H.size = a + 2 := by omega
  refine lv_dup hx hb dX5_init_8 rfl ?_
  refine lv_iconst (v := nI 0) hx hb dX5_init_9 (by decide) ?_
  refine lv_bipush (v := nI 50) hx hb dX5_init_10 (by decide) ?_
  refine k_iast hx hb hK a1 (i := 0) (by omega) (by decide) hS (by constructor <;> omega) dX5_init_12 (fun H locs a2 zH hF hS => ?_)
  have a0 := a0.kept (hF _ (by omega))
  have hz : H.size = a + 2 := by omega
  refine lv_dup hx hb dX5_init_13 rfl ?_
  refine lv_iconst (v := nI 1) hx hb dX5_init_14 (by decide) ?_
  refine lv_bipush (v := nI 50) hx hb dX5_init_15 (by decide) ?_
  refine k_iast hx hb hK a2 (i := 1) (by omega) (by decide) hS (by constructor <;> omega) dX5_init_17 (fun H locs a3 zH hF hS => ?_)
  have a0 := a0.kept (hF _ (by omega))
  have hz : H.size = a + 2 := by omega
  refine lv_dup hx hb dX5_init_18 rfl ?_
  refine lv_iconst (v := nI 2) hx hb dX5_init_19 (by decide) ?_
  refine lv_bipush (v := nI 50) hx hb dX5_init_20 (by decide) ?_
  refine k_iast hx hb hK a3 (i := 2) (by omega) (by decide) hS (by constructor <;> omega) dX5_init_22 (fun H locs a4 zH hF hS => ?_)
  have a0 := a0.kept (hF _ (by omega))
  have hz : H.size = a + 2 := by omega
  refine lv_dup hx hb dX5_init_23 rfl ?_
  refine lv_iconst (v := nI 3) hx hb dX5_init_24 (by decide) ?_
  refine lv_bipush (v := nI 50) hx hb dX5_init_25 (by decide) ?_
  refine k_iast hx hb hK a4 (i := 3) (by omega) (by decide) hS (by constructor <;> omega) dX5_init_27 (fun H locs a5 zH hF hS => ?_)
  have a0 := a0.kept (hF _ (by omega))
  have hz : H.size = a + 2 := by omega
  refine k_putF S hK a0 rfl (fun _ h => List.mem_cons_of_mem _ (List.mem_append_right _ (h))) tyX5_ok nmX5 0 (by decide) (List.mem_cons_of_mem _ (List.mem_append_left _ (List.mem_of_getElem? (i := 4) rfl))) rfl rfl rfl hin0 rfl rfl (by simp) hS (by constructor <;> omega) dX5_init_28 (fun H locs a6 zH hF hS => ?_)
  have a6 : va_at E.1 vwCl (a, .inr (5, [.ref (a + 1), .int 0, .int 0, .int 0, .int 0])) H := a6
  have a5 := a5.kept (hF _ (by omega))
  have hz : H.size = a + 2 := by omega
  refine lv_aload_n hx hb dX5_init_31 rfl (lv_at hl 0 rfl) ?_
  refine lv_sipush (v := nI 1000) hx hb dX5_init_32 (by decide) ?_
  refine k_put S hK a6 rfl (fun _ h => List.mem_cons_of_mem _ (List.mem_append_right _ (h))) tyX5_ok nmX5 1 (by decide) (List.mem_cons_of_mem _ (List.mem_append_left _ (List.mem_of_getElem? (i := 5) rfl))) rfl rfl rfl rfl (by simp) hS (by constructor <;> omega) dX5_init_35 (fun H locs a7 zH hF hS => ?_)
  have a7 : va_at E.1 vwCl (a, .inr (5, [.ref (a + 1), .int (nI 1000), .int 0, .int 0, .int 0])) H := a7
  have a5 := a5.kept (hF _ (by omega))
  have hz : H.size = a + 2 := by omega
  exact k_cs (cells' := 1) (slots' := 4) (by omega) (by omega) (k_vretM hx hb hr hlk dX5_init_38 hS (show (b5 E a) H from ⟨hz, a7, a5⟩))
def rm_X4_init : Room := { frames := 1, cells := 1, slots := 4, locals := 12 }
theorem hd_X4_init : k_hd1 yX4_init RX4 0 := by decide +kernel
set_option maxHeartbeats 4000000 in
set_option maxRecDepth 100000 in
theorem c_X4_init (l : Launch) (E : ke_E) (a : Nat) : Met l yX4_init wsX4_init rm_X4_init (kp E [.ref a] ((n4 E a))) (qm none (bl a 2) ((b4 E a))) 1 4 (bl a 2) := by
  refine k_hd (cc := cX4_init) (maxL := 1) (ret := none) (by decide) rfl (Nat.le_of_ble_eq_true rfl) ?_
  intro p e s m below meth c ls S hr hlk hnm hK hP hl
  have hx := S.1
  have hb := S.2.1
  have hts := S.2.2.2.2
  have hin0 : meth.name = "<init>" := hnm
  obtain ⟨hz, a0⟩ := hP
  have hl : lv_has ls 1 [(0, .ref a)] := hl
  have hS : va_S (bl a 2) s.heap s.heap [] := va_S.rf
  refine lv_aload_n hx hb dX4_init_0 rfl (lv_at hl 0 rfl) ?_
  refine k_oi S (List.mem_cons_of_mem _ (List.mem_append_left _ (List.mem_of_getElem? (i := 0) rfl))) (List.mem_cons_of_mem _ (List.mem_append_left _ (List.mem_of_getElem? (i := 1) rfl))) (List.mem_cons_of_mem _ (List.mem_append_left _ (List.mem_of_getElem? (i := 2) rfl))) hl.1 dX4_init_1 (Nat.le_of_ble_eq_true rfl) (Nat.le_of_ble_eq_true rfl) ?_
  refine lv_aload_n hx hb dX4_init_4 rfl (lv_at hl 0 rfl) ?_
  refine lv_iconst (v := nI 4) hx hb dX4_init_5 (by decide) ?_
  refine k_newa (n := 4) (q := a + 1) hx hb (hts _ (List.mem_cons_of_mem _ (List.mem_append_left _ (List.mem_of_getElem? (i := 3) rfl)))) hK hS (by omega) (by show _ ≤ 1; omega) (by show _ ≤ 4; omega) hz dX4_init_6 (fun H a1 hz hF hS => ?_)
  have a0 := a0.kept (hF _ (by omega))
  have hz : H.size = a + 2 := by omega
  refine lv_dup hx hb dX4_init_8 rfl ?_
  refine lv_iconst (v := nI 0) hx hb dX4_init_9 (by decide) ?_
  refine lv_iconst (v := (-1)) hx hb dX4_init_10 (by decide) ?_
  refine k_iast hx hb hK a1 (i := 0) (by omega) (by decide) hS (by constructor <;> omega) dX4_init_11 (fun H locs a2 zH hF hS => ?_)
  have a0 := a0.kept (hF _ (by omega))
  have hz : H.size = a + 2 := by omega
  refine lv_dup hx hb dX4_init_12 rfl ?_
  refine lv_iconst (v := nI 1) hx hb dX4_init_13 (by decide) ?_
  refine lv_iconst (v := (-1)) hx hb dX4_init_14 (by decide) ?_
  refine k_iast hx hb hK a2 (i := 1) (by omega) (by decide) hS (by constructor <;> omega) dX4_init_15 (fun H locs a3 zH hF hS => ?_)
  have a0 := a0.kept (hF _ (by omega))
  have hz : H.size = a + 2 := by omega
  refine lv_dup hx hb dX4_init_16 rfl ?_
  refine lv_iconst (v := nI 2) hx hb dX4_init_17 (by decide) ?_
  refine lv_iconst (v := (-1)) hx hb dX4_init_18 (by decide) ?_
  refine k_iast hx hb hK a3 (i := 2) (by omega) (by decide) hS (by constructor <;> omega) dX4_init_19 (fun H locs a4 zH hF hS => ?_)
  have a0 := a0.kept (hF _ (by omega))
  have hz : H.size = a + 2 := by omega
  refine lv_dup hx hb dX4_init_20 rfl ?_
  refine lv_iconst (v := nI 3) hx hb dX4_init_21 (by decide) ?_
  refine lv_iconst (v := (-1)) hx hb dX4_init_22 (by decide) ?_
  refine k_iast hx hb hK a4 (i := 3) (by omega) (by decide) hS (by constructor <;> omega) dX4_init_23 (fun H locs a5 zH hF hS => ?_)
  have a0 := a0.kept (hF _ (by omega))
  have hz : H.size = a + 2 := by omega
  refine k_putF S hK a0 rfl (fun _ h => List.mem_cons_of_mem _ (List.mem_append_right _ (h))) tyX4_ok nmX4 0 (by decide) (List.mem_cons_of_mem _ (List.mem_append_left _ (List.mem_of_getElem? (i := 4) rfl))) rfl rfl rfl hin0 rfl rfl (by simp) hS (by constructor <;> omega) dX4_init_24 (fun H locs a6 zH hF hS => ?_)
  have a6 : va_at E.1 vwCl (a, .inr (4, [.ref (a + 1), .int 0, .int 0, .int 0, .int 0, .int 0, .int 0, .int 0, .int 0, .int 0])) H := a6
  have a5 := a5.kept (hF _ (by omega))
  have hz : H.size = a + 2 := by omega
  exact k_cs (cells' := 1) (slots' := 4) (by omega) (by omega) (k_vretM hx hb hr hlk dX4_init_27 hS (show (b4 E a) H from ⟨hz, a6, a5⟩))
theorem b1_of {E : ke_E} {d : Nat} {H : Heap} (h0 : va_at E.1 vwCl (d, .inr (1, [.ref (d + 1), .ref (d + 2), .ref (d + 3), .ref (d + 4), .int 0, .int 0, .int 0])) H) (h1 : va_at E.1 vwCl (d + 1, .inl (E.2 1, 6, .inr (.inr (.inr (.inr (rfk (fun i => d + i + 5) 6)))))) H) (h2 : va_at E.1 vwCl (d + 2, .inl (E.2 2, 4, .inr (.inr (.inr (.inr (rfk (fun v => d + 2*v + 11) 4)))))) H) (h3 : va_at E.1 vwCl (d + 3, .inl (E.2 3, 20, .inr (.inr (.inr (.inr (rfk (fun u => d + 2*u + 19) 20)))))) H) (h4 : va_at E.1 vwCl (d + 4, .inl (E.2 0, 5, .inl (upd (upd (upd (upd (upd (fun _ => 0) 0 (nI 30)) 1 (nI 20)) 2 (nI 10)) 3 (nI 2)) 4 (nI 3)))) H) (h5 : ∀ i, i < 6 → va_at E.1 vwCl (d + i + 5, .inr (3, [.int (nI 100), .int 0, .int 0])) H) (h6 : ∀ v, v < 4 → va_at E.1 vwCl (d + 2*v + 11, .inr (5, [.ref (d + 2*v + 12), .int (nI 1000), .int 0, .int 0, .int 0])) H) (h7 : ∀ v, v < 4 → va_at E.1 vwCl (d + 2*v + 12, .inl (E.2 0, 4, .inl (upd (upd (upd (upd (fun _ => 0) 0 (nI 50)) 1 (nI 50)) 2 (nI 50)) 3 (nI 50)))) H) (h8 : ∀ u, u < 20 → va_at E.1 vwCl (d + 2*u + 19, .inr (4, [.ref (d + 2*u + 20), .int 0, .int 0, .int 0, .int 0, .int 0, .int 0, .int 0, .int 0, .int 0])) H) (h9 : ∀ u, u < 20 → va_at E.1 vwCl (d + 2*u + 20, .inl (E.2 0, 4, .inl (upd (upd (upd (upd (fun _ => 0) 0 (-1)) 1 (-1)) 2 (-1)) 3 (-1)))) H) : dp E d zU H := by
  refine ⟨h0, va_rfs h1, va_rfs h2, va_rfs h3, va_arr h4 (fun q hq => ?_), fun i hi => ?_, fun v hv => ?_, fun v hv => va_arr (h7 v hv) (fun q hq => ?_), fun u hu => ?_, fun u hu => va_arr (h9 u hu) (fun q hq => ?_)⟩
  · exact (by decide +kernel : ∀ q, q < 5 → (upd (upd (upd (upd (upd (fun _ => 0) 0 (nI 30)) 1 (nI 20)) 2 (nI 10)) 3 (nI 2)) 4 (nI 3)) q = zU (q + 7)) q hq
  · have e := h5 i hi
    rw [show [Value.int (nI 100), .int 0, .int 0] = pr_F i zU from (by decide +kernel : ∀ i, i < 6 → [Value.int (nI 100), .int 0, .int 0] = pr_F i zU) i hi] at e
    exact e
  · have e := h6 v hv
    rw [show [Value.ref (d + 2*v + 12), .int (nI 1000), .int 0, .int 0, .int 0] = ve_F d v zU by unfold ve_F; rw [((by decide +kernel : ∀ v, v < 4 → zU (8*v + 30) = nI 1000 ∧ zU (8*v + 31) = 0 ∧ zU (8*v + 32) = 0 ∧ zU (8*v + 33) = 0) v hv).1, ((by decide +kernel : ∀ v, v < 4 → zU (8*v + 30) = nI 1000 ∧ zU (8*v + 31) = 0 ∧ zU (8*v + 32) = 0 ∧ zU (8*v + 33) = 0) v hv).2.1, ((by decide +kernel : ∀ v, v < 4 → zU (8*v + 30) = nI 1000 ∧ zU (8*v + 31) = 0 ∧ zU (8*v + 32) = 0 ∧ zU (8*v + 33) = 0) v hv).2.2.1, ((by decide +kernel : ∀ v, v < 4 → zU (8*v + 30) = nI 1000 ∧ zU (8*v + 31) = 0 ∧ zU (8*v + 32) = 0 ∧ zU (8*v + 33) = 0) v hv).2.2.2]] at e
    exact e
  · exact (by decide +kernel : ∀ v, v < 4 → ∀ q, q < 4 → (upd (upd (upd (upd (fun _ => 0) 0 (nI 50)) 1 (nI 50)) 2 (nI 50)) 3 (nI 50)) q = zU (8*v + q + 34)) v hv q hq
  · have e := h8 u hu
    have g : ∀ u, u < 20 → zU (13*u + 62) = 0 ∧ zU (13*u + 63) = 0 ∧ zU (13*u + 68) = 0 ∧ zU (13*u + 69) = 0 ∧ zU (13*u + 70) = 0 ∧ zU (13*u + 71) = 0 ∧ zU (13*u + 72) = 0 ∧ zU (13*u + 73) = 0 ∧ zU (13*u + 74) = 0 := by decide +kernel
    obtain ⟨g1, g2, g3, g4, g5, g6, g7, g8, g9⟩ := g u hu
    rw [show [Value.ref (d + 2*u + 20), .int 0, .int 0, .int 0, .int 0, .int 0, .int 0, .int 0, .int 0, .int 0] = un_F d u zU by unfold un_F; rw [g1, g2, g3, g4, g5, g6, g7, g8, g9]] at e
    exact e
  · exact (by decide +kernel : ∀ u, u < 20 → ∀ q, q < 4 → (upd (upd (upd (upd (fun _ => 0) 0 (-1)) 1 (-1)) 2 (-1)) 3 (-1)) q = zU (13*u + q + 64)) u hu q hq
def rm_X1_init : Room := { frames := 2, cells := 58, slots := 369, locals := 32 }
theorem hd_X1_init : k_hd1 yX1_init RX1 0 := by decide +kernel
set_option maxHeartbeats 4000000 in
set_option maxRecDepth 100000 in
theorem c_X1_init (l : Launch) (E : ke_E) (d : Nat) : Met l yX1_init wsX1_init rm_X1_init (kp E [.ref d] ((n1 E d))) (qm none (bl d 59) ((b1 E d))) 58 369 (bl d 59) := by
  refine k_hd (cc := cX1_init) (maxL := 2) (ret := none) (by decide) rfl (Nat.le_of_ble_eq_true rfl) ?_
  intro p e s m below meth c ls S hr hlk hnm hK hP hl
  have hx := S.1
  have hb := S.2.1
  have hts := S.2.2.2.2
  have hin0 : meth.name = "<init>" := hnm
  obtain ⟨hz, a0⟩ := hP
  have hl : lv_has ls 2 [(0, .ref d)] := hl
  have hS : va_S (bl d 59) s.heap s.heap [] := va_S.rf
  have J122 : ∀ (n_ : Nat), ∀ (k : Nat), k ≤ 20 → 20 < k + n_ → ∀ (H : Heap) (locs : List Loc), H.size = d + 2*k + 19 → (va_at E.1 vwCl (d, .inr (1, [.ref (d + 1), .ref (d + 2), .ref (d + 3), .ref (d + 4), .int 0, .int 0, .int 0])) H) → (va_at E.1 vwCl (d + 1, .inl (E.2 1, 6, .inr (.inr (.inr (.inr (rfk (fun i => d + i + 5) 6)))))) H) → (va_at E.1 vwCl (d + 2, .inl (E.2 2, 4, .inr (.inr (.inr (.inr (rfk (fun v => d + 2*v + 11) 4)))))) H) → (va_at E.1 vwCl (d + 3, .inl (E.2 3, 20, .inr (.inr (.inr (.inr (rfk (fun u => d + 2*u + 19) k)))))) H) → (va_at E.1 vwCl (d + 4, .inl (E.2 0, 5, .inl (upd (upd (upd (upd (upd (fun _ => 0) 0 (nI 30)) 1 (nI 20)) 2 (nI 10)) 3 (nI 2)) 4 (nI 3)))) H) → (∀ i, i < 6 → va_at E.1 vwCl (d + i + 5, .inr (3, [.int (nI 100), .int 0, .int 0])) H) → (∀ v, v < 4 → va_at E.1 vwCl (d + 2*v + 11, .inr (5, [.ref (d + 2*v + 12), .int (nI 1000), .int 0, .int 0, .int 0])) H) → (∀ v, v < 4 → va_at E.1 vwCl (d + 2*v + 12, .inl (E.2 0, 4, .inl (upd (upd (upd (upd (fun _ => 0) 0 (nI 50)) 1 (nI 50)) 2 (nI 50)) 3 (nI 50)))) H) → (∀ u, u < k → va_at E.1 vwCl (d + 2*u + 19, .inr (4, [.ref (d + 2*u + 20), .int 0, .int 0, .int 0, .int 0, .int 0, .int 0, .int 0, .int 0, .int 0])) H) → (∀ u, u < k → va_at E.1 vwCl (d + 2*u + 20, .inl (E.2 0, 4, .inl (upd (upd (upd (upd (fun _ => 0) 0 (-1)) 1 (-1)) 2 (-1)) 3 (-1)))) H) → va_S (bl d 59) s.heap H locs → ∀ (ls : Array Slot), lv_has ls 2 [(0, .ref d), (1, .int (nI k))] → W p l e (headSpec wsX1_init rm_X1_init).room s m ([.ref d] : List Value).toArray below meth c H locs (18 + 2*k) (89 + 14*k) (MQ below (qm none (bl d 59) ((b1 E d))) ([.ref d] : List Value).toArray s 58 369 (bl d 59)) (F0 m 122 ls []) := by
    intro n_
    induction n_ with
    | zero =>
      intro k hk hn_ _ _ _ _ _ _ _ _ _ _ _ _ _ _ _ _
      exact absurd hn_ (by omega)
    | succ n_ ih =>
      intro k hk hn_ H locs hz a0 h1 h2 h3 h4 h5 h6 h7 h8 h9 hS ls hl
      refine lv_iload_n hx hb dX1_init_122 rfl (lv_at hl 1 rfl) ?_
      refine lv_aload_n hx hb dX1_init_123 rfl (lv_at hl 0 rfl) ?_
      refine k_get S hK a0 rfl (fun _ h => List.mem_cons_of_mem _ (List.mem_append_left _ (List.mem_append_left _ (List.mem_append_left _ (List.mem_append_right _ (h)))))) 2 (by decide) (List.mem_cons_of_mem _ (List.mem_append_left _ (List.mem_append_left _ (List.mem_append_left _ (List.mem_append_left _ (List.mem_append_left _ (List.mem_of_getElem? (i := 8) rfl))))))) rfl (v := .ref (d + 3)) rfl dX1_init_124 ?_
      refine k_alen hx hb hK (t := 3) rfl h3 dX1_init_127 ?_
      refine k_top (y := nI 20) rfl ?_
      refine n_ige (tgt := 150) hx hb dX1_init_128 (by decide) (by omega) (by omega) (fun c128 => ?_) (fun c128 => ?_)
      · exact k_cs (cells' := 58) (slots' := 369) (by omega) (by omega) (k_vretM hx hb hr hlk dX1_init_150 hS (show (b1 E d) H from (by have ek : k = 20 := (by omega); subst ek; exact ⟨hz, b1_of a0 h1 h2 h3 h4 h5 h6 h7 h8 h9⟩)))
      · refine lv_aload_n hx hb dX1_init_131 rfl (lv_at hl 0 rfl) ?_
        refine k_get S hK a0 rfl (fun _ h => List.mem_cons_of_mem _ (List.mem_append_left _ (List.mem_append_left _ (List.mem_append_left _ (List.mem_append_right _ (h)))))) 2 (by decide) (List.mem_cons_of_mem _ (List.mem_append_left _ (List.mem_append_left _ (List.mem_append_left _ (List.mem_append_left _ (List.mem_append_left _ (List.mem_of_getElem? (i := 8) rfl))))))) rfl (v := .ref (d + 3)) rfl dX1_init_132 ?_
        refine lv_iload_n hx hb dX1_init_135 rfl (lv_at hl 1 rfl) ?_
        refine k_new (q := d + 2*k + 19) (N := 10) (T := TX4) S (fun _ h => List.mem_cons_of_mem _ (List.mem_append_right _ (h))) tyX4_ok (List.mem_cons_of_mem _ (List.mem_append_left _ (List.mem_append_left _ (List.mem_append_left _ (List.mem_append_left _ (List.mem_append_left _ (List.mem_of_getElem? (i := 7) rfl))))))) (List.mem_cons_of_mem _ (List.mem_append_left _ (List.mem_append_left _ (List.mem_append_left _ (List.mem_append_left _ (List.mem_append_left _ (List.mem_of_getElem? (i := 15) rfl))))))) (List.mem_cons_of_mem _ (List.mem_append_left _ (List.mem_append_left _ (List.mem_append_left _ (List.mem_append_left _ (List.mem_append_left _ (List.mem_of_getElem? (i := 16) rfl))))))) hK hS (ci := 4) rfl dfX4 (by show _ ≤ 58; omega) (by show _ ≤ 369; omega) hz dX1_init_136 (fun H a1 hz hF hS => ?_)
        have a0 := a0.kept (hF _ (by omega))
        have h1 := h1.kept (hF _ (by omega))
        have h2 := h2.kept (hF _ (by omega))
        have h3 := h3.kept (hF _ (by omega))
        have h4 := h4.kept (hF _ (by omega))
        have h5 := fun i h_9 => (h5 i h_9).kept (hF _ (by omega))
        have h6 := fun v h_9 => (h6 v h_9).kept (hF _ (by omega))
        have h7 := fun v h_9 => (h7 v h_9).kept (hF _ (by omega))
        have h8 := fun u h_9 => (h8 u h_9).kept (hF _ (by omega))
        have h9 := fun u h_9 => (h9 u h_9).kept (hF _ (by omega))
        have hz : H.size = d + 2*k + 20 := by omega
        refine lv_dup hx hb dX1_init_139 rfl ?_
        refine k_INM (q := (RX1, 35, yX4_init, RX6)) (As := []) (rest := [.ref (d + 2*k + 19), .int (nI k), .ref (d + 3)]) S hK (List.mem_of_getElem? (i := 4) rfl) (c_X4_init l E (d + 2*k + 19)) ggX1_init_X4_init rfl hd_X4_init (List.mem_cons_of_mem _ (List.mem_append_left _ (List.mem_append_left _ (List.mem_append_left _ (List.mem_append_left _ (List.mem_append_left _ (List.mem_of_getElem? (i := 16) rfl))))))) (List.mem_cons_of_mem _ (List.mem_append_left _ (List.mem_append_left _ (List.mem_append_left _ (List.mem_append_left _ (List.mem_append_right _ (List.mem_of_getElem? (i := 2) rfl))))))) rfl ⟨rfl, rfl⟩ ⟨Nat.le_of_ble_eq_true rfl, Nat.le_of_ble_eq_true rfl⟩ (⟨hz, a1⟩) rfl hl.1 rfl (Nat.le_of_ble_eq_true rfl) dX1_init_140 ⟨by show _ ≤ 58; omega, by show _ ≤ 369; omega⟩ hS (fun q h => ⟨by have := h.1; omega, by have := h.2; omega⟩) (fun q h => ⟨by have := h.1; omega, by have := h.2; omega⟩) (fun H locs hQ zH hF hS => ?_)
        have a0 := a0.kept (hF _ (by omega) (fun k => by have := k.1; have := k.2; omega))
        have h1 := h1.kept (hF _ (by omega) (fun k => by have := k.1; have := k.2; omega))
        have h2 := h2.kept (hF _ (by omega) (fun k => by have := k.1; have := k.2; omega))
        have h3 := h3.kept (hF _ (by omega) (fun k => by have := k.1; have := k.2; omega))
        have h4 := h4.kept (hF _ (by omega) (fun k => by have := k.1; have := k.2; omega))
        have h5 := fun i h_9 => (h5 i h_9).kept (hF _ (by omega) (fun k => by have := k.1; have := k.2; omega))
        have h6 := fun v h_9 => (h6 v h_9).kept (hF _ (by omega) (fun k => by have := k.1; have := k.2; omega))
        have h7 := fun v h_9 => (h7 v h_9).kept (hF _ (by omega) (fun k => by have := k.1; have := k.2; omega))
        have h8 := fun u h_9 => (h8 u h_9).kept (hF _ (by omega) (fun k => by have := k.1; have := k.2; omega))
        have h9 := fun u h_9 => (h9 u h_9).kept (hF _ (by omega) (fun k => by have := k.1; have := k.2; omega))
        obtain ⟨hz, a2, a3⟩ := hQ
        have hz : H.size = d + 2*k + 21 := by omega
        refine k_aast (i := k) (t := 3) hx hb hK h3 rfl a2 rfl (by omega) (by decide) hS (by constructor <;> omega) dX1_init_143 (fun H locs a4 zH hF hS => ?_)
        have a0 := a0.kept (hF _ (by omega))
        have h1 := h1.kept (hF _ (by omega))
        have h2 := h2.kept (hF _ (by omega))
        have h4 := h4.kept (hF _ (by omega))
        have h5 := fun i h_9 => (h5 i h_9).kept (hF _ (by omega))
        have h6 := fun v h_9 => (h6 v h_9).kept (hF _ (by omega))
        have h7 := fun v h_9 => (h7 v h_9).kept (hF _ (by omega))
        have h8 := fun u h_9 => (h8 u h_9).kept (hF _ (by omega))
        have h9 := fun u h_9 => (h9 u h_9).kept (hF _ (by omega))
        have a2 := a2.kept (hF _ (by omega))
        have a3 := a3.kept (hF _ (by omega))
        have hz : H.size = d + 2*k + 21 := by omega
        refine lv_iinc (v := nI (k + 1)) (lv' := [(1, .int (nI (k + 1))), (0, .ref d)]) hx hb dX1_init_144 hl (k := 1) rfl (inc_1 _) (by decide) rfl (fun ls hl => ?_)
        refine lv_goto (tgt := 122) hx hb dX1_init_147 (by decide) ?_
        exact k_cs (by omega) (by omega) (ih (k + 1) (by omega) (by omega) _ _ (by omega) a0 h1 h2 (by have h8 := a4; rw [rfk_s (f := fun u => d + 2*u + 19)] at h8; exact h8) h4 h5 h6 h7 (fam_s h8 a2) (fam_s h9 a3) hS _ (lv_sub hl [1, 0] rfl))
  have J92 : ∀ (n_ : Nat), ∀ (k : Nat), k ≤ 4 → 4 < k + n_ → ∀ (H : Heap) (locs : List Loc), H.size = d + 2*k + 11 → (va_at E.1 vwCl (d, .inr (1, [.ref (d + 1), .ref (d + 2), .ref (d + 3), .ref (d + 4), .int 0, .int 0, .int 0])) H) → (va_at E.1 vwCl (d + 1, .inl (E.2 1, 6, .inr (.inr (.inr (.inr (rfk (fun i => d + i + 5) 6)))))) H) → (va_at E.1 vwCl (d + 2, .inl (E.2 2, 4, .inr (.inr (.inr (.inr (rfk (fun v => d + 2*v + 11) k)))))) H) → (va_at E.1 vwCl (d + 3, .inl (E.2 3, 20, .inr (.inr (.inr (.inr (fun _ => none)))))) H) → (va_at E.1 vwCl (d + 4, .inl (E.2 0, 5, .inl (upd (upd (upd (upd (upd (fun _ => 0) 0 (nI 30)) 1 (nI 20)) 2 (nI 10)) 3 (nI 2)) 4 (nI 3)))) H) → (∀ i, i < 6 → va_at E.1 vwCl (d + i + 5, .inr (3, [.int (nI 100), .int 0, .int 0])) H) → (∀ v, v < k → va_at E.1 vwCl (d + 2*v + 11, .inr (5, [.ref (d + 2*v + 12), .int (nI 1000), .int 0, .int 0, .int 0])) H) → (∀ v, v < k → va_at E.1 vwCl (d + 2*v + 12, .inl (E.2 0, 4, .inl (upd (upd (upd (upd (fun _ => 0) 0 (nI 50)) 1 (nI 50)) 2 (nI 50)) 3 (nI 50)))) H) → va_S (bl d 59) s.heap H locs → ∀ (ls : Array Slot), lv_has ls 2 [(0, .ref d), (1, .int (nI k))] → W p l e (headSpec wsX1_init rm_X1_init).room s m ([.ref d] : List Value).toArray below meth c H locs (10 + 2*k) (53 + 9*k) (MQ below (qm none (bl d 59) ((b1 E d))) ([.ref d] : List Value).toArray s 58 369 (bl d 59)) (F0 m 92 ls []) := by
    intro n_
    induction n_ with
    | zero =>
      intro k hk hn_ _ _ _ _ _ _ _ _ _ _ _ _ _ _
      exact absurd hn_ (by omega)
    | succ n_ ih =>
      intro k hk hn_ H locs hz a0 h1 h2 h3 h4 h5 h6 h7 hS ls hl
      refine lv_iload_n hx hb dX1_init_92 rfl (lv_at hl 1 rfl) ?_
      refine lv_aload_n hx hb dX1_init_93 rfl (lv_at hl 0 rfl) ?_
      refine k_get S hK a0 rfl (fun _ h => List.mem_cons_of_mem _ (List.mem_append_left _ (List.mem_append_left _ (List.mem_append_left _ (List.mem_append_right _ (h)))))) 1 (by decide) (List.mem_cons_of_mem _ (List.mem_append_left _ (List.mem_append_left _ (List.mem_append_left _ (List.mem_append_left _ (List.mem_append_left _ (List.mem_of_getElem? (i := 6) rfl))))))) rfl (v := .ref (d + 2)) rfl dX1_init_94 ?_
      refine k_alen hx hb hK (t := 2) rfl h2 dX1_init_97 ?_
      refine k_top (y := nI 4) rfl ?_
      refine n_ige (tgt := 120) hx hb dX1_init_98 (by decide) (by omega) (by omega) (fun c98 => ?_) (fun c98 => ?_)
      · refine lv_iconst (v := nI 0) hx hb dX1_init_120 (by decide) ?_
        refine lv_istore_n (lv' := [(1, .int (nI 0)), (0, .ref d)]) hx hb dX1_init_121 rfl hl (by decide) rfl (fun ls hl => ?_)
        exact k_cs (by omega) (by omega) (J122 (20 + 1) 0 (by omega) (by omega) _ _ (by omega) a0 h1 (by have h8 := h2; rw [show k = 4 by omega] at h8; exact h8) (by have h8 := h3; rw [rfk_0 (f := fun u => d + 2*u + 19)] at h8; exact h8) h4 h5 (by have h8 := h6; rw [show k = 4 by omega] at h8; exact h8) (by have h8 := h7; rw [show k = 4 by omega] at h8; exact h8) (fun _ h8 => absurd h8 (by omega)) (fun _ h8 => absurd h8 (by omega)) hS _ (lv_sub hl [1, 0] rfl))
      · refine lv_aload_n hx hb dX1_init_101 rfl (lv_at hl 0 rfl) ?_
        refine k_get S hK a0 rfl (fun _ h => List.mem_cons_of_mem _ (List.mem_append_left _ (List.mem_append_left _ (List.mem_append_left _ (List.mem_append_right _ (h)))))) 1 (by decide) (List.mem_cons_of_mem _ (List.mem_append_left _ (List.mem_append_left _ (List.mem_append_left _ (List.mem_append_left _ (List.mem_append_left _ (List.mem_of_getElem? (i := 6) rfl))))))) rfl (v := .ref (d + 2)) rfl dX1_init_102 ?_
        refine lv_iload_n hx hb dX1_init_105 rfl (lv_at hl 1 rfl) ?_
        refine k_new (q := d + 2*k + 11) (N := 5) (T := TX5) S (fun _ h => List.mem_cons_of_mem _ (List.mem_append_left _ (List.mem_append_right _ (h)))) tyX5_ok (List.mem_cons_of_mem _ (List.mem_append_left _ (List.mem_append_left _ (List.mem_append_left _ (List.mem_append_left _ (List.mem_append_left _ (List.mem_of_getElem? (i := 5) rfl))))))) (List.mem_cons_of_mem _ (List.mem_append_left _ (List.mem_append_left _ (List.mem_append_left _ (List.mem_append_left _ (List.mem_append_left _ (List.mem_of_getElem? (i := 13) rfl))))))) (List.mem_cons_of_mem _ (List.mem_append_left _ (List.mem_append_left _ (List.mem_append_left _ (List.mem_append_left _ (List.mem_append_left _ (List.mem_of_getElem? (i := 14) rfl))))))) hK hS (ci := 5) rfl dfX5 (by show _ ≤ 58; omega) (by show _ ≤ 369; omega) hz dX1_init_106 (fun H a1 hz hF hS => ?_)
        have a0 := a0.kept (hF _ (by omega))
        have h1 := h1.kept (hF _ (by omega))
        have h2 := h2.kept (hF _ (by omega))
        have h3 := h3.kept (hF _ (by omega))
        have h4 := h4.kept (hF _ (by omega))
        have h5 := fun i h_9 => (h5 i h_9).kept (hF _ (by omega))
        have h6 := fun v h_9 => (h6 v h_9).kept (hF _ (by omega))
        have h7 := fun v h_9 => (h7 v h_9).kept (hF _ (by omega))
        have hz : H.size = d + 2*k + 12 := by omega
        refine lv_dup hx hb dX1_init_109 rfl ?_
        refine k_INM (q := (RX1, 34, yX5_init, RX6)) (As := []) (rest := [.ref (d + 2*k + 11), .int (nI k), .ref (d + 2)]) S hK (List.mem_of_getElem? (i := 3) rfl) (c_X5_init l E (d + 2*k + 11)) ggX1_init_X5_init rfl hd_X5_init (List.mem_cons_of_mem _ (List.mem_append_left _ (List.mem_append_left _ (List.mem_append_left _ (List.mem_append_left _ (List.mem_append_left _ (List.mem_of_getElem? (i := 14) rfl))))))) (List.mem_cons_of_mem _ (List.mem_append_left _ (List.mem_append_left _ (List.mem_append_left _ (List.mem_append_left _ (List.mem_append_left _ (List.mem_of_getElem? (i := 21) rfl))))))) rfl ⟨rfl, rfl⟩ ⟨Nat.le_of_ble_eq_true rfl, Nat.le_of_ble_eq_true rfl⟩ (⟨hz, a1⟩) rfl hl.1 rfl (Nat.le_of_ble_eq_true rfl) dX1_init_110 ⟨by show _ ≤ 58; omega, by show _ ≤ 369; omega⟩ hS (fun q h => ⟨by have := h.1; omega, by have := h.2; omega⟩) (fun q h => ⟨by have := h.1; omega, by have := h.2; omega⟩) (fun H locs hQ zH hF hS => ?_)
        have a0 := a0.kept (hF _ (by omega) (fun k => by have := k.1; have := k.2; omega))
        have h1 := h1.kept (hF _ (by omega) (fun k => by have := k.1; have := k.2; omega))
        have h2 := h2.kept (hF _ (by omega) (fun k => by have := k.1; have := k.2; omega))
        have h3 := h3.kept (hF _ (by omega) (fun k => by have := k.1; have := k.2; omega))
        have h4 := h4.kept (hF _ (by omega) (fun k => by have := k.1; have := k.2; omega))
        have h5 := fun i h_9 => (h5 i h_9).kept (hF _ (by omega) (fun k => by have := k.1; have := k.2; omega))
        have h6 := fun v h_9 => (h6 v h_9).kept (hF _ (by omega) (fun k => by have := k.1; have := k.2; omega))
        have h7 := fun v h_9 => (h7 v h_9).kept (hF _ (by omega) (fun k => by have := k.1; have := k.2; omega))
        obtain ⟨hz, a2, a3⟩ := hQ
        have hz : H.size = d + 2*k + 13 := by omega
        refine k_aast (i := k) (t := 2) hx hb hK h2 rfl a2 rfl (by omega) (by decide) hS (by constructor <;> omega) dX1_init_113 (fun H locs a4 zH hF hS => ?_)
        have a0 := a0.kept (hF _ (by omega))
        have h1 := h1.kept (hF _ (by omega))
        have h3 := h3.kept (hF _ (by omega))
        have h4 := h4.kept (hF _ (by omega))
        have h5 := fun i h_9 => (h5 i h_9).kept (hF _ (by omega))
        have h6 := fun v h_9 => (h6 v h_9).kept (hF _ (by omega))
        have h7 := fun v h_9 => (h7 v h_9).kept (hF _ (by omega))
        have a2 := a2.kept (hF _ (by omega))
        have a3 := a3.kept (hF _ (by omega))
        have hz : H.size = d + 2*k + 13 := by omega
        refine lv_iinc (v := nI (k + 1)) (lv' := [(1, .int (nI (k + 1))), (0, .ref d)]) hx hb dX1_init_114 hl (k := 1) rfl (inc_1 _) (by decide) rfl (fun ls hl => ?_)
        refine lv_goto (tgt := 92) hx hb dX1_init_117 (by decide) ?_
        exact k_cs (by omega) (by omega) (ih (k + 1) (by omega) (by omega) _ _ (by omega) a0 h1 (by have h8 := a4; rw [rfk_s (f := fun v => d + 2*v + 11)] at h8; exact h8) h3 h4 h5 (fam_s h6 a2) (fam_s h7 a3) hS _ (lv_sub hl [1, 0] rfl))
  have J62 : ∀ (n_ : Nat), ∀ (k : Nat), k ≤ 6 → 6 < k + n_ → ∀ (H : Heap) (locs : List Loc), H.size = d + k + 5 → (va_at E.1 vwCl (d, .inr (1, [.ref (d + 1), .ref (d + 2), .ref (d + 3), .ref (d + 4), .int 0, .int 0, .int 0])) H) → (va_at E.1 vwCl (d + 1, .inl (E.2 1, 6, .inr (.inr (.inr (.inr (rfk (fun i => d + i + 5) k)))))) H) → (va_at E.1 vwCl (d + 2, .inl (E.2 2, 4, .inr (.inr (.inr (.inr (fun _ => none)))))) H) → (va_at E.1 vwCl (d + 3, .inl (E.2 3, 20, .inr (.inr (.inr (.inr (fun _ => none)))))) H) → (va_at E.1 vwCl (d + 4, .inl (E.2 0, 5, .inl (upd (upd (upd (upd (upd (fun _ => 0) 0 (nI 30)) 1 (nI 20)) 2 (nI 10)) 3 (nI 2)) 4 (nI 3)))) H) → (∀ i, i < k → va_at E.1 vwCl (d + i + 5, .inr (3, [.int (nI 100), .int 0, .int 0])) H) → va_S (bl d 59) s.heap H locs → ∀ (ls : Array Slot), lv_has ls 2 [(0, .ref d), (1, .int (nI k))] → W p l e (headSpec wsX1_init rm_X1_init).room s m ([.ref d] : List Value).toArray below meth c H locs (4 + k) (35 + 3*k) (MQ below (qm none (bl d 59) ((b1 E d))) ([.ref d] : List Value).toArray s 58 369 (bl d 59)) (F0 m 62 ls []) := by
    intro n_
    induction n_ with
    | zero =>
      intro k hk hn_ _ _ _ _ _ _ _ _ _ _ _ _
      exact absurd hn_ (by omega)
    | succ n_ ih =>
      intro k hk hn_ H locs hz a0 h1 h2 h3 h4 h5 hS ls hl
      refine lv_iload_n hx hb dX1_init_62 rfl (lv_at hl 1 rfl) ?_
      refine lv_aload_n hx hb dX1_init_63 rfl (lv_at hl 0 rfl) ?_
      refine k_get S hK a0 rfl (fun _ h => List.mem_cons_of_mem _ (List.mem_append_left _ (List.mem_append_left _ (List.mem_append_left _ (List.mem_append_right _ (h)))))) 0 (by decide) (List.mem_cons_of_mem _ (List.mem_append_left _ (List.mem_append_left _ (List.mem_append_left _ (List.mem_append_left _ (List.mem_append_left _ (List.mem_of_getElem? (i := 4) rfl))))))) rfl (v := .ref (d + 1)) rfl dX1_init_64 ?_
      refine k_alen hx hb hK (t := 1) rfl h1 dX1_init_67 ?_
      refine k_top (y := nI 6) rfl ?_
      refine n_ige (tgt := 90) hx hb dX1_init_68 (by decide) (by omega) (by omega) (fun c68 => ?_) (fun c68 => ?_)
      · refine lv_iconst (v := nI 0) hx hb dX1_init_90 (by decide) ?_
        refine lv_istore_n (lv' := [(1, .int (nI 0)), (0, .ref d)]) hx hb dX1_init_91 rfl hl (by decide) rfl (fun ls hl => ?_)
        exact k_cs (by omega) (by omega) (J92 (4 + 1) 0 (by omega) (by omega) _ _ (by omega) a0 (by have h8 := h1; rw [show k = 6 by omega] at h8; exact h8) (by have h8 := h2; rw [rfk_0 (f := fun v => d + 2*v + 11)] at h8; exact h8) h3 h4 (by have h8 := h5; rw [show k = 6 by omega] at h8; exact h8) (fun _ h8 => absurd h8 (by omega)) (fun _ h8 => absurd h8 (by omega)) hS _ (lv_sub hl [1, 0] rfl))
      · refine lv_aload_n hx hb dX1_init_71 rfl (lv_at hl 0 rfl) ?_
        refine k_get S hK a0 rfl (fun _ h => List.mem_cons_of_mem _ (List.mem_append_left _ (List.mem_append_left _ (List.mem_append_left _ (List.mem_append_right _ (h)))))) 0 (by decide) (List.mem_cons_of_mem _ (List.mem_append_left _ (List.mem_append_left _ (List.mem_append_left _ (List.mem_append_left _ (List.mem_append_left _ (List.mem_of_getElem? (i := 4) rfl))))))) rfl (v := .ref (d + 1)) rfl dX1_init_72 ?_
        refine lv_iload_n hx hb dX1_init_75 rfl (lv_at hl 1 rfl) ?_
        refine k_new (q := d + k + 5) (N := 3) (T := TX3) S (fun _ h => List.mem_cons_of_mem _ (List.mem_append_left _ (List.mem_append_left _ (List.mem_append_right _ (h))))) tyX3_ok (List.mem_cons_of_mem _ (List.mem_append_left _ (List.mem_append_left _ (List.mem_append_left _ (List.mem_append_left _ (List.mem_append_left _ (List.mem_of_getElem? (i := 3) rfl))))))) (List.mem_cons_of_mem _ (List.mem_append_left _ (List.mem_append_left _ (List.mem_append_left _ (List.mem_append_left _ (List.mem_append_left _ (List.mem_of_getElem? (i := 11) rfl))))))) (List.mem_cons_of_mem _ (List.mem_append_left _ (List.mem_append_left _ (List.mem_append_left _ (List.mem_append_left _ (List.mem_append_left _ (List.mem_of_getElem? (i := 12) rfl))))))) hK hS (ci := 3) rfl dfX3 (by show _ ≤ 58; omega) (by show _ ≤ 369; omega) hz dX1_init_76 (fun H a1 hz hF hS => ?_)
        have a0 := a0.kept (hF _ (by omega))
        have h1 := h1.kept (hF _ (by omega))
        have h2 := h2.kept (hF _ (by omega))
        have h3 := h3.kept (hF _ (by omega))
        have h4 := h4.kept (hF _ (by omega))
        have h5 := fun i h_9 => (h5 i h_9).kept (hF _ (by omega))
        have hz : H.size = d + k + 6 := by omega
        refine lv_dup hx hb dX1_init_79 rfl ?_
        refine k_INM (q := (RX1, 33, yX3_init, RX6)) (As := []) (rest := [.ref (d + k + 5), .int (nI k), .ref (d + 1)]) S hK (List.mem_of_getElem? (i := 2) rfl) (c_X3_init l E (d + k + 5)) ggX1_init_X3_init rfl hd_X3_init (List.mem_cons_of_mem _ (List.mem_append_left _ (List.mem_append_left _ (List.mem_append_left _ (List.mem_append_left _ (List.mem_append_left _ (List.mem_of_getElem? (i := 12) rfl))))))) (List.mem_cons_of_mem _ (List.mem_append_left _ (List.mem_append_left _ (List.mem_append_left _ (List.mem_append_left _ (List.mem_append_left _ (List.mem_of_getElem? (i := 17) rfl))))))) rfl ⟨rfl, rfl⟩ ⟨Nat.le_of_ble_eq_true rfl, Nat.le_of_ble_eq_true rfl⟩ (⟨hz, a1⟩) rfl hl.1 rfl (Nat.le_of_ble_eq_true rfl) dX1_init_80 ⟨by show _ ≤ 58; omega, by show _ ≤ 369; omega⟩ hS (fun q h => ⟨by have := h.1; omega, by have := h.2; omega⟩) (fun q h => ⟨by have := h.1; omega, by have := h.2; omega⟩) (fun H locs hQ zH hF hS => ?_)
        have a0 := a0.kept (hF _ (by omega) (fun k => by have := k.1; have := k.2; omega))
        have h1 := h1.kept (hF _ (by omega) (fun k => by have := k.1; have := k.2; omega))
        have h2 := h2.kept (hF _ (by omega) (fun k => by have := k.1; have := k.2; omega))
        have h3 := h3.kept (hF _ (by omega) (fun k => by have := k.1; have := k.2; omega))
        have h4 := h4.kept (hF _ (by omega) (fun k => by have := k.1; have := k.2; omega))
        have h5 := fun i h_9 => (h5 i h_9).kept (hF _ (by omega) (fun k => by have := k.1; have := k.2; omega))
        obtain ⟨hz, a2⟩ := hQ
        have hz : H.size = d + k + 6 := by omega
        refine k_aast (i := k) (t := 1) hx hb hK h1 rfl a2 rfl (by omega) (by decide) hS (by constructor <;> omega) dX1_init_83 (fun H locs a3 zH hF hS => ?_)
        have a0 := a0.kept (hF _ (by omega))
        have h2 := h2.kept (hF _ (by omega))
        have h3 := h3.kept (hF _ (by omega))
        have h4 := h4.kept (hF _ (by omega))
        have h5 := fun i h_9 => (h5 i h_9).kept (hF _ (by omega))
        have a2 := a2.kept (hF _ (by omega))
        have hz : H.size = d + k + 6 := by omega
        refine lv_iinc (v := nI (k + 1)) (lv' := [(1, .int (nI (k + 1))), (0, .ref d)]) hx hb dX1_init_84 hl (k := 1) rfl (inc_1 _) (by decide) rfl (fun ls hl => ?_)
        refine lv_goto (tgt := 62) hx hb dX1_init_87 (by decide) ?_
        exact k_cs (by omega) (by omega) (ih (k + 1) (by omega) (by omega) _ _ (by omega) a0 (by have h8 := a3; rw [rfk_s (f := fun i => d + i + 5)] at h8; exact h8) h2 h3 h4 (fam_s h5 a2) hS _ (lv_sub hl [1, 0] rfl))
  refine lv_aload_n hx hb dX1_init_0 rfl (lv_at hl 0 rfl) ?_
  refine k_oi S (List.mem_cons_of_mem _ (List.mem_append_left _ (List.mem_append_left _ (List.mem_append_left _ (List.mem_append_left _ (List.mem_append_left _ (List.mem_of_getElem? (i := 0) rfl))))))) (List.mem_cons_of_mem _ (List.mem_append_left _ (List.mem_append_left _ (List.mem_append_left _ (List.mem_append_left _ (List.mem_append_left _ (List.mem_of_getElem? (i := 1) rfl))))))) (List.mem_cons_of_mem _ (List.mem_append_left _ (List.mem_append_left _ (List.mem_append_left _ (List.mem_append_left _ (List.mem_append_left _ (List.mem_of_getElem? (i := 2) rfl))))))) hl.1 dX1_init_1 (Nat.le_of_ble_eq_true rfl) (Nat.le_of_ble_eq_true rfl) ?_
  refine lv_aload_n hx hb dX1_init_4 rfl (lv_at hl 0 rfl) ?_
  refine lv_bipush (v := nI 6) hx hb dX1_init_5 (by decide) ?_
  refine k_newq (t := 1) (n := 6) (q := d + 1) S (List.mem_cons_of_mem _ (List.mem_append_left _ (List.mem_append_left _ (List.mem_append_left _ (List.mem_append_left _ (List.mem_append_left _ (List.mem_of_getElem? (i := 3) rfl))))))) (by decide) hK rfl hS (by omega) (by show _ ≤ 58; omega) (by show _ ≤ 369; omega) hz dX1_init_7 (fun H a1 hz hF hS => ?_)
  have a0 := a0.kept (hF _ (by omega))
  have hz : H.size = d + 2 := by omega
  refine k_putF S hK a0 rfl (fun _ h => List.mem_cons_of_mem _ (List.mem_append_left _ (List.mem_append_left _ (List.mem_append_left _ (List.mem_append_right _ (h)))))) tyX1_ok nmX1 0 (by decide) (List.mem_cons_of_mem _ (List.mem_append_left _ (List.mem_append_left _ (List.mem_append_left _ (List.mem_append_left _ (List.mem_append_left _ (List.mem_of_getElem? (i := 4) rfl))))))) rfl rfl rfl hin0 rfl rfl (by simp) hS (by constructor <;> omega) dX1_init_10 (fun H locs a2 zH hF hS => ?_)
  have a2 : va_at E.1 vwCl (d, .inr (1, [.ref (d + 1), .null, .null, .null, .int 0, .int 0, .int 0])) H := a2
  have a1 := a1.kept (hF _ (by omega))
  have hz : H.size = d + 2 := by omega
  refine lv_aload_n hx hb dX1_init_13 rfl (lv_at hl 0 rfl) ?_
  refine lv_iconst (v := nI 4) hx hb dX1_init_14 (by decide) ?_
  refine k_newq (t := 2) (n := 4) (q := d + 2) S (List.mem_cons_of_mem _ (List.mem_append_left _ (List.mem_append_left _ (List.mem_append_left _ (List.mem_append_left _ (List.mem_append_left _ (List.mem_of_getElem? (i := 5) rfl))))))) (by decide) hK rfl hS (by omega) (by show _ ≤ 58; omega) (by show _ ≤ 369; omega) hz dX1_init_15 (fun H a3 hz hF hS => ?_)
  have a2 := a2.kept (hF _ (by omega))
  have a1 := a1.kept (hF _ (by omega))
  have hz : H.size = d + 3 := by omega
  refine k_putF S hK a2 rfl (fun _ h => List.mem_cons_of_mem _ (List.mem_append_left _ (List.mem_append_left _ (List.mem_append_left _ (List.mem_append_right _ (h)))))) tyX1_ok nmX1 1 (by decide) (List.mem_cons_of_mem _ (List.mem_append_left _ (List.mem_append_left _ (List.mem_append_left _ (List.mem_append_left _ (List.mem_append_left _ (List.mem_of_getElem? (i := 6) rfl))))))) rfl rfl rfl hin0 rfl rfl (by simp) hS (by constructor <;> omega) dX1_init_18 (fun H locs a4 zH hF hS => ?_)
  have a4 : va_at E.1 vwCl (d, .inr (1, [.ref (d + 1), .ref (d + 2), .null, .null, .int 0, .int 0, .int 0])) H := a4
  have a1 := a1.kept (hF _ (by omega))
  have a3 := a3.kept (hF _ (by omega))
  have hz : H.size = d + 3 := by omega
  refine lv_aload_n hx hb dX1_init_21 rfl (lv_at hl 0 rfl) ?_
  refine lv_bipush (v := nI 20) hx hb dX1_init_22 (by decide) ?_
  refine k_newq (t := 3) (n := 20) (q := d + 3) S (List.mem_cons_of_mem _ (List.mem_append_left _ (List.mem_append_left _ (List.mem_append_left _ (List.mem_append_left _ (List.mem_append_left _ (List.mem_of_getElem? (i := 7) rfl))))))) (by decide) hK rfl hS (by omega) (by show _ ≤ 58; omega) (by show _ ≤ 369; omega) hz dX1_init_24 (fun H a5 hz hF hS => ?_)
  have a4 := a4.kept (hF _ (by omega))
  have a1 := a1.kept (hF _ (by omega))
  have a3 := a3.kept (hF _ (by omega))
  have hz : H.size = d + 4 := by omega
  refine k_putF S hK a4 rfl (fun _ h => List.mem_cons_of_mem _ (List.mem_append_left _ (List.mem_append_left _ (List.mem_append_left _ (List.mem_append_right _ (h)))))) tyX1_ok nmX1 2 (by decide) (List.mem_cons_of_mem _ (List.mem_append_left _ (List.mem_append_left _ (List.mem_append_left _ (List.mem_append_left _ (List.mem_append_left _ (List.mem_of_getElem? (i := 8) rfl))))))) rfl rfl rfl hin0 rfl rfl (by simp) hS (by constructor <;> omega) dX1_init_27 (fun H locs a6 zH hF hS => ?_)
  have a6 : va_at E.1 vwCl (d, .inr (1, [.ref (d + 1), .ref (d + 2), .ref (d + 3), .null, .int 0, .int 0, .int 0])) H := a6
  have a1 := a1.kept (hF _ (by omega))
  have a3 := a3.kept (hF _ (by omega))
  have a5 := a5.kept (hF _ (by omega))
  have hz : H.size = d + 4 := by omega
  refine lv_aload_n hx hb dX1_init_30 rfl (lv_at hl 0 rfl) ?_
  refine lv_iconst (v := nI 5) hx hb dX1_init_31 (by decide) ?_
  refine k_newa (n := 5) (q := d + 4) hx hb (hts _ (List.mem_cons_of_mem _ (List.mem_append_left _ (List.mem_append_left _ (List.mem_append_left _ (List.mem_append_left _ (List.mem_append_left _ (List.mem_of_getElem? (i := 9) rfl)))))))) hK hS (by omega) (by show _ ≤ 58; omega) (by show _ ≤ 369; omega) hz dX1_init_32 (fun H a7 hz hF hS => ?_)
  have a6 := a6.kept (hF _ (by omega))
  have a1 := a1.kept (hF _ (by omega))
  have a3 := a3.kept (hF _ (by omega))
  have a5 := a5.kept (hF _ (by omega))
  have hz : H.size = d + 5 := by omega
  refine lv_dup hx hb dX1_init_34 rfl ?_
  refine lv_iconst (v := nI 0) hx hb dX1_init_35 (by decide) ?_
  refine lv_bipush (v := nI 30) hx hb dX1_init_36 (by decide) ?_
  refine k_iast hx hb hK a7 (i := 0) (by omega) (by decide) hS (by constructor <;> omega) dX1_init_38 (fun H locs a8 zH hF hS => ?_)
  have a6 := a6.kept (hF _ (by omega))
  have a1 := a1.kept (hF _ (by omega))
  have a3 := a3.kept (hF _ (by omega))
  have a5 := a5.kept (hF _ (by omega))
  have hz : H.size = d + 5 := by omega
  refine lv_dup hx hb dX1_init_39 rfl ?_
  refine lv_iconst (v := nI 1) hx hb dX1_init_40 (by decide) ?_
  refine lv_bipush (v := nI 20) hx hb dX1_init_41 (by decide) ?_
  refine k_iast hx hb hK a8 (i := 1) (by omega) (by decide) hS (by constructor <;> omega) dX1_init_43 (fun H locs a9 zH hF hS => ?_)
  have a6 := a6.kept (hF _ (by omega))
  have a1 := a1.kept (hF _ (by omega))
  have a3 := a3.kept (hF _ (by omega))
  have a5 := a5.kept (hF _ (by omega))
  have hz : H.size = d + 5 := by omega
  refine lv_dup hx hb dX1_init_44 rfl ?_
  refine lv_iconst (v := nI 2) hx hb dX1_init_45 (by decide) ?_
  refine lv_bipush (v := nI 10) hx hb dX1_init_46 (by decide) ?_
  refine k_iast hx hb hK a9 (i := 2) (by omega) (by decide) hS (by constructor <;> omega) dX1_init_48 (fun H locs a10 zH hF hS => ?_)
  have a6 := a6.kept (hF _ (by omega))
  have a1 := a1.kept (hF _ (by omega))
  have a3 := a3.kept (hF _ (by omega))
  have a5 := a5.kept (hF _ (by omega))
  have hz : H.size = d + 5 := by omega
  refine lv_dup hx hb dX1_init_49 rfl ?_
  refine lv_iconst (v := nI 3) hx hb dX1_init_50 (by decide) ?_
  refine lv_iconst (v := nI 2) hx hb dX1_init_51 (by decide) ?_
  refine k_iast hx hb hK a10 (i := 3) (by omega) (by decide) hS (by constructor <;> omega) dX1_init_52 (fun H locs a11 zH hF hS => ?_)
  have a6 := a6.kept (hF _ (by omega))
  have a1 := a1.kept (hF _ (by omega))
  have a3 := a3.kept (hF _ (by omega))
  have a5 := a5.kept (hF _ (by omega))
  have hz : H.size = d + 5 := by omega
  refine lv_dup hx hb dX1_init_53 rfl ?_
  refine lv_iconst (v := nI 4) hx hb dX1_init_54 (by decide) ?_
  refine lv_iconst (v := nI 3) hx hb dX1_init_55 (by decide) ?_
  refine k_iast hx hb hK a11 (i := 4) (by omega) (by decide) hS (by constructor <;> omega) dX1_init_56 (fun H locs a12 zH hF hS => ?_)
  have a6 := a6.kept (hF _ (by omega))
  have a1 := a1.kept (hF _ (by omega))
  have a3 := a3.kept (hF _ (by omega))
  have a5 := a5.kept (hF _ (by omega))
  have hz : H.size = d + 5 := by omega
  refine k_putF S hK a6 rfl (fun _ h => List.mem_cons_of_mem _ (List.mem_append_left _ (List.mem_append_left _ (List.mem_append_left _ (List.mem_append_right _ (h)))))) tyX1_ok nmX1 3 (by decide) (List.mem_cons_of_mem _ (List.mem_append_left _ (List.mem_append_left _ (List.mem_append_left _ (List.mem_append_left _ (List.mem_append_left _ (List.mem_of_getElem? (i := 10) rfl))))))) rfl rfl rfl hin0 rfl rfl (by simp) hS (by constructor <;> omega) dX1_init_57 (fun H locs a13 zH hF hS => ?_)
  have a13 : va_at E.1 vwCl (d, .inr (1, [.ref (d + 1), .ref (d + 2), .ref (d + 3), .ref (d + 4), .int 0, .int 0, .int 0])) H := a13
  have a1 := a1.kept (hF _ (by omega))
  have a3 := a3.kept (hF _ (by omega))
  have a5 := a5.kept (hF _ (by omega))
  have a12 := a12.kept (hF _ (by omega))
  have hz : H.size = d + 5 := by omega
  refine lv_iconst (v := nI 0) hx hb dX1_init_60 (by decide) ?_
  refine lv_istore_n (lv' := [(1, .int (nI 0)), (0, .ref d)]) hx hb dX1_init_61 rfl hl (by decide) rfl (fun ls hl => ?_)
  exact k_cs (by omega) (by omega) (J62 (6 + 1) 0 (by omega) (by omega) _ _ (by omega) a13 (by have h8 := a1; rw [rfk_0 (f := fun i => d + i + 5)] at h8; exact h8) a3 a5 a12 (fun _ h8 => absurd h8 (by omega)) hS _ (lv_sub hl [1, 0] rfl))
