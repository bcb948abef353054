/-! ===== the law: its rows, what holds at its loop ===== -/
def nb (o : Nat) : Nat → Prop := fun q => o ≤ q
theorem ow_ne {a n o w q : Nat} (hb : bl a n q) (hd : (a + n ≤ o ∨ o + 477 ≤ a) ∧ (a + n ≤ w ∨ w + 1 ≤ a)) : ¬ ow o w q := fun k => k.elim (bl_ne hb hd.1) (bl_ne hb hd.2)
section LW
variable {p : Program} {l : Launch} {e : Env} {R : Room} {s : State} {m : MethodId} {args : Array Value} {below : List Frame} {meth : Method} {c : Code} {H : Heap} {locs : List Loc} {cells slots : Nat} {Q : State → Prop}
variable {cc : ByteArray} {pc nL : Nat} {ls : Array Slot} {rest st0 : List Value} {E : ke_E} {Ts : List Cond} {own : String} {A : Nat → Prop} {H0 : Heap} {a : Nat}
theorem l_lcmp {x : Int64} (hexec : p.tables.exec = Jvm.exec) (hb : c.code = cc) (hdg : decode cc pc = .ok (.lcmp, 1))
    (k : W p l e R s m args below meth c H locs cells slots Q (F0 m (pc + 1) ls (.int (nI 0) :: rest))) : W p l e R s m args below meth c H locs cells slots Q (F0 m pc ls (.long x :: .long x :: rest)) := by
  intro T hT X
  obtain ⟨t, a, b⟩ := k T hT X
  refine ⟨t, ?_, b⟩
  rw [nI_0] at a
  have h1 : ¬ x > x := Int64.lt_irrefl
  jvm_step X.here [X.here.top, hexec, hb, hdg]
  first
    | exact a
    | (simp only [h1, if_false] at *; simpa using a)
    | (simp [h1] at a ⊢; exact a)
    | simpa [h1] using a
theorem l_rw {v v' : Value} (h : v = v') (k : W p l e R s m args below meth c H locs cells slots Q (F0 m pc ls (v' :: rest))) : W p l e R s m args below meth c H locs cells slots Q (F0 m pc ls (v :: rest)) := h ▸ k
theorem l_lald {x : Int64} (hx : p.tables.exec = Jvm.exec) (hb : c.code = cc) (hK : ke E s) (hat : la E a x H) (hdg : decode cc pc = .ok (.laload, 1))
    (kk : W p l e R s m args below meth c H locs cells slots Q (F0 m (pc + 1) ls (.long x :: rest))) : W p l e R s m args below meth c H locs cells slots Q (F0 m pc ls (.int (nI 0) :: .ref a :: rest)) :=
  va_lald hx hb hK.1 (k_one hat) 0 5 rfl rfl (vp_in_nI (by decide) (by decide)) hdg kk
variable {y : MethodName} {bytes : ByteArray} {maxL index n mc ms : Nat} {ret : Option FieldType} {ws ws' : List Cond} {rm : Room} {C : String} {As : List Value} {Pic Pc : Heap → Prop} {v : Option Value} {A1 free : Nat → Prop} {hh : List (Nat × Nat × Nat × Nat)}
theorem l_SW (S : CallFix p m c cc nL s args Ts own) (hK : ke E s) (hX : kxs s) (hXh : kxh A s s.heap) (hM : Met l y ws rm (kpx E A As Pic) (qm v A1 Pc) mc ms free) (hG : GoodIn Ts (va_wsS own index y ws)) (hw : ws = Cond.codeWith y bytes maxL ret hh :: ws') (hd : k_hd1 y C n) (hrm : rm.cells = mc ∧ rm.slots = ms) (hR : rm.frames + 1 ≤ R.frames ∧ 8 + (maxL + 11) + rm.locals ≤ R.locals)
    (hPic : Pic H) (hlen : As.length = n) (hsz : ls.size = nL) (hst : st0 = As.reverse ++ rest) (hW : (rest.map fun v => v.category).sum ≤ 8) (hdg : decode cc pc = .ok (.invokestatic index, 3)) (hcs : cells + mc ≤ R.cells ∧ slots + ms ≤ R.slots)
    (hS : va_S A s.heap H locs) (hA : ∀ q, A1 q → A q) (hf : ∀ q, free q → A q)
    (kk : ∀ (H1 : Heap) (locs1 : List Loc), Pc H1 → H.size ≤ H1.size → (∀ q : Nat, q < H.size → ¬ A1 q → H1[q]? = H[q]?) → va_S A s.heap H1 locs1 → W p l e R s m args below meth c H1 locs1 (cells + mc) (slots + ms) Q (F0 m (pc + 3) ls (v.toList ++ rest))) : W p l e R s m args below meth c H locs cells slots Q (F0 m pc ls st0) :=
  k_callM (vx_runSW (As := As) (rest := rest) S hM (vx_cwSW n S.2.2.2.2 hG hw hrm.1 hrm.2 hd.2 hR) ⟨kpx_blind, fun U hU hW => ⟨rfl, ke_warm hW hK, ⟨kxs_warm hW hX, kxh_warm hW.alike (by rw [hU]; exact kxh_kept hXh hS.2.1)⟩, by rw [hU]; exact hPic⟩⟩ rfl hlen hsz hst (lv_room hW) hdg hcs) hS (fun q _ h => hA q h) hf kk
end LW
def PI9 (z : Nat → Int32) (w : md_w) (sn bn : Nat) : Prop := q_sm w = nI sn ∧ sn ≤ 6 ∧ q_bm w = nI bn ∧ bn ≤ 60 ∧ kw z ∧ ∀ k, k < sn → kw (fun j => q_rows w (322*k + j))
def LI9 (E : ke_E) (o : Nat) (z : Nat → Int32) (w : md_w) (sn bn : Nat) (H : Heap) : Prop := gg E o H ∧ dz E (o + 1) z H ∧ tr E (o + 60) H ∧ hy E (o + 119) sn (q_rows w) H ∧ bo E (o + 475) bn (auE (au (q_buf w) bn)) (auS (au (q_buf w) bn)) (q_buf w) H ∧ md E (o + 477) z w H ∧ ∃ x, la E (o + 483) x H
theorem LI_mk {E : ke_E} {o : Nat} {z : Nat → Int32} {w : md_w} {sn bn : Nat} {H : Heap} {x : Int64} (h1 : gg E o H) (h2 : dz E (o + 1) z H) (h3 : tr E (o + 60) H) (h4 : hy E (o + 119) sn (q_rows w) H) (h5 : bo E (o + 475) bn (auE (au (q_buf w) bn)) (auS (au (q_buf w) bn)) (q_buf w) H) (h6 : md E (o + 477) z w H) (h7 : la E (o + 483) x H) : LI9 E o z w sn bn H := ⟨h1, h2, h3, h4, h5, h6, x, h7⟩
def LC9 (p : Program) (l : Launch) (s : State) (m : MethodId) (c : Code) (E : ke_E) (b o L : Nat) (xs : Nat → Int32) : Prop := CallFix p m c cL_law 9 s #[.ref b] lw_tbl RL ∧ l.stackTraces = false ∧ ke E s ∧ kxs s ∧ kxh (nb o) s s.heap ∧ va_X b L xs s s.heap ∧ b < o ∧ s.heap.size = o ∧ L ≤ 2048
def LT9 (p : Program) (l : Launch) (e : Env) (s : State) (m : MethodId) (below : List Frame) (meth : Method) (c : Code) (E : ke_E) (b o j : Nat) (Q : State → Prop) : Prop := ∀ (z : Nat → Int32) (w : md_w) (sn bn : Nat) (H : Heap) (locs : List Loc) (ls : Array Slot), PI9 z w sn bn → LI9 E o z w sn bn H → va_S (nb o) s.heap H locs → lv_has ls 9 [(0, .ref b), (1, .ref o), (2, .ref (o + 477)), (3, .ref (o + 483)), (4, .int (nI (4*j)))] →
  W p l e room_1 s m #[.ref b] below meth c H locs (484 + (j + 1)) (5828 + 6*(j + 1)) Q (F0 m 1824 ls [])
theorem kw_cg {z z' : Nat → Int32} (h : kw z) (e : ∀ j, j < 322 → z' j = z j) : kw z' := by
  have c := iv_c h.1
  refine ⟨iv_ag h.1 (fun p hp _ _ _ _ => e p (by omega)), kw_rl (z := z) ⟨e 0 (by omega), e 2 (by omega), e 3 (by omega), e 4 (by omega), e 6 (by omega), fun v hv => ⟨e _ (by omega), e _ (by omega)⟩, fun u hu => ⟨e _ (by omega), e _ (by omega), e _ (by omega), e _ (by omega), e _ (by omega)⟩⟩ h.2⟩
theorem PI_sv {z z' : Nat → Int32} {w w' : md_w} {sn bn bn' : Nat} (h : PI9 z w sn bn) (hz : kw z') (h1 : q_sm w' = nI (svN sn)) (h2 : q_rows w' = svR (q_rows w) z sn) (h3 : q_bm w' = nI bn') (hb : bn' ≤ 60) : PI9 z' w' (svN sn) bn' := by
  obtain ⟨a1, a2, a3, a4, a5, a6⟩ := h
  refine ⟨h1, ?_, h3, hb, hz, ?_⟩
  · by_cases c : sn = 6
    · rw [show svN sn = 6 from iF_t c]; exact Nat.le_refl _
    · rw [show svN sn = sn + 1 from iF_f c]; omega
  · intro k hk
    rw [h2]
    by_cases c : sn = 6
    · rw [show svN sn = 6 from iF_t c] at hk
      rw [show svR (q_rows w) z sn = puI (shI (q_rows w) 1610) z 5 322 from iF_t c]
      by_cases e : k = 5
      · refine kw_cg a5 (fun j hj => ?_)
        show puI (shI (q_rows w) 1610) z 5 322 (322*k + j) = z j
        unfold puI
        rw [if_pos (by omega), show 322*k + j - 322*5 = j by omega]
      · refine kw_cg (a6 (k + 1) (by omega)) (fun j hj => ?_)
        show puI (shI (q_rows w) 1610) z 5 322 (322*k + j) = q_rows w (322*(k + 1) + j)
        unfold puI shI
        rw [if_neg (by omega), if_pos (by omega), show 322*(k + 1) + j = 322*k + j + 322 by omega]
    · rw [show svN sn = sn + 1 from iF_f c] at hk
      rw [show svR (q_rows w) z sn = puI (q_rows w) z sn 322 from iF_f c]
      by_cases e : k = sn
      · refine kw_cg a5 (fun j hj => ?_)
        show puI (q_rows w) z sn 322 (322*k + j) = z j
        unfold puI
        rw [if_pos (by omega), show 322*k + j - 322*sn = j by subst e; omega]
      · refine kw_cg (a6 k (by omega)) (fun j hj => ?_)
        show puI (q_rows w) z sn 322 (322*k + j) = q_rows w (322*k + j)
        unfold puI
        rw [if_neg (by omega)]
/-- the place of the first error, told by both -/
theorem fe_eq {f : Nat → Int32} {n : Nat} {rd : Nat → Int32} (hn : n ≤ 60) : nI (arT f n rd (arK f n rd)).1 = iF (auE (au f n) = -1) (nI n) (auE (au f n)) := by
  rcases ar_err (b := f) (rd := rd) hn with ⟨s, h1, h2, _⟩ | ⟨h1, _⟩
  · rw [h1, h2]
    exact (iF_t rfl).symm
  · have hl := au_e _ _ h1
    rw [h1]
    exact (iF_f (nI_nm1 (by omega))).symm
theorem md_fr2 {E : ke_E} {o : Nat} {z : Nat → Int32} {w : md_w} {H H1 : Heap} (h : md E o z w H) (hq : ∀ q : Nat, q < H.size → bl o 6 q → H1[q]? = H[q]?) : md E o z w H1 := by
  have hl : o + 5 < H.size := h.2.2.2.2.2.lt
  exact md_fr h (fun q k => hq q (by have := k.2; omega) k)
theorem rng_n {a b : Nat} {x : Int32} (hb : b < 2 ^ 31 - 1) (h : nI a ≤ x ∧ x ≤ nI b) (ha : a < 2 ^ 31) : ∃ r, a ≤ r ∧ r ≤ b ∧ x = nI r := by
  have h1 := Int32.le_iff_toInt_le.mp h.1
  have h2 := Int32.le_iff_toInt_le.mp h.2
  rw [nI_toInt (by omega)] at h1 h2
  refine ⟨x.toInt.toNat, by omega, by omega, ?_⟩
  apply Int32.toInt_inj.mp
  rw [nI_toInt (by omega)]
  omega
theorem wy1_p {z : Nat → Int32} {u : Nat} (h : wy1 z u = 0) : z (13*u + 68) = 0 := Classical.byContradiction fun q => by
  unfold wy1 at h
  rw [iF_t q] at h
  exact absurd h (by decide)
theorem wy2_p {z : Nat → Int32} {u : Nat} (h : wy2 z u = 0) : z (13*u + 68) = 0 := Classical.byContradiction fun q => by
  unfold wy2 at h
  rw [iF_t q] at h
  exact absurd h (by decide)
theorem wy3_p {z : Nat → Int32} {u : Nat} (h : wy3 z u = 0) : z (13*u + 68) = 0 := Classical.byContradiction fun q => by
  unfold wy3 at h
  rw [iF_t q] at h
  exact absurd h (by decide)
theorem wy4_p {z : Nat → Int32} {u : Nat} (h : wy4 z u = 0) : z (13*u + 68) = 0 := Classical.byContradiction fun q => by
  unfold wy4 at h
  rw [iF_t q] at h
  exact absurd h (by decide)
theorem cp_iff {f : Nat → Int32} {n : Nat} {rd : Nat → Int32} (hn : n ≤ 60) : (au f n = .inl 4 ∨ au f n = .inl 9) ↔ arG f n rd := by
  rcases ar_err (b := f) (rd := rd) hn with ⟨s, h1, _, h3⟩ | ⟨h1, h2⟩
  · rw [h1, h3]
    constructor
    · intro q
      rcases q with q | q <;> cases q
      · exact Or.inl rfl
      · exact Or.inr rfl
    · intro q
      rcases q with q | q <;> subst q
      · exact Or.inl rfl
      · exact Or.inr rfl
  · rw [h1]
    exact ⟨fun q => (by rcases q with q | q <;> cases q), fun q => absurd q h2⟩
theorem cp_ex {f : Nat → Int32} {n : Nat} {rd : Nat → Int32} (hn : n ≤ 60) (h : arG f n rd) : ∃ ee, au f n = .inl ee ∧ (ee = 4 ∨ ee = 9) := by
  rcases (cp_iff hn).mpr h with q | q
  · exact ⟨4, q, Or.inl rfl⟩
  · exact ⟨9, q, Or.inr rfl⟩
theorem un_dz {E : ke_E} {d k : Nat} {z r : Nat → Int32} {H : Heap} (hI : iv (fun j => r (322*k + j))) (h : dz E d (fun j => r (322*k + j)) H) : dz E d (unZ z r k) H := by
  have c := iv_c hI
  refine dz_z h (fun p hp _ _ _ _ => ?_)
  show r (322*k + p) = unZ z r k p
  unfold unZ asI
  rw [if_pos (by omega)]
