theorem addn0 (x : Int32) : x + nI 0 = x := by rw [nI_0, Int32.add_zero]
theorem z0n (x : Int32) : nI 0 + x = x := by rw [nI_0, Int32.zero_add]
/-! a unit is sent -/
theorem kw_sd {z : Nat → Int32} {u r : Nat} (h : iv z) (hu : u < cn z) (hr : 1 ≤ r ∧ r ≤ 4) (hz : z (13*u + 68) = 0) (k : jw z ∧ pw z) : jw (sdZ z u r) ∧ pw (sdZ z u r) := by
  have hp : pv z (up z u) < 4 := iv_pvl h (iv_upl h hu)
  generalize hP : pv z (up z u) = P at hp
  have eS : sdZ z u r = upd (upd (upd (upd (upd (upd z (13*u + 68) (nI r)) (13*u + 69) (z (13*u + 69) + x_1 r)) (13*u + 73) (brg z u r)) 2 (z 2 + x_2 r (brg z u r))) 3 (z 3 + x_4 r (brg z u r))) (8*P + 33) (z (8*P + 33) + x_4 r (brg z u r)) := by unfold sdZ sn5; rw [hP]
  rw [eS]
  have c68 : ∀ w : Nat → Int32, w = upd (upd (upd (upd (upd (upd z (13*u + 68) (nI r)) (13*u + 69) (z (13*u + 69) + x_1 r)) (13*u + 73) (brg z u r)) 2 (z 2 + x_2 r (brg z u r))) 3 (z 3 + x_4 r (brg z u r))) (8*P + 33) (z (8*P + 33) + x_4 r (brg z u r)) → w (13*u + 68) = nI r ∧ w (13*u + 73) = brg z u r ∧ w (13*u + 70) = z (13*u + 70) ∧ w (13*u + 72) = z (13*u + 72) ∧ w (13*u + 74) = z (13*u + 74) := fun w e => by
    subst e
    refine ⟨?_, ?_, ?_, ?_, ?_⟩
    · rw [upd_n (by omega), upd_n (by omega), upd_n (by omega), upd_n (by omega), upd_n (by omega), upd_s]
    · rw [upd_n (by omega), upd_n (by omega), upd_n (by omega), upd_s]
    · rw [upd_n (by omega), upd_n (by omega), upd_n (by omega), upd_n (by omega), upd_n (by omega), upd_n (by omega)]
    · rw [upd_n (by omega), upd_n (by omega), upd_n (by omega), upd_n (by omega), upd_n (by omega), upd_n (by omega)]
    · rw [upd_n (by omega), upd_n (by omega), upd_n (by omega), upd_n (by omega), upd_n (by omega), upd_n (by omega)]
  obtain ⟨d1, d2, d3, d4, d5⟩ := c68 _ rfl
  refine kw_1 (u := u) (dA := x_2 r (brg z u r)) (dW := nI 0) (dC := nI 0) (dV := x_4 r (brg z u r)) hu ?_ ?_ ?_ ?_ ?_ ?_ ?_ ?_ ?_ ?_ ?_ k
  · rw [upd_n (by omega), upd_n (by omega), upd_n (by omega), upd_n (by omega), upd_n (by omega), upd_n (by omega)]
  · rw [upd_n (by omega), upd_n (by omega), upd_s]
  · rw [upd_n (by omega), upd_s]
  · rw [upd_n (by omega), upd_n (by omega), upd_n (by omega), upd_n (by omega), upd_n (by omega), upd_n (by omega), addn0]
  · rw [upd_n (by omega), upd_n (by omega), upd_n (by omega), upd_n (by omega), upd_n (by omega), upd_n (by omega), addn0]
  · refine vm_d hp (Or.inr rfl) upd_s (fun w a hw ha ne => ?_)
    rw [upd_n (by omega), upd_n (by omega), upd_n (by omega), upd_n (by omega), upd_n (by omega), upd_n (by omega)]
  · intro i hi ne
    refine ⟨?_, ?_, ?_, ?_, ?_⟩ <;> rw [upd_n (by omega), upd_n (by omega), upd_n (by omega), upd_n (by omega), upd_n (by omega), upd_n (by omega)]
  · have t0 : tA9 z u = nI 0 := iF_f (by rw [hz]; decide)
    rw [t0, z0n]
    unfold tA9
    rw [d1, d2]
    rcases (by omega : r = 1 ∨ r = 2 ∨ r = 3 ∨ r = 4) with e | e | e | e <;> subst e
    · exact iF_f (by decide)
    · exact iF_t rfl
    · exact iF_f (by decide)
    · exact iF_f (by decide)
  · unfold tW9; rw [d5, addn0]
  · unfold tC9; rw [d3, addn0]
  · rw [d3, d4]; exact k.2 u hu
/-! a unit is repaired; days -/
theorem kw_re {z : Nat → Int32} {u : Nat} (hu : u < cn z) (hz : z (13*u + 68) = nI 1) (k : jw z ∧ pw z) : jw (rez z u) ∧ pw (rez z u) := by
  unfold rez sco
  have c68 : ∀ w : Nat → Int32, w = upd (upd (upd (upd (upd (upd (upd z (13*u + 64) (scr z u 0 (nI 1))) (13*u + 65) (scr z u 1 (nI 1))) (13*u + 66) (scr z u 2 (nI 1))) (13*u + 67) (scr z u 3 (nI 1))) (13*u + 74) (z (13*u + 74) + rpc z u)) (13*u + 68) (nI 0)) 4 (z 4 + rpc z u) → w (13*u + 68) = nI 0 ∧ w (13*u + 73) = z (13*u + 73) ∧ w (13*u + 70) = z (13*u + 70) ∧ w (13*u + 72) = z (13*u + 72) ∧ w (13*u + 74) = z (13*u + 74) + rpc z u := fun w e => by
    subst e
    refine ⟨?_, ?_, ?_, ?_, ?_⟩
    · rw [upd_n (by omega), upd_s]
    · rw [upd_n (by omega), upd_n (by omega), upd_n (by omega), upd_n (by omega), upd_n (by omega), upd_n (by omega), upd_n (by omega)]
    · rw [upd_n (by omega), upd_n (by omega), upd_n (by omega), upd_n (by omega), upd_n (by omega), upd_n (by omega), upd_n (by omega)]
    · rw [upd_n (by omega), upd_n (by omega), upd_n (by omega), upd_n (by omega), upd_n (by omega), upd_n (by omega), upd_n (by omega)]
    · rw [upd_n (by omega), upd_n (by omega), upd_s]
  obtain ⟨d1, d2, d3, d4, d5⟩ := c68 _ rfl
  refine kw_1 (u := u) (dA := nI 0) (dW := rpc z u) (dC := nI 0) (dV := nI 0) hu ?_ ?_ ?_ ?_ ?_ ?_ ?_ ?_ ?_ ?_ ?_ k
  · rw [upd_n (by omega), upd_n (by omega), upd_n (by omega), upd_n (by omega), upd_n (by omega), upd_n (by omega), upd_n (by omega)]
  · rw [upd_n (by omega), upd_n (by omega), upd_n (by omega), upd_n (by omega), upd_n (by omega), upd_n (by omega), upd_n (by omega), addn0]
  · rw [upd_n (by omega), upd_n (by omega), upd_n (by omega), upd_n (by omega), upd_n (by omega), upd_n (by omega), upd_n (by omega), addn0]
  · rw [upd_s]
  · rw [upd_n (by omega), upd_n (by omega), upd_n (by omega), upd_n (by omega), upd_n (by omega), upd_n (by omega), upd_n (by omega), addn0]
  · rw [addn0]
    refine vm_c (fun v hv => ⟨?_, ?_⟩) <;> rw [upd_n (by omega), upd_n (by omega), upd_n (by omega), upd_n (by omega), upd_n (by omega), upd_n (by omega), upd_n (by omega)]
  · intro i hi ne
    refine ⟨?_, ?_, ?_, ?_, ?_⟩ <;> rw [upd_n (by omega), upd_n (by omega), upd_n (by omega), upd_n (by omega), upd_n (by omega), upd_n (by omega), upd_n (by omega)]
  · have t0 : tA9 z u = nI 0 := iF_f (by rw [hz]; decide)
    rw [t0, addn0]
    unfold tA9
    rw [d1]
    exact iF_f (by decide)
  · unfold tW9; rw [d5]
  · unfold tC9; rw [d3, addn0]
  · rw [d3, d4]; exact k.2 u hu
theorem kw_dyI {z : Nat → Int32} (h : iv z) (k : jw z ∧ pw z) : ∀ n, jw (dyI z n).1 ∧ pw (dyI z n).1
  | 0 => k
  | n + 1 => by
    have a := kw_dyI h k n
    cases q : nw (dyI z n).1 (nI 0) (nI 0) (cn (dyI z n).1) with
    | none => rw [dyI_n q]; exact a
    | some j =>
      rw [dyI_s q]
      obtain ⟨q1, q2⟩ := nw_lt q
      exact kw_re q1 q2.1 a
theorem kw_dy {z : Nat → Int32} (h : iv z) (k : jw z ∧ pw z) : jw (dyZ z).1 ∧ pw (dyZ z).1 := kw_dyI (iv_dy0 h) (kw_u k (Or.inl rfl)) _
theorem kw_ps {z : Nat → Int32} (h : iv z) (k : jw z ∧ pw z) : ∀ n, jw (psI z n).1 ∧ pw (psI z n).1
  | 0 => k
  | n + 1 => kw_dy (psI_iv h n).1 (kw_ps h k n)
/-! claims -/
theorem kw_pay {z : Nat → Int32} {u : Nat} (h : iv z) (hu : u < cn z) (hw : ¬ z (13*u + 70) = -1) (k : jw z ∧ pw z) : jw (payZ z u) ∧ pw (payZ z u) := by
  have hb := iv_ubl h hu
  unfold payZ
  by_cases q : payP z u
  · rw [iF_t q]
    refine kw_1 (u := u) (dA := nI 0) (dW := nI 0) (dC := nI 0) (dV := z (13*u + 70)) hu ?_ ?_ ?_ ?_ ?_ ?_ ?_ ?_ ?_ ?_ ?_ k
    · rw [upd_n (by omega), upd_n (by omega), upd_n (by omega), upd_n (by omega)]
    · rw [upd_n (by omega), upd_n (by omega), upd_n (by omega), upd_n (by omega), addn0]
    · rw [upd_n (by omega), upd_s]
    · rw [upd_n (by omega), upd_n (by omega), upd_n (by omega), upd_n (by omega), addn0]
    · rw [upd_n (by omega), upd_n (by omega), upd_n (by omega), upd_n (by omega), addn0]
    · refine vm_d hb (Or.inl rfl) (by rw [upd_n (by omega), upd_n (by omega), upd_s]) (fun w a hw9 ha ne => ?_)
      rw [upd_n (by omega), upd_n (by omega), upd_n (by omega), upd_n (by omega)]
    · intro i hi ne
      refine ⟨?_, ?_, ?_, ?_, ?_⟩ <;> rw [upd_n (by omega), upd_n (by omega), upd_n (by omega), upd_n (by omega)]
    · unfold tA9; rw [upd_n (by omega), upd_n (by omega), upd_n (by omega), upd_n (by omega), upd_n (by omega), upd_n (by omega), upd_n (by omega), upd_n (by omega), addn0]
    · unfold tW9; rw [upd_n (by omega), upd_n (by omega), upd_n (by omega), upd_n (by omega), addn0]
    · unfold tC9; rw [upd_n (by omega), upd_n (by omega), upd_n (by omega), upd_n (by omega), addn0]
    · rw [upd_n (by omega), upd_n (by omega), upd_n (by omega), upd_n (by omega)]
      exact fun e => absurd e hw
  · rw [iF_f q]; exact k
theorem amt_n1 {z : Nat → Int32} {u : Nat} (h : iv z) (hu : u < cn z) : ¬ amt z u = -1 := by
  obtain ⟨a, h1, h2⟩ := amt_n h hu
  rw [h2]
  exact nI_nm1 (by omega)
theorem kw_cm {z : Nat → Int32} {u : Nat} (h : iv z) (hu : u < cn z) (hz : z (13*u + 70) = -1) (k : jw z ∧ pw z) : jw (cmZ z u) ∧ pw (cmZ z u) := by
  have hn := amt_n1 h hu
  have a70 : cm3 z u (13*u + 70) = amt z u := by unfold cm3; rw [upd_n (by omega), upd_n (by omega), upd_s]
  have c3 : jw (cm3 z u) ∧ pw (cm3 z u) := by
    refine kw_1 (u := u) (dA := nI 0) (dW := nI 0) (dC := nI 1) (dV := nI 0) hu ?_ ?_ ?_ ?_ ?_ ?_ ?_ ?_ ?_ ?_ ?_ k
    · unfold cm3; rw [upd_n (by omega), upd_n (by omega), upd_n (by omega)]
    · unfold cm3; rw [upd_n (by omega), upd_n (by omega), upd_n (by omega), addn0]
    · unfold cm3; rw [upd_n (by omega), upd_n (by omega), upd_n (by omega), addn0]
    · unfold cm3; rw [upd_n (by omega), upd_n (by omega), upd_n (by omega), addn0]
    · unfold cm3; rw [upd_s]
    · unfold cm3
      rw [addn0]
      refine vm_c (fun v hv => ⟨?_, ?_⟩) <;> rw [upd_n (by omega), upd_n (by omega), upd_n (by omega)]
    · intro i hi ne
      unfold cm3
      refine ⟨?_, ?_, ?_, ?_, ?_⟩ <;> rw [upd_n (by omega), upd_n (by omega), upd_n (by omega)]
    · unfold tA9 cm3; rw [upd_n (by omega), upd_n (by omega), upd_n (by omega), upd_n (by omega), upd_n (by omega), upd_n (by omega), addn0]
    · unfold tW9 cm3; rw [upd_n (by omega), upd_n (by omega), upd_n (by omega), addn0]
    · have t0 : tC9 z u = nI 0 := bI_f (fun q => q hz)
      rw [t0, z0n]
      unfold tC9
      rw [a70]
      exact bI_t hn
    · rw [a70]; exact fun e => absurd e hn
  exact kw_pay (iv_cm3 h hu) (by rw [cn_cm3]; exact hu) (by rw [a70]; exact hn) c3
theorem kw_clo : ∀ (f : Nat) {z : Nat → Int32} {d a : Int32}, iv z → jw z ∧ pw z → jw (clo f z d a).1 ∧ pw (clo f z d a).1
  | 0, _, _, _, _, k => k
  | f + 1, z, d, a, h, k => by
    cases q : nc z d (cn z) with
    | none => rw [clo_n q]; exact k
    | some j =>
      rw [clo_s q]
      obtain ⟨q1, q2⟩ := nc_lt q
      exact kw_clo f (payZ_iv h q1).1 (kw_pay h q1 q2.1.1 k)
theorem kw_cl {z : Nat → Int32} (h : iv z) (k : jw z ∧ pw z) : jw (cloZ z).1 ∧ pw (cloZ z).1 := by
  refine kw_clo 20 (iv_clz h) ?_
  unfold clz
  exact kw_u (kw_u (kw_u (kw_u (kw_u k (by omega)) (by omega)) (by omega)) (by omega)) (by omega)
/-! the start -/
theorem kw_0 : kw zI := by
  have c0 : cn zI = 0 := by decide
  refine ⟨⟨?_, ?_, ?_, ?_, ?_, ?_⟩, ⟨?_, ?_, ?_, ?_⟩, fun u hu => absurd hu (by rw [c0]; omega)⟩
  · exact ⟨by decide, by decide⟩
  · exact ⟨by decide, by decide⟩
  · exact ⟨by decide, by decide⟩
  · intro i hi
    rcases (by omega : i = 0 ∨ i = 1 ∨ i = 2 ∨ i = 3 ∨ i = 4 ∨ i = 5) with e | e | e | e | e | e <;> subst e <;> exact ⟨⟨by decide, by decide⟩, ⟨by decide, by decide⟩, ⟨by decide, by decide⟩⟩
  · exact fun v r hv hr => (by unfold rg; decide +kernel : ∀ v, v < 4 → ∀ r, r < 4 → rg (zI (8*v + r + 34)) 0 100) v hv r hr
  · exact fun u hu => absurd hu (by rw [c0]; omega)
  · rw [c0]; decide
  · decide
  · rw [c0]; decide
  · rw [c0]; decide
