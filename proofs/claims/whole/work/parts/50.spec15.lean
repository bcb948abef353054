/-! ===== the sums that the reference keeps agree with the units ===== -/
def sm9 (f : Nat → Int32) : Nat → Int32
  | 0 => nI 0
  | i + 1 => sm9 f i + f i
theorem sm_c {f g : Nat → Int32} : ∀ n, (∀ i, i < n → g i = f i) → sm9 g n = sm9 f n
  | 0, _ => rfl
  | n + 1, h => by
    show sm9 g n + g n = sm9 f n + f n
    rw [sm_c n (fun i hi => h i (by omega)), h n (by omega)]
theorem sm_1 {f g : Nat → Int32} {u : Nat} {d : Int32} (hu : g u = f u + d) : ∀ n, u < n → (∀ i, i < n → i ≠ u → g i = f i) → sm9 g n = sm9 f n + d
  | 0, h, _ => absurd h (by omega)
  | n + 1, h, k => by
    show sm9 g n + g n = sm9 f n + f n + d
    by_cases e : u = n
    · subst e
      rw [sm_c u (fun i hi => k i (by omega) (by omega)), hu, Int32.add_assoc]
    · rw [sm_1 hu n (by omega) (fun i hi ne => k i (by omega) ne), k n (by omega) (fun q => e q.symm), Int32.add_assoc, Int32.add_assoc, Int32.add_comm d]
noncomputable def tA9 (z : Nat → Int32) (i : Nat) : Int32 := iF (z (13*i + 68) = nI 2) (z (13*i + 73)) (nI 0)
def tW9 (z : Nat → Int32) (i : Nat) : Int32 := z (13*i + 74)
noncomputable def tC9 (z : Nat → Int32) (i : Nat) : Int32 := bI (¬ z (13*i + 70) = -1)
theorem saN_s {z : Nat → Int32} : ∀ n, saN z n = sm9 (tA9 z) n
  | 0 => rfl
  | n + 1 => by show saN z n + _ = sm9 (tA9 z) n + _; rw [saN_s n]; rfl
theorem wcN_s {z : Nat → Int32} : ∀ n, wcN z n = sm9 (tW9 z) n
  | 0 => rfl
  | n + 1 => by show wcN z n + _ = sm9 (tW9 z) n + _; rw [wcN_s n]; rfl
theorem cmN_s {z : Nat → Int32} : ∀ n, cmN z n = sm9 (tC9 z) n
  | 0 => rfl
  | n + 1 => by show cmN z n + _ = sm9 (tC9 z) n + _; rw [cmN_s n]; rfl
/-- .. and a claim that isn't made isn't paid -/
def pw (z : Nat → Int32) : Prop := ∀ u, u < cn z → z (13*u + 70) = -1 → z (13*u + 72) = 0
def kw (z : Nat → Int32) : Prop := iv z ∧ jw z ∧ pw z
/-- nothing of the sums is changed -/
def rl (z z' : Nat → Int32) : Prop := z' 0 = z 0 ∧ z' 2 = z 2 ∧ z' 3 = z 3 ∧ z' 4 = z 4 ∧ z' 6 = z 6 ∧ (∀ v, v < 4 → z' (8*v + 32) = z (8*v + 32) ∧ z' (8*v + 33) = z (8*v + 33)) ∧ ∀ u, u < cn z → z' (13*u + 68) = z (13*u + 68) ∧ z' (13*u + 70) = z (13*u + 70) ∧ z' (13*u + 72) = z (13*u + 72) ∧ z' (13*u + 73) = z (13*u + 73) ∧ z' (13*u + 74) = z (13*u + 74)
theorem rl_cn {z z' : Nat → Int32} (h : rl z z') : cn z' = cn z := by unfold cn; rw [h.1]
theorem rl_tr {a b c : Nat → Int32} (h : rl a b) (k : rl b c) : rl a c := by
  have e := rl_cn h
  obtain ⟨h0, h2, h3, h4, h6, hv, hu⟩ := h
  obtain ⟨k0, k2, k3, k4, k6, kv, ku⟩ := k
  refine ⟨k0.trans h0, k2.trans h2, k3.trans h3, k4.trans h4, k6.trans h6, fun v q => ⟨(kv v q).1.trans (hv v q).1, (kv v q).2.trans (hv v q).2⟩, fun u q => ?_⟩
  obtain ⟨a1, a2, a3, a4, a5⟩ := hu u q
  obtain ⟨b1, b2, b3, b4, b5⟩ := ku u (by rw [e]; exact q)
  exact ⟨b1.trans a1, b2.trans a2, b3.trans a3, b4.trans a4, b5.trans a5⟩
theorem rl_u {z : Nat → Int32} {p : Nat} {x : Int32} (h : p = 1 ∨ p = 5 ∨ (7 ≤ p ∧ p < 32) ∨ (34 ≤ p ∧ p < 40) ∨ (42 ≤ p ∧ p < 48) ∨ (50 ≤ p ∧ p < 56) ∨ (58 ≤ p ∧ p < 68) ∨ ∃ u, p = 13*u + 62 ∨ p = 13*u + 63 ∨ p = 13*u + 64 ∨ p = 13*u + 65 ∨ p = 13*u + 66 ∨ p = 13*u + 67 ∨ p = 13*u + 69 ∨ p = 13*u + 71) : rl z (upd z p x) := by
  refine ⟨upd_n ?_, upd_n ?_, upd_n ?_, upd_n ?_, upd_n ?_, fun v hv => ⟨upd_n ?_, upd_n ?_⟩, fun u hu => ⟨upd_n ?_, upd_n ?_, upd_n ?_, upd_n ?_, upd_n ?_⟩⟩ <;> (rcases h with h | h | h | h | h | h | h | ⟨w, h⟩ <;> omega)
theorem vm_c {z z' : Nat → Int32} (hv : ∀ v, v < 4 → z' (8*v + 32) = z (8*v + 32) ∧ z' (8*v + 33) = z (8*v + 33)) : vmZ z' = vmZ z := by
  unfold vmZ
  rw [(hv 0 (by omega)).1, (hv 0 (by omega)).2, (hv 1 (by omega)).1, (hv 1 (by omega)).2, (hv 2 (by omega)).1, (hv 2 (by omega)).2, (hv 3 (by omega)).1, (hv 3 (by omega)).2]
theorem kw_rl {z z' : Nat → Int32} (h : rl z z') (k : jw z ∧ pw z) : jw z' ∧ pw z' := by
  have e := rl_cn h
  obtain ⟨h0, h2, h3, h4, h6, hv, hu⟩ := h
  obtain ⟨⟨k2, k3, k4, k6⟩, kp⟩ := k
  refine ⟨⟨?_, ?_, ?_, ?_⟩, fun u hu9 q => ?_⟩
  · rw [h2, k2, e, saN_s, saN_s]
    exact (sm_c _ (fun i hi => by unfold tA9; rw [(hu i hi).1, (hu i hi).2.2.2.1])).symm
  · rw [h3, k3]; exact (vm_c hv).symm
  · rw [h4, k4, e, wcN_s, wcN_s]
    exact (sm_c _ (fun i hi => by unfold tW9; rw [(hu i hi).2.2.2.2])).symm
  · rw [h6, k6, e, cmN_s, cmN_s]
    exact (sm_c _ (fun i hi => by unfold tC9; rw [(hu i hi).2.1])).symm
  · rw [e] at hu9
    obtain ⟨_, a2, a3, _, _⟩ := hu u hu9
    rw [a3]
    exact kp u hu9 (by rw [← a2]; exact q)
theorem kw_u {z : Nat → Int32} {p : Nat} {x : Int32} (k : jw z ∧ pw z) (h : p = 1 ∨ p = 5 ∨ (7 ≤ p ∧ p < 32) ∨ (34 ≤ p ∧ p < 40) ∨ (42 ≤ p ∧ p < 48) ∨ (50 ≤ p ∧ p < 56) ∨ (58 ≤ p ∧ p < 68) ∨ ∃ u, p = 13*u + 62 ∨ p = 13*u + 63 ∨ p = 13*u + 64 ∨ p = 13*u + 65 ∨ p = 13*u + 66 ∨ p = 13*u + 67 ∨ p = 13*u + 69 ∨ p = 13*u + 71) : jw (upd z p x) ∧ pw (upd z p x) := kw_rl (rl_u h) k
/-! the changes, one by one -/
theorem kw_pd {z : Nat → Int32} {q v : Nat} {y : Int32} (hq : q < 6) (k : jw z ∧ pw z) : jw (pdZ z q y v) ∧ pw (pdZ z q y v) := kw_u (kw_u k (by omega)) (by omega)
theorem kw_rc {z : Nat → Int32} {q b : Nat} (hq : q < 6) (k : jw z ∧ pw z) : jw (rcZ z q b) ∧ pw (rcZ z q b) := kw_u k (by omega)
theorem kw_ag {z : Nat → Int32} {v r : Nat} {y : Int32} (hv : v < 4) (hr : r < 4) (k : jw z ∧ pw z) : jw (agZ z v r y) ∧ pw (agZ z v r y) := by
  refine kw_u k ?_
  rcases (by omega : v = 0 ∨ v = 1 ∨ v = 2 ∨ v = 3) with e | e | e | e <;> subst e <;> omega
theorem kw_li {z : Nat → Int32} {v : Nat} {y : Int32} (hv : v < 4) (k : jw z ∧ pw z) : jw (liZ z v y) ∧ pw (liZ z v y) := by
  refine kw_u k ?_
  rcases (by omega : v = 0 ∨ v = 1 ∨ v = 2 ∨ v = 3) with e | e | e | e <;> subst e <;> omega
theorem kw_se {z : Nat → Int32} {j : Nat} {y : Int32} (hj : j < 5) (k : jw z ∧ pw z) : jw (seZ z j y) ∧ pw (seZ z j y) := kw_u k (by omega)
theorem kw_te {z : Nat → Int32} {u t : Nat} {y : Int32} (ht : t < 4) (k : jw z ∧ pw z) : jw (teZ z u t y) ∧ pw (teZ z u t y) := kw_u k (Or.inr (Or.inr (Or.inr (Or.inr (Or.inr (Or.inr (Or.inr ⟨u, by omega⟩)))))))
theorem kw_sc {z : Nat → Int32} {u c : Nat} {y : Int32} (ht : 64 ≤ c ∧ c ≤ 67) (k : jw z ∧ pw z) : jw (upd z (13*u + c) y) ∧ pw (upd z (13*u + c) y) := kw_u k (Or.inr (Or.inr (Or.inr (Or.inr (Or.inr (Or.inr (Or.inr ⟨u, by omega⟩)))))))
theorem kw_rcv {z : Nat → Int32} {q r : Nat} (hc : cn z < 20) (k : jw z ∧ pw z) : jw (rcv z q r) ∧ pw (rcv z q r) := by
  have e := cn_rcv (q := q) (r := r) hc
  obtain ⟨⟨k2, k3, k4, k6⟩, kp⟩ := k
  have lo : ∀ j, j ≠ 0 → j < 13*cn z + 62 → rcv z q r j = z j := fun j h0 hj => rcv_lo h0 hj
  have n0 : ∀ x : Int32, x + nI 0 = x := fun x => by rw [nI_0, Int32.add_zero]
  have h68 : rcv z q r (13*cn z + 68) = nI 0 := rcv_68
  have h70 : rcv z q r (13*cn z + 70) = -1 := (rcv_hi (by omega)).trans (by simp)
  have h72 : rcv z q r (13*cn z + 72) = nI 0 := (rcv_hi (by omega)).trans (by simp)
  have h74 : rcv z q r (13*cn z + 74) = nI 0 := (rcv_hi (by omega)).trans (by simp)
  refine ⟨⟨?_, ?_, ?_, ?_⟩, fun u hu9 q9 => ?_⟩
  · rw [lo 2 (by omega) (by omega), k2, e, saN_s, saN_s]
    show _ = sm9 (tA9 (rcv z q r)) (cn z) + tA9 (rcv z q r) (cn z)
    rw [show tA9 (rcv z q r) (cn z) = nI 0 from iF_f (by rw [h68]; decide), n0]
    exact (sm_c _ (fun i hi => by unfold tA9; rw [lo _ (by omega) (by omega), lo _ (by omega) (by omega)])).symm
  · rw [lo 3 (by omega) (by omega), k3]
    exact (vm_c (fun v hv => ⟨lo _ (by omega) (by omega), lo _ (by omega) (by omega)⟩)).symm
  · rw [lo 4 (by omega) (by omega), k4, e, wcN_s, wcN_s]
    show _ = sm9 (tW9 (rcv z q r)) (cn z) + tW9 (rcv z q r) (cn z)
    rw [show tW9 (rcv z q r) (cn z) = nI 0 from h74, n0]
    exact (sm_c _ (fun i hi => by unfold tW9; rw [lo _ (by omega) (by omega)])).symm
  · rw [lo 6 (by omega) (by omega), k6, e, cmN_s, cmN_s]
    show _ = sm9 (tC9 (rcv z q r)) (cn z) + tC9 (rcv z q r) (cn z)
    rw [show tC9 (rcv z q r) (cn z) = nI 0 from bI_f (fun q => q h70), n0]
    exact (sm_c _ (fun i hi => by unfold tC9; rw [lo _ (by omega) (by omega)])).symm
  · rw [e] at hu9
    by_cases c : u = cn z
    · rw [c]; exact h72
    · rw [lo _ (by omega) (by omega)] at q9 ⊢
      exact kp u (by omega) q9
theorem kw_rs4 {z : Nat → Int32} {q r : Nat} {f : Nat → Int32} (hc : cn z < 20) (k : jw z ∧ pw z) : jw (rs4 z q r f) ∧ pw (rs4 z q r f) := kw_sc (by omega) (kw_sc (by omega) (kw_sc (by omega) (kw_sc (by omega) (kw_rcv hc k))))
theorem kw_ra {b : Nat → Int32} {n : Nat} {rd z : Nat → Int32} (k : jw z ∧ pw z) : ∀ j, cn z + j ≤ 20 → jw (raZ b n rd z j) ∧ pw (raZ b n rd z j)
  | 0, _ => k
  | j + 1, h => kw_rs4 (by rw [cn_raZ j (by omega)]; omega) (kw_ra k j (by omega))
theorem vm_d {z z' : Nat → Int32} {v c : Nat} {d : Int32} (hv : v < 4) (hc : c = 32 ∨ c = 33) (h : z' (8*v + c) = z (8*v + c) + d) (k : ∀ w a, w < 4 → (a = 32 ∨ a = 33) → ¬ (w = v ∧ a = c) → z' (8*w + a) = z (8*w + a)) : vmZ z' = vmZ z + d := by
  unfold vmZ
  rcases hc with rfl | rfl
  · rcases (by omega : v = 0 ∨ v = 1 ∨ v = 2 ∨ v = 3) with rfl | rfl | rfl | rfl
    · rw [show z' 32 = z 32 + d from h, show z' 33 = z 33 from k 0 33 (by omega) (Or.inr rfl) (by omega), show z' 40 = z 40 from k 1 32 (by omega) (Or.inl rfl) (by omega), show z' 41 = z 41 from k 1 33 (by omega) (Or.inr rfl) (by omega), show z' 48 = z 48 from k 2 32 (by omega) (Or.inl rfl) (by omega), show z' 49 = z 49 from k 2 33 (by omega) (Or.inr rfl) (by omega), show z' 56 = z 56 from k 3 32 (by omega) (Or.inl rfl) (by omega), show z' 57 = z 57 from k 3 33 (by omega) (Or.inr rfl) (by omega)]
      ac_rfl
    · rw [show z' 40 = z 40 + d from h, show z' 33 = z 33 from k 0 33 (by omega) (Or.inr rfl) (by omega), show z' 32 = z 32 from k 0 32 (by omega) (Or.inl rfl) (by omega), show z' 41 = z 41 from k 1 33 (by omega) (Or.inr rfl) (by omega), show z' 48 = z 48 from k 2 32 (by omega) (Or.inl rfl) (by omega), show z' 49 = z 49 from k 2 33 (by omega) (Or.inr rfl) (by omega), show z' 56 = z 56 from k 3 32 (by omega) (Or.inl rfl) (by omega), show z' 57 = z 57 from k 3 33 (by omega) (Or.inr rfl) (by omega)]
      ac_rfl
    · rw [show z' 48 = z 48 + d from h, show z' 33 = z 33 from k 0 33 (by omega) (Or.inr rfl) (by omega), show z' 40 = z 40 from k 1 32 (by omega) (Or.inl rfl) (by omega), show z' 41 = z 41 from k 1 33 (by omega) (Or.inr rfl) (by omega), show z' 32 = z 32 from k 0 32 (by omega) (Or.inl rfl) (by omega), show z' 49 = z 49 from k 2 33 (by omega) (Or.inr rfl) (by omega), show z' 56 = z 56 from k 3 32 (by omega) (Or.inl rfl) (by omega), show z' 57 = z 57 from k 3 33 (by omega) (Or.inr rfl) (by omega)]
      ac_rfl
    · rw [show z' 56 = z 56 + d from h, show z' 33 = z 33 from k 0 33 (by omega) (Or.inr rfl) (by omega), show z' 40 = z 40 from k 1 32 (by omega) (Or.inl rfl) (by omega), show z' 41 = z 41 from k 1 33 (by omega) (Or.inr rfl) (by omega), show z' 48 = z 48 from k 2 32 (by omega) (Or.inl rfl) (by omega), show z' 49 = z 49 from k 2 33 (by omega) (Or.inr rfl) (by omega), show z' 32 = z 32 from k 0 32 (by omega) (Or.inl rfl) (by omega), show z' 57 = z 57 from k 3 33 (by omega) (Or.inr rfl) (by omega)]
      ac_rfl
  · rcases (by omega : v = 0 ∨ v = 1 ∨ v = 2 ∨ v = 3) with rfl | rfl | rfl | rfl
    · rw [show z' 33 = z 33 + d from h, show z' 32 = z 32 from k 0 32 (by omega) (Or.inl rfl) (by omega), show z' 40 = z 40 from k 1 32 (by omega) (Or.inl rfl) (by omega), show z' 41 = z 41 from k 1 33 (by omega) (Or.inr rfl) (by omega), show z' 48 = z 48 from k 2 32 (by omega) (Or.inl rfl) (by omega), show z' 49 = z 49 from k 2 33 (by omega) (Or.inr rfl) (by omega), show z' 56 = z 56 from k 3 32 (by omega) (Or.inl rfl) (by omega), show z' 57 = z 57 from k 3 33 (by omega) (Or.inr rfl) (by omega)]
      ac_rfl
    · rw [show z' 41 = z 41 + d from h, show z' 33 = z 33 from k 0 33 (by omega) (Or.inr rfl) (by omega), show z' 40 = z 40 from k 1 32 (by omega) (Or.inl rfl) (by omega), show z' 32 = z 32 from k 0 32 (by omega) (Or.inl rfl) (by omega), show z' 48 = z 48 from k 2 32 (by omega) (Or.inl rfl) (by omega), show z' 49 = z 49 from k 2 33 (by omega) (Or.inr rfl) (by omega), show z' 56 = z 56 from k 3 32 (by omega) (Or.inl rfl) (by omega), show z' 57 = z 57 from k 3 33 (by omega) (Or.inr rfl) (by omega)]
      ac_rfl
    · rw [show z' 49 = z 49 + d from h, show z' 33 = z 33 from k 0 33 (by omega) (Or.inr rfl) (by omega), show z' 40 = z 40 from k 1 32 (by omega) (Or.inl rfl) (by omega), show z' 41 = z 41 from k 1 33 (by omega) (Or.inr rfl) (by omega), show z' 48 = z 48 from k 2 32 (by omega) (Or.inl rfl) (by omega), show z' 32 = z 32 from k 0 32 (by omega) (Or.inl rfl) (by omega), show z' 56 = z 56 from k 3 32 (by omega) (Or.inl rfl) (by omega), show z' 57 = z 57 from k 3 33 (by omega) (Or.inr rfl) (by omega)]
      ac_rfl
    · rw [show z' 57 = z 57 + d from h, show z' 33 = z 33 from k 0 33 (by omega) (Or.inr rfl) (by omega), show z' 40 = z 40 from k 1 32 (by omega) (Or.inl rfl) (by omega), show z' 41 = z 41 from k 1 33 (by omega) (Or.inr rfl) (by omega), show z' 48 = z 48 from k 2 32 (by omega) (Or.inl rfl) (by omega), show z' 49 = z 49 from k 2 33 (by omega) (Or.inr rfl) (by omega), show z' 56 = z 56 from k 3 32 (by omega) (Or.inl rfl) (by omega), show z' 32 = z 32 from k 0 32 (by omega) (Or.inl rfl) (by omega)]
      ac_rfl
/-- one unit changed: what the sums become -/
theorem kw_1 {z z' : Nat → Int32} {u : Nat} {dA dW dC dV : Int32} (hu : u < cn z) (e0 : z' 0 = z 0) (h2 : z' 2 = z 2 + dA) (h3 : z' 3 = z 3 + dV) (h4 : z' 4 = z 4 + dW) (h6 : z' 6 = z 6 + dC) (hV : vmZ z' = vmZ z + dV)
    (o : ∀ i, i < cn z → i ≠ u → z' (13*i + 68) = z (13*i + 68) ∧ z' (13*i + 70) = z (13*i + 70) ∧ z' (13*i + 72) = z (13*i + 72) ∧ z' (13*i + 73) = z (13*i + 73) ∧ z' (13*i + 74) = z (13*i + 74))
    (hA : tA9 z' u = tA9 z u + dA) (hW : tW9 z' u = tW9 z u + dW) (hC : tC9 z' u = tC9 z u + dC) (hp : z' (13*u + 70) = -1 → z' (13*u + 72) = 0) (k : jw z ∧ pw z) : jw z' ∧ pw z' := by
  have e : cn z' = cn z := by unfold cn; rw [e0]
  obtain ⟨⟨k2, k3, k4, k6⟩, kp⟩ := k
  refine ⟨⟨?_, ?_, ?_, ?_⟩, fun i hi q => ?_⟩
  · rw [h2, k2, e, saN_s, saN_s]
    exact (sm_1 hA _ hu (fun i hi ne => by unfold tA9; rw [(o i hi ne).1, (o i hi ne).2.2.2.1])).symm
  · rw [h3, k3, hV]
  · rw [h4, k4, e, wcN_s, wcN_s]
    exact (sm_1 hW _ hu (fun i hi ne => (o i hi ne).2.2.2.2)).symm
  · rw [h6, k6, e, cmN_s, cmN_s]
    exact (sm_1 hC _ hu (fun i hi ne => by unfold tC9; rw [(o i hi ne).2.1])).symm
  · rw [e] at hi
    by_cases c : i = u
    · rw [c] at q ⊢; exact hp q
    · obtain ⟨_, a2, a3, _, _⟩ := o i hi c
      rw [a3]
      exact kp i hi (by rw [← a2]; exact q)
