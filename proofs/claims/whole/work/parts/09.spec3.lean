/-! ===== and more: what the looks answer ===== -/
noncomputable def brg (z : Nat → Int32) (u r : Nat) : Int32 := iF (r = 2) (prc z u (gr z u (nI 0))) (iF (r = 4) (cst z u) (nI 0))
def ms (k : Nat) (x : Int32) : Prop := (k < 3 → nI 0 ≤ x ∧ x ≤ nI 36) ∧ (k = 3 → nI 1 ≤ x ∧ x ≤ nI 5) ∧ (3 < k → nI 0 ≤ x ∧ x ≤ nI 20)
theorem ms_a {k : Nat} {x : Int32} (h : k < 3) : (nI 0 ≤ x ∧ x ≤ nI 36) ↔ ms k x := ⟨fun q => ⟨fun _ => q, fun _ => absurd h (by omega), fun _ => absurd h (by omega)⟩, fun q => q.1 h⟩
theorem ms_b {k : Nat} {x : Int32} (h : k = 3) : (nI 1 ≤ x ∧ x ≤ nI 5) ↔ ms k x := ⟨fun q => ⟨fun _ => absurd h (by omega), fun _ => q, fun _ => absurd h (by omega)⟩, fun q => q.2.1 h⟩
theorem ms_c {k : Nat} {x : Int32} (h : 3 < k) : (nI 0 ≤ x ∧ x ≤ nI 20) ↔ ms k x := ⟨fun q => ⟨fun _ => absurd h (by omega), fun _ => absurd h (by omega), fun _ => q⟩, fun q => q.2.2 h⟩
noncomputable def unV (z : Nat → Int32) (u : Nat) : Nat → Int32
  | 0 => nI (up z u)
  | 1 => nI (ur z u)
  | 2 => z (13*u + 64)
  | 3 => z (13*u + 65)
  | 4 => z (13*u + 66)
  | 5 => z (13*u + 67)
  | 6 => grT z u
  | 7 => z (13*u + 68)
  | 8 => bI (hld z u)
  | 9 => z (13*u + 69)
  | 10 => z (13*u + 70)
  | 11 => z (13*u + 72)
  | 12 => z (13*u + 73)
  | _ => z (13*u + 74)
noncomputable def gdV (z : Nat → Int32) (q : Nat) : Nat → Int32
  | 0 => z (3*q + 12)
  | 1 => nI (pv z q)
  | 2 => z (3*q + 14)
  | 3 => ofN z q (fun _ => True) (cn z)
  | 4 => ofN z q (fun x => x < nI 2) (cn z)
  | _ => ofN z q (fun x => x = nI 2) (cn z)
noncomputable def veV (z : Nat → Int32) (v : Nat) : Nat → Int32
  | 0 => z (8*v + 30)
  | 1 => z (8*v + 31)
  | 2 => z (8*v + 32)
  | 3 => z (8*v + 33)
  | 4 => clN z v (cn z)
  | 5 => clA z v (cn z)
  | 6 => z (8*v + 34)
  | 7 => z (8*v + 35)
  | 8 => z (8*v + 36)
  | _ => z (8*v + 37)
noncomputable def coV (z : Nat → Int32) (sm : Int32) : Nat → Int32
  | 0 => nI (cn z)
  | 1 => whN z (nI 0) (cn z)
  | 2 => whN z (nI 1) (cn z)
  | 3 => whN z (nI 2) (cn z)
  | 4 => whN z (nI 3) (cn z)
  | 5 => whN z (nI 4) (cn z)
  | 6 => hlN z (cn z)
  | 7 => z 1
  | 8 => z 2
  | 9 => z 3
  | 10 => z 4
  | 11 => z 5
  | 12 => z 6
  | _ => sm
noncomputable def rpV (z : Nat → Int32) (u : Nat) : Nat → Int32
  | 0 => rpa0 z u
  | 1 => rpa1 z u
  | _ => rpa2 z u
noncomputable def wyV (z : Nat → Int32) (u : Nat) : Nat → Int32
  | 0 => nI 0
  | 1 => wy1 z u
  | 2 => wy2 z u
  | 3 => wy3 z u
  | _ => wy4 z u
noncomputable def mon (z : Nat → Int32) (u r : Nat) : Int32 := iF (r = 1) (rpa2 z u - rpa1 z u) (brg z u r)
/-- best and most, with the routes below r looked at -/
noncomputable def rt (z : Nat → Int32) (u : Nat) : Nat → Int32 × Int32
  | 0 => (-1, nI 0)
  | 1 => (-1, nI 0)
  | r + 2 => iF (wyV z u (r + 1) = 0 ∧ ((rt z u (r + 1)).1 = -1 ∨ ¬ mon z u (r + 1) ≤ (rt z u (r + 1)).2)) (nI (r + 1), mon z u (r + 1)) (rt z u (r + 1))
def oR (d : Int32) (b : Option Nat) : Int32 := match b with
  | none => d
  | some j => d ||| (nI 1 <<< (nI j &&& 31))
/-- the workshop's order: what is had, the next one -/
noncomputable def wa (z : Nat → Int32) : Nat → Int32 × Option Nat
  | 0 => (nI 0, nw z (nI 0) (nI 1) (cn z))
  | k + 1 => match (wa z k).2 with
    | none => wa z k
    | some j => ((wa z k).1 ||| (nI 1 <<< (nI j &&& 31)), nw z ((wa z k).1 ||| (nI 1 <<< (nI j &&& 31))) (nI 1) (cn z))
noncomputable def ca (z : Nat → Int32) : Nat → Int32 × Option Nat
  | 0 => (nI 0, nc z (nI 0) (cn z))
  | k + 1 => match (ca z k).2 with
    | none => ca z k
    | some j => ((ca z k).1 ||| (nI 1 <<< (nI j &&& 31)), nc z ((ca z k).1 ||| (nI 1 <<< (nI j &&& 31))) (cn z))
theorem wa_n {z : Nat → Int32} {k : Nat} (h : (wa z k).2 = none) : wa z (k + 1) = wa z k := by
  show (match (wa z k).2 with | none => wa z k | some j => _) = _
  rw [h]
theorem wa_s {z : Nat → Int32} {k j : Nat} (h : (wa z k).2 = some j) : wa z (k + 1) = ((wa z k).1 ||| (nI 1 <<< (nI j &&& 31)), nw z ((wa z k).1 ||| (nI 1 <<< (nI j &&& 31))) (nI 1) (cn z)) := by
  show (match (wa z k).2 with | none => wa z k | some j => _) = _
  rw [h]
theorem ca_n {z : Nat → Int32} {k : Nat} (h : (ca z k).2 = none) : ca z (k + 1) = ca z k := by
  show (match (ca z k).2 with | none => ca z k | some j => _) = _
  rw [h]
theorem ca_s {z : Nat → Int32} {k j : Nat} (h : (ca z k).2 = some j) : ca z (k + 1) = ((ca z k).1 ||| (nI 1 <<< (nI j &&& 31)), nc z ((ca z k).1 ||| (nI 1 <<< (nI j &&& 31))) (cn z)) := by
  show (match (ca z k).2 with | none => ca z k | some j => _) = _
  rw [h]
theorem wa_stop {z : Nat → Int32} {k : Nat} (h : (wa z k).2 = none) : ∀ n, wa z (k + n) = wa z k
  | 0 => rfl
  | n + 1 => by
    have e := wa_stop h n
    have h2 : (wa z (k + n)).2 = none := by rw [e]; exact h
    rw [show k + (n + 1) = (k + n) + 1 by omega, wa_n h2, e]
theorem ca_stop {z : Nat → Int32} {k : Nat} (h : (ca z k).2 = none) : ∀ n, ca z (k + n) = ca z k
  | 0 => rfl
  | n + 1 => by
    have e := ca_stop h n
    have h2 : (ca z (k + n)).2 = none := by rw [e]; exact h
    rw [show k + (n + 1) = (k + n) + 1 by omega, ca_n h2, e]
theorem wa_lt {z : Nat → Int32} : ∀ {k j : Nat}, (wa z k).2 = some j → j < cn z
  | 0, j, h => (nw_lt h).1
  | k + 1, j, h => by
    cases hb : (wa z k).2 with
    | none => rw [wa_n hb, hb] at h; cases h
    | some i => rw [wa_s hb] at h; exact (nw_lt h).1
theorem ca_lt {z : Nat → Int32} : ∀ {k j : Nat}, (ca z k).2 = some j → j < cn z
  | 0, j, h => (nc_lt h).1
  | k + 1, j, h => by
    cases hb : (ca z k).2 with
    | none => rw [ca_n hb, hb] at h; cases h
    | some i => rw [ca_s hb] at h; exact (nc_lt h).1
noncomputable def wdV (z : Nat → Int32) : Int32 := (wkN z (cn z) + nI (pd z) - nI 1) / nI (pd z)
