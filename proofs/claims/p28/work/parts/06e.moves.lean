section PZ
variable {z : Sh9} {x l c : Nat} {M : Mem9} {R p : Nat → Int32}
/-- the rows from 7 to i - 1, five places ahead -/
def sd9 (p : Nat → Int32) (i : Nat) : Nat → Int32 := fun j => if 7 ≤ j ∧ j < i then p (j + 5) else p j
/-- which vehicles moved -/
def mm9 (p u : Nat → Int32) : Nat → Nat → Int32
  | 0 => u
  | n + 1 => pu_u (mm9 p u n) n (if cm9 (mv9 p n) n then 1 else 0)
theorem mm_s {u : Nat → Int32} {n : Nat} : mm9 p u (n + 1) = pu_u (mm9 p u n) n (if cm9 (mv9 p n) n then 1 else 0) := rfl
theorem mv_s {n : Nat} : mv9 p (n + 1) = if cm9 (mv9 p n) n then pu_u (mv9 p n) (7 + 5 * n + 1) (fr9 (mv9 p n) n + 1) else mv9 p n := rfl
theorem mm_lt {u : Nat → Int32} {n j : Nat} (h : j < n) : mm9 p u n j = if cm9 (mv9 p j) j then 1 else 0 := by
  induction n with
  | zero => omega
  | succ n ih =>
    rw [mm_s]
    by_cases e : j = n
    · subst e; exact pu_u_eq
    · rw [pu_u_ne e]; exact ih (by omega)
/-- one place ahead, the first i -/
def su9 (u : Nat → Int32) (i : Nat) : Nat → Int32 := fun j => if j < i then u (j + 1) else u j
def mu9 (c : Nat) (p u : Nat → Int32) : Nat → Int32 := if ps9 c (mv9 p c) then su9 (mm9 p u c) (c - 1) else mm9 p u c
def mR9 (c : Nat) (p R : Nat → Int32) : Nat → Int32 := if ps9 c (mv9 p c) then pu_u R 2 (R 2 + 1) else R
theorem pu_self {f : Nat → Int32} {j : Nat} : pu_u f j (f j) = f := by
  funext i
  unfold pu_u
  by_cases h : i = j
  · rw [if_pos h, h]
  · exact if_neg h
end PZ
