section QA
variable {z : Sh9} {x l c : Nat} {M : Mem9} {R p : Nat → Int32}
theorem pu_sw {r : Nat → Int32} {i j : Nat} {v w : Int32} (h : i ≠ j) : pu_u (pu_u r i v) j w = pu_u (pu_u r j w) i v := by
  funext k
  unfold pu_u
  by_cases h1 : k = j
  · rw [if_pos h1, if_neg (by omega), if_pos h1]
  · rw [if_neg h1]
    by_cases h2 : k = i
    · rw [if_pos h2, if_pos h2]
    · rw [if_neg h2, if_neg h2, if_neg h1]
theorem pu_tw {r : Nat → Int32} {i : Nat} {v w : Int32} : pu_u (pu_u r i v) i w = pu_u r i w := by
  funext k
  unfold pu_u
  by_cases h : k = i
  · rw [if_pos h, if_pos h]
  · rw [if_neg h, if_neg h, if_neg h]
def cR9 (c : Nat) (p R : Nat → Int32) : Nat → Int32 := match fs9 (ck9 p) c 0 with
  | none => R
  | some k => if p 6 + 1 < (if lo9 p k = 0 then R 7 else R 8) then R else if lo9 p k = 0 then R else pu_u R 6 (R 6 + 1)
/-- a vehicle isn't shorter than one cell -/
def pu_Q (p : Nat → Int32) (c : Nat) : Prop := ∀ k, k < c → la9' p k ≤ fr9 p k
def pu_rs (c : Nat) (p : Nat → Int32) : Int32 := if (fs9 (lw9 p) c 0).isSome then 1 else if p 4 = 0 ∧ (fs9 (cv9 p) c 0).isSome then 2 else if p 2 ≤ 0 then 0 else 3
theorem i32_lt {a b : Int32} : a < b ↔ a.toInt < b.toInt := Int32.lt_iff_toInt_lt
theorem i32_le {a b : Int32} : a ≤ b ↔ a.toInt ≤ b.toInt := Int32.le_iff_toInt_le
theorem cv_iff {k : Nat} (hq : la9' p k ≤ fr9 p k) : cv9 p k ↔ ((¬ fr9 p k < nI 19 ∧ ¬ nI 19 < la9' p k) ∨ (¬ fr9 p k < nI 20 ∧ ¬ nI 20 < la9' p k) ∨ (¬ fr9 p k < nI 21 ∧ ¬ nI 21 < la9' p k)) ∧ ¬ fr9 p k < 20 := by
  unfold cv9
  rw [show (20 : Int32) = nI 20 from rfl, show (21 : Int32) = nI 21 from rfl]
  simp only [i32_lt, i32_le, nI_toInt (show 19 < 2 ^ 31 by decide), nI_toInt (show 20 < 2 ^ 31 by decide), nI_toInt (show 21 < 2 ^ 31 by decide)] at hq ⊢
  omega
theorem lw_iff {k : Nat} (hb : b9 (le9' p k)) : lw9 p k ↔ le9' p k = 1 ∧ ¬ 20 ≤ fr9 p k := by
  unfold lw9
  have h1 : (¬ le9' p k = 0) ↔ le9' p k = 1 := b9_ne hb
  rw [h1, show (20 : Int32) = nI 20 from rfl, show (19 : Int32) = nI 19 from rfl]
  simp only [i32_lt, i32_le, nI_toInt (show 19 < 2 ^ 31 by decide), nI_toInt (show 20 < 2 ^ 31 by decide)]
  exact and_congr_right (fun _ => by omega)
theorem rs_in : pu_rs c p = 0 ∨ pu_rs c p = 1 ∨ pu_rs c p = 2 ∨ pu_rs c p = 3 := by
  unfold pu_rs
  split
  · exact Or.inr (Or.inl rfl)
  · split
    · exact Or.inr (Or.inr (Or.inl rfl))
    · split
      · exact Or.inl rfl
      · exact Or.inr (Or.inr (Or.inr rfl))
theorem rs_le : pu_rs c p ≤ 0 ↔ pu_rs c p = 0 := by
  rcases rs_in (c := c) (p := p) with h | h | h | h <;> rw [h] <;> decide
theorem hold_dn {q : Nat} (hq2 : q < 1000) : (if nI q ≤ 0 then nI q else nI q - 1) = (if (0 : Int32) < nI q - 1 then nI q - 1 else 0) := by
  by_cases q0 : q = 0
  · subst q0; decide
  · obtain ⟨j, rfl⟩ : ∃ j, q = j + 1 := ⟨q - 1, by omega⟩
    rw [if_neg (nI_nle (by omega) (by omega)), nI_pred]
    by_cases qj : j = 0
    · subst qj; decide
    · exact (if_pos (show (0 : Int32) < nI j from nI_lt (a := 0) (by omega) (by omega))).symm
theorem hgt_up : ∀ h, h < 5 → (if nI h + 1 < (4 : Int32) then nI h + 1 else 4) = (if 0 ≤ nI h + 1 then (if nI h + 1 ≤ 4 then nI h + 1 else 4) else 0) := by decide +kernel
theorem hgt_dn : ∀ h, h < 5 → (if (0 : Int32) < nI h - 1 then nI h - 1 else 0) = (if 0 ≤ nI h + -1 then (if nI h + -1 ≤ 4 then nI h + -1 else 4) else 0) := by decide +kernel
def hR9 (c : Nat) (p R : Nat → Int32) : Nat → Int32 := if hp9 c p then pu_u R 5 (R 5 + 1) else R
def tR9 (p R : Nat → Int32) : Nat → Nat → Int32
  | 0 => R
  | n + 1 => if la9' (th9 p n) n = 21 then (if le9' (th9 p n) n = 0 then pu_u (tR9 p R n) 4 (tR9 p R n 4 + 1) else pu_u (tR9 p R n) 3 (tR9 p R n 3 + 1)) else tR9 p R n
theorem tR_s {n : Nat} : tR9 p R (n + 1) = if la9' (th9 p n) n = 21 then (if le9' (th9 p n) n = 0 then pu_u (tR9 p R n) 4 (tR9 p R n 4 + 1) else pu_u (tR9 p R n) 3 (tR9 p R n 3 + 1)) else tR9 p R n := rfl
end QA
