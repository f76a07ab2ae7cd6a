section RI
variable {z : Sh9} {M M' M2 : Mem9} {g x y x0 n c B l a : Nat} {Q p r s : Nat → Int32}
/-! where the cells are: an object at the place o of the shape -/
abbrev og8 (o : Nat) : Prop := o + 20 < 766 ∧ kd9 o = (0, 0) ∧ kd9 (o + 1) = (14, 3) ∧ kd9 (o + 2) = (10, 3) ∧ ∀ l, l < 3 → kd9 (o + 3 + 6 * l) = (1, 0) ∧ kd9 (o + 3 + 6 * l + 1) = (10, 6) ∧ kd9 (o + 3 + 6 * l + 2) = (10, 6) ∧ kd9 (o + 3 + 6 * l + 3) = (11, 6) ∧ kd9 (o + 3 + 6 * l + 4) = (11, 6) ∧ kd9 (o + 3 + 6 * l + 5) = (11, 6)
theorem rw_mk {q i t n : Nat} (hi : i < 766) (hk : kd9 i = (t, n)) (hq : q = a + i) : RW9 (a, 766, kd9) q t n := by
  subst hq
  refine ⟨Nat.le_add_right _ _, Nat.add_lt_add_left hi _, ?_⟩
  show kd9 (a + i - a) = (t, n)
  rw [Nat.add_sub_cancel_left]
  exact hk
theorem g8_mk {o : Nat} (h : og8 o) (hg : g = a + o) : G8 (a, 766, kd9) g := by
  obtain ⟨h0, h1, h2, h3, h4⟩ := h
  subst hg
  refine ⟨rw_mk (by omega) h1 rfl, rw_mk (by omega) h2 (by omega), rw_mk (by omega) h3 (by omega), fun l hl => ?_⟩
  obtain ⟨k0, k1, k2, k3, k4, k5⟩ := h4 l hl
  exact ⟨rw_mk (by omega) k0 (by omega), rw_mk (by omega) k1 (by omega), rw_mk (by omega) k2 (by omega), rw_mk (by omega) k3 (by omega), rw_mk (by omega) k4 (by omega), rw_mk (by omega) k5 (by omega)⟩
theorem og_2 : og8 2 ∧ og8 23 := by decide +kernel
theorem og_r : ∀ i, i < 14 → og8 (47 + 21 * i) := by decide +kernel
theorem og_s : ∀ i, i < 2 → og8 (341 + 21 * i) := by decide +kernel
theorem oh_2 : og8 385 ∧ og8 406 := by decide +kernel
theorem oh_r : ∀ i, i < 14 → og8 (430 + 21 * i) := by decide +kernel
theorem oh_s : ∀ i, i < 2 → og8 (724 + 21 * i) := by decide +kernel
def HZ8 (z : Sh9) (a : Nat) : Prop := (RW9 z a 2 0 ∧ RW9 z (a + 1) 12 120 ∧ RW9 z (a + 44) 15 14 ∧ RW9 z (a + 45) 16 2 ∧ RW9 z (a + 46) 11 2) ∧ True ∧ G8 z (a + 2) ∧ G8 z (a + 23) ∧ (∀ i, i < 14 → G8 z (a + 47 + 21 * i)) ∧ ∀ i, i < 2 → G8 z (a + 341 + 21 * i)
theorem hz_mk : HZ8 (a, 766, kd9) a := ⟨⟨rw_mk (i := 0) (by omega) (by decide +kernel) (by omega), rw_mk (by omega) (by decide +kernel) rfl, rw_mk (by omega) (by decide +kernel) rfl, rw_mk (by omega) (by decide +kernel) rfl, rw_mk (by omega) (by decide +kernel) rfl⟩, trivial, g8_mk og_2.1 rfl, g8_mk og_2.2 rfl, fun i hi => g8_mk (og_r i hi) (by omega), fun i hi => g8_mk (og_s i hi) (by omega)⟩
theorem hz_mk2 : HZ8 (a, 766, kd9) (a + 383) := ⟨⟨rw_mk (i := 383) (by omega) (by decide +kernel) (by omega), rw_mk (i := 384) (by omega) (by decide +kernel) (by omega), rw_mk (i := 427) (by omega) (by decide +kernel) (by omega), rw_mk (i := 428) (by omega) (by decide +kernel) (by omega), rw_mk (i := 429) (by omega) (by decide +kernel) (by omega)⟩, trivial, g8_mk oh_2.1 (by omega), g8_mk oh_2.2 (by omega), fun i hi => g8_mk (oh_r i hi) (by omega), fun i hi => g8_mk (oh_s i hi) (by omega)⟩
/-! remembering, on the model's side -/
/-- the blocks behind a new one -/
def rb8 (A : Nat) (D : Nat → Nat → Int32) (Q : Nat → Int32) (j : Nat) : Nat → Int32 := if A = 14 then (if j = 13 then Q else D (j + 1)) else (if j = A then Q else D j)
def ra8 (A : Nat) : Nat := if A = 14 then 14 else A + 1
end RI
