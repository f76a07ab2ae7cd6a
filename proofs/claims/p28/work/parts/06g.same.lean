section QB
variable {c : Nat} {p : Nat → Int32}
/-! what holds of a lane's vehicles -/
theorem i32_add {a b : Int32} (h1 : -2147483648 ≤ a.toInt + b.toInt) (h2 : a.toInt + b.toInt < 2147483648) : (a + b).toInt = a.toInt + b.toInt := by
  rw [Int32.toInt_add]
  exact Int.bmod_eq_of_le (by omega) (by omega)
theorem i32_sub {a b : Int32} (h1 : -2147483648 ≤ a.toInt - b.toInt) (h2 : a.toInt - b.toInt < 2147483648) : (a - b).toInt = a.toInt - b.toInt := by
  rw [Int32.toInt_sub]
  exact Int.bmod_eq_of_le (by omega) (by omega)
theorem i32_1 : (1 : Int32).toInt = 1 := by decide
theorem i32_2 : (2 : Int32).toInt = 2 := by decide
theorem la_int {k : Nat} (h1 : -500 ≤ (fr9 p k).toInt) (h2 : (fr9 p k).toInt ≤ 500) (h3 : 2 ≤ (ln9 p k).toInt) (h4 : (ln9 p k).toInt ≤ 12) : (la9' p k).toInt = (fr9 p k).toInt - (ln9 p k).toInt + 1 := by
  unfold la9'
  have e := i32_sub (a := fr9 p k) (b := ln9 p k) (by omega) (by omega)
  rw [i32_add (by rw [e, i32_1]; omega) (by rw [e, i32_1]; omega), e, i32_1]
/-- the vehicles' lengths and fronts: apart, none far behind; T bounds the fronts -/
def pu_V (p : Nat → Int32) (c : Nat) (T : Int) : Prop := ∀ k, k < c → 2 ≤ (ln9 p k).toInt ∧ (ln9 p k).toInt ≤ 12 ∧ -1 - 13 * (k : Int) ≤ (fr9 p k).toInt ∧ (fr9 p k).toInt ≤ T ∧ (0 < k → (fr9 p k).toInt < (la9' p (k - 1)).toInt ∧ (-1 ≤ (fr9 p k).toInt ∨ (la9' p (k - 1)).toInt - 2 ≤ (fr9 p k).toInt))
theorem pV_la {T : Int} {k : Nat} (h6 : c ≤ 6) (hT : T ≤ 400) (hV : pu_V p c T) (hk : k < c) : (la9' p k).toInt = (fr9 p k).toInt - (ln9 p k).toInt + 1 := by
  obtain ⟨a1, a2, a3, a4, -⟩ := hV k hk
  exact la_int (by omega) (by omega) a1 a2
theorem pV_Q {T : Int} (h6 : c ≤ 6) (hT : T ≤ 400) (hV : pu_V p c T) : pu_Q p c := fun k hk => by
  rw [i32_le, pV_la h6 hT hV hk]
  have := (hV k hk).1
  omega
/-- a vehicle may move, of the row m after the moves ahead of it -/
abbrev go9 (p m : Nat → Int32) (j : Nat) : Prop := (j = 0 ∨ fr9 p j + 2 ≤ la9' m (j - 1)) ∧ (fr9 p j = 19 → p 1 = 4 ∧ (le9' p j = 1 ∨ fo9 p j = 1))
theorem mv_keep {n d j : Nat} (h : j < n) : fr9 (mv9 p (n + d)) j = fr9 (mv9 p n) j := by
  induction d with
  | zero => rfl
  | succ d ih =>
    rw [← Nat.add_assoc, mv_s]
    split
    · unfold fr9
      rw [pu_u_ne (by omega)]
      exact ih
    · exact ih
theorem mv_at {j : Nat} (h : j < c) : fr9 (mv9 p c) j = if go9 p (mv9 p c) j then fr9 p j + 1 else fr9 p j := by
  obtain ⟨d, rfl⟩ : ∃ d, c = (j + 1) + d := ⟨c - (j + 1), by omega⟩
  rw [mv_keep (by omega), mv_s]
  have h1 : fr9 (mv9 p j) j = fr9 p j := mv_fr (Nat.le_refl _)
  have h2 : j ≠ 0 → la9' (mv9 p j) (j - 1) = la9' (mv9 p (j + 1 + d)) (j - 1) := by
    intro hj
    unfold la9'
    rw [mv_ln, mv_ln]
    have e : fr9 (mv9 p (j + (1 + d))) (j - 1) = fr9 (mv9 p j) (j - 1) := mv_keep (by omega)
    rw [← Nat.add_assoc] at e
    rw [e]
  have h3 : cm9 (mv9 p j) j ↔ go9 p (mv9 p (j + 1 + d)) j := by
    unfold cm9 go9
    rw [h1, mv_le, mv_fo, mv_sm (show 1 < 7 by decide)]
    by_cases hj : j = 0
    · simp only [hj, true_or, true_and]
    · rw [h2 hj]
  by_cases q : cm9 (mv9 p j) j
  · rw [if_pos q, if_pos (h3.mp q)]
    unfold fr9
    rw [pu_u_eq]
    exact congrArg (· + 1) h1
  · rw [if_neg q, if_neg (fun e => q (h3.mpr e))]
    exact h1
theorem mv_two {T : Int} {j : Nat} (h6 : c ≤ 6) (hT : T ≤ 300) (hV : pu_V p c T) (h : j < c) : ((fr9 (mv9 p c) j).toInt = (fr9 p j).toInt ∨ (fr9 (mv9 p c) j).toInt = (fr9 p j).toInt + 1) ∧ ((fr9 (mv9 p c) j).toInt = (fr9 p j).toInt + 1 ↔ go9 p (mv9 p c) j) := by
  obtain ⟨a1, a2, a3, a4, -⟩ := hV j h
  have e : (fr9 p j + 1).toInt = (fr9 p j).toInt + 1 := by
    rw [i32_add (by rw [i32_1]; omega) (by rw [i32_1]; omega), i32_1]
  rw [mv_at h]
  by_cases q : go9 p (mv9 p c) j
  · rw [if_pos q, e]
    exact ⟨Or.inr rfl, ⟨fun _ => q, fun _ => rfl⟩⟩
  · rw [if_neg q]
    exact ⟨Or.inl rfl, ⟨fun h => by omega, fun h => absurd h q⟩⟩
theorem mv_la {T : Int} {j : Nat} (h6 : c ≤ 6) (hT : T ≤ 300) (hV : pu_V p c T) (h : j < c) : (la9' (mv9 p c) j).toInt = (fr9 (mv9 p c) j).toInt - (ln9 p j).toInt + 1 := by
  obtain ⟨a1, a2, a3, a4, -⟩ := hV j h
  have h2 := (mv_two h6 hT hV h).1
  have e := la_int (p := mv9 p c) (k := j) (by omega) (by omega) (by rw [mv_ln]; exact a1) (by rw [mv_ln]; exact a2)
  rw [e, mv_ln]
theorem go_int {T : Int} {j : Nat} (h6 : c ≤ 6) (hT : T ≤ 300) (hV : pu_V p c T) (h : j < c) : (fr9 p j + 2 ≤ la9' (mv9 p c) (j - 1)) ↔ (fr9 p j).toInt + 2 ≤ (la9' (mv9 p c) (j - 1)).toInt := by
  obtain ⟨a1, a2, a3, a4, -⟩ := hV j h
  rw [i32_le, i32_add (by rw [i32_2]; omega) (by rw [i32_2]; omega), i32_2]
theorem pV_mv {T : Int} (h6 : c ≤ 6) (hT : T ≤ 300) (hV : pu_V p c T) : pu_V (mv9 p c) c (T + 1) := by
  intro k hk
  obtain ⟨a1, a2, a3, a4, a5⟩ := hV k hk
  obtain ⟨m1, m2⟩ := mv_two h6 hT hV hk
  rw [mv_ln]
  refine ⟨a1, a2, by omega, by omega, fun h0 => ?_⟩
  obtain ⟨b1, b2⟩ := a5 h0
  have hk1 : k - 1 < c := by omega
  obtain ⟨n1, -⟩ := mv_two h6 hT hV hk1
  have l1 := mv_la h6 hT hV hk1
  have l0 := pV_la h6 (by omega) hV hk1
  have hg := go_int h6 hT hV hk
  by_cases q : go9 p (mv9 p c) k
  · have e := m2.mpr q
    have hle := hg.mp (q.1.resolve_left (by omega))
    refine ⟨by omega, ?_⟩
    rcases b2 with b2 | b2
    · exact Or.inl (by omega)
    · exact Or.inr (by omega)
  · have e : (fr9 (mv9 p c) k).toInt = (fr9 p k).toInt := m1.resolve_right (fun h => q (m2.mp h))
    refine ⟨by omega, ?_⟩
    by_cases s : (fr9 p k).toInt = 19
    · exact Or.inl (by omega)
    · have hn : ¬ (fr9 p k).toInt + 2 ≤ (la9' (mv9 p c) (k - 1)).toInt := fun h => q ⟨Or.inr (hg.mpr h), fun e19 => absurd (by rw [e19]; decide) s⟩
      exact Or.inr (by omega)
/-- a vehicle whose front is beyond the stop moves -/
theorem mv_go {T : Int} (h6 : c ≤ 6) (hT : T ≤ 300) (hV : pu_V p c T) : ∀ j, j < c → 20 ≤ (fr9 p j).toInt → go9 p (mv9 p c) j := by
  intro j
  induction j with
  | zero =>
    intro _ h
    exact ⟨Or.inl rfl, fun e => by rw [e] at h; exact absurd h (by decide)⟩
  | succ j ih =>
    intro hj h
    obtain ⟨a1, a2, a3, a4, a5⟩ := hV (j + 1) hj
    obtain ⟨b1, -⟩ := a5 (by omega)
    have l0 := pV_la h6 (by omega) hV (show j < c by omega)
    have hl := (hV j (by omega)).1
    rw [Nat.add_sub_cancel] at b1
    have hg := ih (by omega) (by omega)
    have e := (mv_two h6 hT hV (show j < c by omega)).2.mpr hg
    have l1 := mv_la h6 hT hV (show j < c by omega)
    refine ⟨Or.inr ((go_int h6 hT hV hj).mpr ?_), fun e => by rw [e] at h; exact absurd h (by decide)⟩
    rw [Nat.add_sub_cancel]
    omega
end QB
