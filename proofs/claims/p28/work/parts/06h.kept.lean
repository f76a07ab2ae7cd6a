section QC
variable {c : Nat} {p : Nat → Int32}
/-- between ticks: no vehicle has passed -/
def pu_Z (p : Nat → Int32) (c : Nat) : Prop := 0 < c → (la9' p 0).toInt ≤ 39
theorem pV_mk {q : Nat → Int32} {d : Nat} {T : Int} (hT : T ≤ 300) (h0 : 0 < d → -1 ≤ (fr9 q 0).toInt ∧ (fr9 q 0).toInt ≤ T) (h : ∀ k, k < d → 2 ≤ (ln9 q k).toInt ∧ (ln9 q k).toInt ≤ 12 ∧ -400 ≤ (fr9 q k).toInt ∧ (fr9 q k).toInt ≤ 400 ∧ (0 < k → (fr9 q k).toInt < (la9' q (k - 1)).toInt ∧ (-1 ≤ (fr9 q k).toInt ∨ (la9' q (k - 1)).toInt - 2 ≤ (fr9 q k).toInt))) : pu_V q d T := by
  have hb : ∀ k, k < d → -1 - 13 * (k : Int) ≤ (fr9 q k).toInt ∧ (fr9 q k).toInt ≤ T := by
    intro k
    induction k with
    | zero => intro hk; exact ⟨by have := (h0 hk).1; omega, (h0 hk).2⟩
    | succ k ih =>
      intro hk
      obtain ⟨b1, b2⟩ := ih (by omega)
      obtain ⟨a1, a2, a3, a4, a5⟩ := h (k + 1) hk
      obtain ⟨g1, g2⟩ := a5 (by omega)
      obtain ⟨c1, c2, c3, c4, -⟩ := h k (by omega)
      rw [Nat.add_sub_cancel] at g1 g2
      have e := la_int (p := q) (k := k) (by omega) (by omega) c1 c2
      constructor <;> omega
  intro k hk
  obtain ⟨a1, a2, a3, a4, a5⟩ := h k hk
  obtain ⟨b1, b2⟩ := hb k hk
  exact ⟨a1, a2, b1, b2, a5⟩
theorem dr_at {k i : Nat} (hk : k + 1 < c) (hi : i < 5) : dr9 c p (7 + 5 * k + i) = p (7 + 5 * (k + 1) + i) := by
  unfold dr9
  rw [pu_u_ne (by omega)]
  unfold sh9
  rw [if_pos (by omega), show 7 + 5 * k + i + 5 = 7 + 5 * (k + 1) + i by omega]
theorem dr_la {k : Nat} (hk : k + 1 < c) : la9' (dr9 c p) k = la9' p (k + 1) := by
  unfold la9' fr9 ln9
  rw [dr_at hk (by omega), dr_at hk (by omega)]
theorem pV_mo (h6 : c ≤ 6) (hV : pu_V p c 50) (hZ : pu_Z p c) : pu_V (mo9 c p) (cc9 c p) 50 ∧ pu_Z (mo9 c p) (cc9 c p) := by
  have hM := pV_mv h6 (by omega) hV
  have h39 : (39 : Int32).toInt = 39 := by decide
  unfold mo9 cc9
  by_cases q : ps9 c (mv9 p c)
  · rw [if_pos q, if_pos q]
    have hc0 : 0 < c := q.1
    have q2 : ¬ (la9' (mv9 p c) 0).toInt ≤ 39 := fun h => q.2 (by rw [i32_le, h39]; exact h)
    have hz := hZ hc0
    have l0 := pV_la h6 (by omega) hV hc0
    have l1 := mv_la h6 (by omega) hV hc0
    have m1 := (mv_two h6 (by omega) hV hc0).1
    generalize mv9 p c = m at hM q2 l1 m1 ⊢
    have hfr : ∀ k, k + 1 < c → fr9 (dr9 c m) k = fr9 m (k + 1) := fun k hk => dr_at hk (by omega)
    have hln : ∀ k, k + 1 < c → ln9 (dr9 c m) k = ln9 m (k + 1) := fun k hk => dr_at hk (by omega)
    refine ⟨pV_mk (by omega) (fun h => ?_) (fun k hk => ?_), fun h => ?_⟩
    · obtain ⟨a1, a2, a3, a4, a5⟩ := hM 1 (by omega)
      obtain ⟨g1, g2⟩ := a5 (by omega)
      rw [hfr 0 (by omega)]
      simp only [Nat.sub_self, Nat.zero_add] at g1 g2 ⊢
      constructor <;> omega
    · obtain ⟨a1, a2, a3, a4, a5⟩ := hM (k + 1) (by omega)
      rw [hfr k (by omega), hln k (by omega)]
      refine ⟨a1, a2, by omega, by omega, fun hk0 => ?_⟩
      rw [dr_la (by omega), show k - 1 + 1 = k by omega]
      have g := a5 (by omega)
      rw [Nat.add_sub_cancel] at g
      exact g
    · obtain ⟨a1, a2, a3, a4, a5⟩ := hM 1 (by omega)
      obtain ⟨g1, g2⟩ := a5 (by omega)
      have l2 := pV_la (p := m) h6 (by omega) hM (show 1 < c by omega)
      rw [dr_la (by omega)]
      simp only [Nat.sub_self, Nat.zero_add] at g1 g2 ⊢
      omega
  · rw [if_neg q, if_neg q]
    have hle : 0 < c → (la9' (mv9 p c) 0).toInt ≤ 39 := by
      intro h
      have := Decidable.not_not.mp (fun e => q ⟨h, e⟩)
      rw [i32_le, h39] at this
      exact this
    refine ⟨pV_mk (by omega) (fun h => ?_) (fun k hk => ?_), hle⟩
    · obtain ⟨a1, a2, a3, a4, -⟩ := hM 0 h
      have l1 := pV_la (p := mv9 p c) h6 (by omega) hM h
      have := hle h
      constructor <;> omega
    · obtain ⟨a1, a2, a3, a4, a5⟩ := hM k hk
      exact ⟨a1, a2, by omega, by omega, a5⟩
/-- who is through in this tick has moved -/
theorem mu_go {u : Nat → Int32} (h6 : c ≤ 6) (hV : pu_V p c 50) : ∀ k, k < cc9 c p → (la9' (mo9 c p) k).toInt = 21 → mu9 c p u k = 1 := by
  have hT : (50 : Int) ≤ 300 := by omega
  have key : ∀ j, j < c → (la9' (mv9 p c) j).toInt = 21 → mm9 p u c j = 1 := by
    intro j hj h21
    obtain ⟨a1, a2, a3, a4, -⟩ := hV j hj
    have l1 := mv_la h6 hT hV hj
    have m1 := (mv_two h6 hT hV hj).1
    have hg := mv_go h6 hT hV j hj (by omega)
    rw [mm_lt hj]
    have e2 := (mv_two h6 hT hV hj).2.mpr hg
    refine if_pos ?_
    have h2 : j ≠ 0 → la9' (mv9 p j) (j - 1) = la9' (mv9 p c) (j - 1) := by
      intro h0
      unfold la9'
      rw [mv_ln, mv_ln]
      have e : fr9 (mv9 p (j + (c - j))) (j - 1) = fr9 (mv9 p j) (j - 1) := mv_keep (by omega)
      rw [show j + (c - j) = c by omega] at e
      rw [e]
    unfold cm9
    rw [mv_fr (Nat.le_refl j), mv_le, mv_fo, mv_sm (show 1 < 7 by decide)]
    refine ⟨?_, hg.2⟩
    by_cases h0 : j = 0
    · exact Or.inl h0
    · rw [h2 h0]
      exact hg.1
  unfold mo9 cc9 mu9
  by_cases q : ps9 c (mv9 p c)
  · rw [if_pos q, if_pos q, if_pos q]
    intro k hk h21
    have hc0 := q.1
    rw [dr_la (by omega)] at h21
    unfold su9
    rw [if_pos hk]
    exact key (k + 1) (by omega) h21
  · rw [if_neg q, if_neg q, if_neg q]
    exact key
end QC
