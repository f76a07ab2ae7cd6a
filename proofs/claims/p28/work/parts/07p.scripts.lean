section RW
variable {z : Sh9} {M M' M1 M2 M6 N N' : Mem9} {g x y x0 n c b sg B B' l a A gg w h d2 d3 d4 d5 S : Nat} {Q Q' Q0 R p r : Nat → Int32} {g0 g1 g2 len : Int32}
/-! runScript -/
theorem bl_k {v : Int64} {K : Int64 → Mem9 → Re9} : bl9 (some (.inl (some (.long v)), M)) K = K v M := rfl
theorem dl_n {u d e : Nat} {D : Int64} (hD : D = lN d) (h0 : 0 < d) (hu : u < 2 ^ 63) (hd : d < 2 ^ 63) (he : u / d = e) : dl9 (lN u) D = some (lN e) := by
  subst hD
  unfold dl9
  rw [if_neg (fun q => by have := (pk_lEQ (b := 0) hd (by omega)).mp q; omega), pk_lDiv hu h0 hd, he]
theorem cmp_0 {u v : Int64} : lg_cmp u v = 0 ↔ u = v := by
  unfold lg_cmp
  by_cases h : u > v
  · rw [if_pos h]
    refine ⟨fun e => absurd e (by decide), fun e => ?_⟩
    rw [e] at h
    have := Int64.lt_iff_toInt_lt.mp h
    omega
  · rw [if_neg h]
    by_cases e : u = v
    · rw [if_pos e]
      exact ⟨fun _ => e, fun _ => rfl⟩
    · rw [if_neg e]
      exact ⟨fun q => absurd q (by decide), fun q => absurd q e⟩
theorem x2_without {k : Nat} (hk : k ≤ 3) (hS : S < 2 ^ 63) : f_X2_withoutGroups z (lN S) (nI k) M = some (.inl (some (.long (lN (S / 100000 ^ k)))), M) := by
  have hl : ∀ rem i m S, i + rem = k → rem < m → S < 2 ^ 63 → fx9 (fun _ _ _ _ => none) (f_X2_withoutGroups_b5 z) m (nI k) (lN S) (nI i) M = some (.inl (some (.long (lN (S / 100000 ^ rem)))), M) := by
    intro rem
    induction rem with
    | zero =>
      intro i m S hi hm hS
      obtain ⟨m, rfl⟩ : ∃ q, m = q + 1 := ⟨m - 1, by omega⟩
      rw [fx_k]
      unfold f_X2_withoutGroups_b5
      rw [if_pos (nI_le (by omega) (by omega)), Nat.pow_zero, Nat.div_one]
      rfl
    | succ rem ih =>
      intro i m S hi hm hS
      obtain ⟨m, rfl⟩ : ∃ q, m = q + 1 := ⟨m - 1, by omega⟩
      have e := ih (i + 1) m (S / 100000) (by omega) (by omega) (Nat.lt_of_le_of_lt (Nat.div_le_self _ _) hS)
      rw [Nat.div_div_eq_div_mul, Nat.mul_comm 100000, ← Nat.pow_succ] at e
      rw [fx_k]
      unfold f_X2_withoutGroups_b5
      rw [if_neg (nI_ge (by omega) (by omega)), dl_n (D := 100000) (d := 100000) rfl (by omega) hS (by omega) rfl, sb_k, nI_1]
      exact e
  exact hl k 0 FU9 S (by omega) (by unfold FU9; omega) hS
end RW
