section QG
variable {c : Nat} {p r R s T : Nat → Int32}
/-- the totals are this lane's counters and the other lanes' -/
def pu_D (T R s : Nat → Int32) : Prop := ∀ i, i < 5 → R (2 + i) = T i + s i
theorem D_u {i : Nat} (h : pu_D T R s) (hi : i < 5) : pu_D T (pu_u R (2 + i) (R (2 + i) + 1)) (pu_u s i (s i + 1)) := by
  intro j hj
  by_cases e : j = i
  · subst e
    rw [pu_u_eq, pu_u_eq, h j hj, Int32.add_assoc]
  · rw [pu_u_ne (by omega), pu_u_ne e]
    exact h j hj
theorem D_m (hA : pu_A p r c) (h : pu_D T R s) : pu_D T (mR9 c p R) (mt9 c r s) := by
  have e := A_ps (A_mv hA (Nat.le_refl c))
  unfold mR9 mt9
  by_cases q : ps9 c (mv9 p c)
  · rw [if_pos q, if_pos (e.mp q)]
    exact D_u (i := 0) h (by omega)
  · rw [if_neg q, if_neg (fun x => q (e.mpr x))]
    exact h
theorem D_c (hA : pu_A p r c) (h : pu_D T R s) : pu_D T (cR9 c p R) (cs9 c (R 7) (R 8) r s) := by
  unfold cR9 cs9
  rw [A_ck hA]
  cases hf : fs9 (ck9 r) c 0 with
  | none => exact h
  | some k =>
    obtain ⟨-, hk, -⟩ := fs_some hf
    show pu_D T (if p 6 + 1 < (if lo9 p k = 0 then R 7 else R 8) then R else if lo9 p k = 0 then R else pu_u R 6 (R 6 + 1)) (if r 6 + 1 < (if lo9 r k = 0 then R 7 else R 8) then s else if lo9 r k = 0 then s else pu_u s 4 (s 4 + 1))
    rw [A_lo hA (by omega), hA 6 (by omega)]
    by_cases q : r 6 + 1 < (if lo9 r k = 0 then R 7 else R 8)
    · rw [if_pos q, if_pos q]
      exact h
    · rw [if_neg q, if_neg q]
      by_cases q2 : lo9 r k = 0
      · rw [if_pos q2, if_pos q2]
        exact h
      · rw [if_neg q2, if_neg q2]
        exact D_u (i := 4) h (by omega)
theorem D_h (hA : pu_A p r c) (h : pu_D T R s) : pu_D T (hR9 c p R) (hs9 c r s) := by
  have e := A_hp hA
  unfold hR9 hs9
  by_cases q : hp9 c p
  · rw [if_pos q, if_pos (e.mp q)]
    exact D_u (i := 3) h (by omega)
  · rw [if_neg q, if_neg (fun x => q (e.mpr x))]
    exact h
theorem D_t {n : Nat} (hA : pu_A p r c) (hn : n ≤ c) (h : pu_D T R s) : pu_D T (tR9 p R n) (ts9 r s n) := by
  induction n with
  | zero => exact h
  | succ n ih =>
    have h2 := ih (by omega)
    have hA2 := A_th (n := n) hA (by omega)
    rw [tR_s, ts_s, A_la hA2 (by omega), A_le hA2 (by omega)]
    by_cases q : la9' (th9 r n) n = 21
    · rw [if_pos q, if_pos q]
      by_cases q2 : le9' (th9 r n) n = 0
      · rw [if_pos q2, if_pos q2]
        exact D_u (i := 2) h2 (by omega)
      · rw [if_neg q2, if_neg q2]
        exact D_u (i := 1) h2 (by omega)
    · rw [if_neg q, if_neg q]
      exact h2
theorem cR_o {j : Nat} (h : j ≠ 6) : cR9 c p R j = R j := by
  unfold cR9
  cases fs9 (ck9 p) c 0 with
  | none => rfl
  | some k =>
    show (if p 6 + 1 < (if lo9 p k = 0 then R 7 else R 8) then R else if lo9 p k = 0 then R else pu_u R 6 (R 6 + 1)) j = R j
    by_cases q : p 6 + 1 < (if lo9 p k = 0 then R 7 else R 8)
    · rw [if_pos q]
    · rw [if_neg q]
      by_cases q2 : lo9 p k = 0
      · rw [if_pos q2]
      · rw [if_neg q2, pu_u_ne h]
theorem hR_o {j : Nat} (h : j ≠ 5) : hR9 c p R j = R j := by
  unfold hR9
  by_cases q : hp9 c p
  · rw [if_pos q, pu_u_ne h]
  · rw [if_neg q]
theorem tR_o {n j : Nat} (h3 : j ≠ 3) (h4 : j ≠ 4) : tR9 p R n j = R j := by
  induction n with
  | zero => rfl
  | succ n ih =>
    rw [tR_s]
    by_cases q : la9' (th9 p n) n = 21
    · rw [if_pos q]
      by_cases q2 : le9' (th9 p n) n = 0
      · rw [if_pos q2, pu_u_ne h4, ih]
      · rw [if_neg q2, pu_u_ne h3, ih]
    · rw [if_neg q, ih]
/-- a lane's tick touches the totals only -/
theorem pR_o {j : Nat} (h : j < 2 ∨ 6 < j) : pR9 c p R j = R j := by
  unfold pR9
  rw [tR_o (by omega) (by omega), hR_o (by omega), cR_o (by omega), mR_o (by omega)]
/-- a lane's tick adds to the totals what it adds to the lane's counters -/
theorem D_tick (hA : pu_A p r c) (h : pu_D T R s) : pu_D T (pR9 c p R) (tt9 c (R 7) (R 8) (R 9) r s) := by
  obtain ⟨h1, h2⟩ := A_mo hA
  have d1 := D_m hA h
  unfold pR9 tt9
  rw [← h1]
  generalize cc9 c p = d at h2 ⊢
  have a2 := A_ct (g0 := R 7) (g1 := R 8) (g2 := R 9) h2
  have d2 := D_c h2 d1
  rw [mR_o (by decide), mR_o (by decide)] at d2
  have a3 := A_t3 a2
  exact D_t (A_hi a3) (Nat.le_refl _) (D_h a3 d2)
end QG
