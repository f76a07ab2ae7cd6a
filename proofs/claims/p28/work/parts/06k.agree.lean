section QF
variable {c : Nat} {p r : Nat → Int32}
/-- the same, as far as there are vehicles -/
def pu_A (p r : Nat → Int32) (c : Nat) : Prop := ∀ j, j < 7 + 5 * c → p j = r j
theorem A_fr {k : Nat} (h : pu_A p r c) (hk : k < c) : fr9 p k = fr9 r k := h _ (by omega)
theorem A_ln {k : Nat} (h : pu_A p r c) (hk : k < c) : ln9 p k = ln9 r k := h _ (by omega)
theorem A_lo {k : Nat} (h : pu_A p r c) (hk : k < c) : lo9 p k = lo9 r k := h _ (by omega)
theorem A_fo {k : Nat} (h : pu_A p r c) (hk : k < c) : fo9 p k = fo9 r k := h _ (by omega)
theorem A_le {k : Nat} (h : pu_A p r c) (hk : k < c) : le9' p k = le9' r k := h _ (by omega)
theorem A_la {k : Nat} (h : pu_A p r c) (hk : k < c) : la9' p k = la9' r k := by
  unfold la9'
  rw [A_fr h hk, A_ln h hk]
theorem A_u {j : Nat} {v : Int32} (h : pu_A p r c) : pu_A (pu_u p j v) (pu_u r j v) c := by
  intro i hi
  unfold pu_u
  by_cases e : i = j
  · rw [if_pos e, if_pos e]
  · rw [if_neg e, if_neg e]
    exact h i hi
theorem A_cm {k : Nat} (h : pu_A p r c) (hk : k < c) : cm9 p k ↔ cm9 r k := by
  unfold cm9
  rw [A_fr h hk, A_le h hk, A_fo h hk, h 1 (by omega)]
  by_cases e : k = 0
  · simp only [e, true_or, true_and]
  · rw [A_la h (show k - 1 < c by omega)]
theorem A_mv {n : Nat} (h : pu_A p r c) (hn : n ≤ c) : pu_A (mv9 p n) (mv9 r n) c := by
  induction n with
  | zero => exact h
  | succ n ih =>
    have h2 := ih (by omega)
    have hc := A_cm h2 (show n < c by omega)
    rw [mv_s, mv_s]
    by_cases q : cm9 (mv9 p n) n
    · rw [if_pos q, if_pos (hc.mp q), A_fr h2 (by omega)]
      exact A_u h2
    · rw [if_neg q, if_neg (fun e => q (hc.mpr e))]
      exact h2
theorem A_ps (h : pu_A p r c) : ps9 c p ↔ ps9 c r := by
  by_cases h0 : 0 < c
  · unfold ps9
    rw [A_la h h0]
  · exact ⟨fun e => absurd e.1 h0, fun e => absurd e.1 h0⟩
theorem A_dr (h : pu_A p r c) : pu_A (dr9 c p) (dr9 c r) (c - 1) := by
  intro j hj
  unfold dr9 pu_u
  by_cases e : j = 0
  · rw [if_pos e, if_pos e, h 0 (by omega)]
  · rw [if_neg e, if_neg e]
    unfold sh9
    by_cases e2 : 7 ≤ j ∧ j < 7 + 5 * (c - 1)
    · rw [if_pos e2, if_pos e2, h (j + 5) (by omega)]
    · rw [if_neg e2, if_neg e2, h j (by omega)]
theorem A_mo (h : pu_A p r c) : cc9 c p = cc9 c r ∧ pu_A (mo9 c p) (mo9 c r) (cc9 c p) := by
  have hm := A_mv h (Nat.le_refl c)
  have hp := A_ps hm
  unfold cc9 mo9
  by_cases q : ps9 c (mv9 p c)
  · rw [if_pos q, if_pos (hp.mp q), if_pos q, if_pos (hp.mp q)]
    exact ⟨rfl, A_dr hm⟩
  · rw [if_neg q, if_neg (fun e => q (hp.mpr e)), if_neg q, if_neg (fun e => q (hp.mpr e))]
    exact ⟨rfl, hm⟩
theorem A_ck (h : pu_A p r c) : fs9 (ck9 p) c 0 = fs9 (ck9 r) c 0 := fs_cong (fun j _ hj => by unfold ck9; rw [A_fr h (by omega), A_le h (by omega)])
theorem A_lw (h : pu_A p r c) : fs9 (lw9 p) c 0 = fs9 (lw9 r) c 0 := fs_cong (fun j _ hj => by unfold lw9; rw [A_fr h (by omega), A_le h (by omega)])
theorem A_cv (h : pu_A p r c) : fs9 (cv9 p) c 0 = fs9 (cv9 r) c 0 := fs_cong (fun j _ hj => by unfold cv9; rw [A_fr h (by omega), A_la h (by omega)])
theorem A_ua (h : pu_A p r c) : fs9 (ua9 p) c 0 = fs9 (ua9 r) c 0 := fs_cong (fun j _ hj => by unfold ua9; rw [A_fr h (by omega), A_la h (by omega)])
theorem A_ct {g0 g1 g2 : Int32} (h : pu_A p r c) : pu_A (ct9 c g0 g1 g2 p) (ct9 c g0 g1 g2 r) c := by
  unfold ct9
  rw [A_ck h]
  cases hf : fs9 (ck9 r) c 0 with
  | none => exact A_u h
  | some k =>
    obtain ⟨-, hk, -⟩ := fs_some hf
    show pu_A (if p 6 + 1 < (if lo9 p k = 0 then g0 else g1) then pu_u p 6 (p 6 + 1) else pu_u (pu_u (pu_u (pu_u p 6 (p 6 + 1)) (7 + 5 * k + 4) 1) 2 (p 3 / 8 + g2)) 6 0) (if r 6 + 1 < (if lo9 r k = 0 then g0 else g1) then pu_u r 6 (r 6 + 1) else pu_u (pu_u (pu_u (pu_u r 6 (r 6 + 1)) (7 + 5 * k + 4) 1) 2 (r 3 / 8 + g2)) 6 0) c
    rw [A_lo h (by omega), h 6 (by omega), h 3 (by omega)]
    generalize (if lo9 r k = 0 then g0 else g1) = th
    by_cases q : r 6 + 1 < th
    · rw [if_pos q, if_pos q]
      exact A_u h
    · rw [if_neg q, if_neg q]
      exact A_u (A_u (A_u (A_u h)))
theorem A_rs (h : pu_A p r c) : rs9 c p = rs9 c r := by
  unfold rs9
  rw [A_lw h, A_cv h, h 5 (by omega), h 4 (by omega), h 2 (by omega)]
theorem A_t3 (h : pu_A p r c) : pu_A (t3 c p) (t3 c r) c := by
  have e : ah9 (¬ rs9 c p = 0) p = ah9 (¬ rs9 c r = 0) r := by
    unfold ah9
    rw [h 1 (by omega)]
    by_cases q : rs9 c r = 0
    · rw [if_neg (show ¬ ¬ rs9 c p = 0 from fun e => e ((A_rs h).trans q)), if_neg (show ¬ ¬ rs9 c r = 0 from fun e => e q)]
    · rw [if_pos (show ¬ rs9 c p = 0 from fun e => q ((A_rs h).symm.trans e)), if_pos (show ¬ rs9 c r = 0 from q)]
  unfold t3
  rw [h 5 (by omega)]
  by_cases q : r 5 = 0
  · rw [if_pos q, if_pos q]
    unfold ar9
    rw [e, h 2 (by omega)]
    by_cases q4 : ah9 (¬ rs9 c r = 0) r = 4
    · rw [if_pos q4, if_pos q4]
      exact A_u (A_u h)
    · rw [if_neg q4, if_neg q4]
      exact A_u h
  · rw [if_neg q, if_neg q]
    exact h
theorem A_hp (h : pu_A p r c) : hp9 c p ↔ hp9 c r := by
  unfold hp9
  rw [A_ua h, h 5 (by omega), h 1 (by omega)]
theorem A_hi (h : pu_A p r c) : pu_A (hi9 c p) (hi9 c r) c := by
  have e := A_hp h
  unfold hi9
  by_cases q : hp9 c p
  · rw [if_pos q, if_pos (e.mp q)]
    exact A_u h
  · rw [if_neg q, if_neg (fun x => q (e.mpr x))]
    exact h
theorem A_th {n : Nat} (h : pu_A p r c) (hn : n ≤ c) : pu_A (th9 p n) (th9 r n) c := by
  induction n with
  | zero => exact h
  | succ n ih =>
    have h2 := ih (by omega)
    rw [th_s, th_s, A_la h2 (by omega), A_le h2 (by omega), A_ln h2 (by omega), h2 3 (by omega)]
    by_cases q : la9' (th9 r n) n = 21 ∧ ¬ le9' (th9 r n) n = 0
    · rw [if_pos q, if_pos q]
      exact A_u h2
    · rw [if_neg q, if_neg q]
      exact h2
theorem A_tk {g0 g1 g2 : Int32} (h : pu_A p r c) : pu_A (tk9 c g0 g1 g2 p) (tk9 c g0 g1 g2 r) (cc9 c p) := by
  obtain ⟨h1, h2⟩ := A_mo h
  unfold tk9
  rw [← h1]
  exact A_th (A_hi (A_t3 (A_ct h2))) (Nat.le_refl _)
end QF
