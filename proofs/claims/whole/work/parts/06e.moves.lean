section PZ
variable {z : Sh9} {x l c : Nat} {M : Mem9} {R p : Nat → Int32}
/-- the rows from 7 to i - 1, five places ahead -/
def sd9 (p : Nat → Int32) (i : Nat) : Nat → Int32 := fun j => if 7 ≤ j ∧ j < i then p (j + 5) else p j
theorem em_dropFirst (hx : RW9 z x 10 121) (hl : l < 3) (hc : p 0 = nI c) (h1c : 1 ≤ c) (h6 : c ≤ 6) : f_X3_dropFirst z x (nI l) (pu_R M x (pu_S R l p)) = some (.inl none, pu_R M x (pu_S R l (dr9 c p))) := by
  have hq : ∀ i, sd9 (pu_u p 0 (nI (c - 1))) i 0 = nI (c - 1) := fun i => (if_neg (by omega)).trans pu_u_eq
  have hend : sd9 (pu_u p 0 (nI (c - 1))) (7 + 5 * (c - 1)) = dr9 c p := by
    funext j
    unfold dr9 sh9 sd9 pu_u
    have e : p 0 - 1 = nI (c - 1) := by
      rw [hc]
      obtain ⟨j, rfl⟩ : ∃ j, c = j + 1 := ⟨c - 1, by omega⟩
      exact nI_pred j
    rw [e]
    by_cases h0 : j = 0
    · subst h0
      rw [if_neg (by omega), if_pos rfl, if_pos rfl]
    · rw [if_neg h0, if_neg h0]
      show _ = (if 7 ≤ j ∧ j < 7 + 5 * (c - 1) then p (j + 5) else p j)
      by_cases h1 : 7 ≤ j ∧ j < 7 + 5 * (c - 1)
      · rw [if_pos h1, if_pos h1]
        exact if_neg (by omega)
      · rw [if_neg h1, if_neg h1]
  have hl2 : ∀ rem i n, i + rem = 7 + 5 * (c - 1) → 7 ≤ i → rem < n → fx9 (fun _ _ _ _ => none) (f_X3_dropFirst_b17 z) n x (nI l) (nI i) (pu_R M x (pu_S R l (sd9 (pu_u p 0 (nI (c - 1))) i))) = some (.inl none, pu_R M x (pu_S R l (dr9 c p))) := by
    intro rem
    induction rem with
    | zero =>
      intro i n hi h7 hn
      obtain ⟨n, rfl⟩ : ∃ m, n = m + 1 := ⟨n - 1, by omega⟩
      rw [fx_k]
      unfold f_X3_dropFirst_b17
      rw [em_of0 hx hl, bi_k, hq, show (7 : Int32) = nI 7 from rfl, show (5 : Int32) = nI 5 from rfl, nI_mul, nI_add, if_pos (nI_le (by omega) (by omega)), show i = 7 + 5 * (c - 1) by omega, hend]
      rfl
    | succ rem ih =>
      intro i n hi h7 hn
      obtain ⟨n, rfl⟩ : ∃ m, n = m + 1 := ⟨n - 1, by omega⟩
      rw [fx_k]
      unfold f_X3_dropFirst_b17
      rw [em_of0 hx hl, bi_k, hq, show (7 : Int32) = nI 7 from rfl, show (5 : Int32) = nI 5 from rfl, nI_mul, nI_add, if_neg (nI_ge (by omega) (by omega)), nI_add, em_of hx hl (by omega), bi_k, em_lay hx hl (by omega), bv_k, nI_1]
      have e : pu_u (sd9 (pu_u p 0 (nI (c - 1))) i) i (sd9 (pu_u p 0 (nI (c - 1))) i (i + 5)) = sd9 (pu_u p 0 (nI (c - 1))) (i + 1) := by
        generalize pu_u p 0 (nI (c - 1)) = q
        funext j
        by_cases h : j = i
        · subst h
          rw [pu_u_eq]
          unfold sd9
          rw [if_neg (by omega), if_pos (by omega)]
        · rw [pu_u_ne h]
          unfold sd9
          by_cases h1 : 7 ≤ j ∧ j < i
          · rw [if_pos h1, if_pos (by omega)]
          · rw [if_neg h1, if_neg (by omega)]
      rw [e]
      exact ih (i + 1) n (by omega) (by omega) (by omega)
  unfold f_X3_dropFirst
  rw [em_of0 hx hl, bi_k, em_lay0 hx hl, bv_k]
  have e : p 0 - 1 = nI (c - 1) := by
    rw [hc]
    obtain ⟨j, rfl⟩ : ∃ j, c = j + 1 := ⟨c - 1, by omega⟩
    exact nI_pred j
  have e7 : sd9 (pu_u p 0 (nI (c - 1))) 7 = pu_u p 0 (nI (c - 1)) := by
    funext j
    exact if_neg (by omega)
  have h := hl2 (5 * (c - 1)) 7 FU9 (by omega) (Nat.le_refl _) (by unfold FU9; omega)
  rw [e7] at h
  rw [e]
  exact h
/-- which vehicles moved -/
def mm9 (p u : Nat → Int32) : Nat → Nat → Int32
  | 0 => u
  | n + 1 => pu_u (mm9 p u n) n (if cm9 (mv9 p n) n then 1 else 0)
theorem mm_s {u : Nat → Int32} {n : Nat} : mm9 p u (n + 1) = pu_u (mm9 p u n) n (if cm9 (mv9 p n) n then 1 else 0) := rfl
theorem mv_s {n : Nat} : mv9 p (n + 1) = if cm9 (mv9 p n) n then pu_u (mv9 p n) (7 + 5 * n + 1) (fr9 (mv9 p n) n + 1) else mv9 p n := rfl
theorem mm_lt {u : Nat → Int32} {n j : Nat} (h : j < n) : mm9 p u n j = if cm9 (mv9 p j) j then 1 else 0 := by
  induction n with
  | zero => omega
  | succ n ih =>
    rw [mm_s]
    by_cases e : j = n
    · subst e; exact pu_u_eq
    · rw [pu_u_ne e]; exact ih (by omega)
/-- one place ahead, the first i -/
def su9 (u : Nat → Int32) (i : Nat) : Nat → Int32 := fun j => if j < i then u (j + 1) else u j
def mu9 (c : Nat) (p u : Nat → Int32) : Nat → Int32 := if ps9 c (mv9 p c) then su9 (mm9 p u c) (c - 1) else mm9 p u c
def mR9 (c : Nat) (p R : Nat → Int32) : Nat → Int32 := if ps9 c (mv9 p c) then pu_u R 2 (R 2 + 1) else R
theorem pu_self {f : Nat → Int32} {j : Nat} : pu_u f j (f j) = f := by
  funext i
  unfold pu_u
  by_cases h : i = j
  · rw [if_pos h, h]
  · exact if_neg h
theorem em_moveAll {x0 : Nat} {u : Nat → Int32} (ho : RW9 z x0 3 0) (hm : RW9 z (x0 + 7) 11 6) (hx : RW9 z x 10 121) (hne : x0 + 7 ≠ x) (hl : l < 3) (hc : p 0 = nI c) (h6 : c ≤ 6) : f_X3_moveAll z x0 x (nI l) (pu_R (pu_R M (x0 + 7) u) x (pu_S R l p)) = some (.inl none, pu_R (pu_R M (x0 + 7) (mu9 c p u)) x (pu_S (mR9 c p R) l (mo9 c p))) := by
  have hl2 : ∀ rem k n, k + rem = c → rem < n → fx9 (fun _ _ _ _ _ => none) (f_X3_moveAll_b2 z) n x0 x (nI l) (nI k) (pu_R (pu_R M (x0 + 7) (mm9 p u k)) x (pu_S R l (mv9 p k))) = some (.inl none, pu_R (pu_R M (x0 + 7) (mu9 c p u)) x (pu_S (mR9 c p R) l (mo9 c p))) := by
    intro rem
    induction rem with
    | zero =>
      intro k n hk hn
      obtain ⟨n, rfl⟩ : ∃ m, n = m + 1 := ⟨n - 1, by omega⟩
      rw [show k = c by omega, fx_k]
      unfold f_X3_moveAll_b2
      rw [em_of0 hx hl, bi_k, mv_sm (show 0 < 7 by omega), hc, if_pos (nI_le (Nat.le_refl _) (by omega)), em_of0 hx hl, bi_k, mv_sm (show 0 < 7 by omega), hc]
      unfold mu9 mR9 mo9
      by_cases h0c : c = 0
      · rw [if_pos (by rw [h0c]; decide)]
        have hn9 : ¬ ps9 c (mv9 p c) := fun h => by have := h.1; omega
        rw [if_neg hn9, if_neg hn9, if_neg hn9]
        rfl
      · rw [if_neg (nI_nle (by omega) (by omega)), show (0 : Int32) = nI 0 from rfl, em_last hx hl (by omega), bi_k]
        by_cases q : la9' (mv9 p c) 0 ≤ 39
        · have hn9 : ¬ ps9 c (mv9 p c) := fun h => h.2 q
          rw [if_pos q, if_neg hn9, if_neg hn9, if_neg hn9]
          rfl
        · have hp9 : ps9 c (mv9 p c) := ⟨by omega, q⟩
          rw [if_neg q, if_pos hp9, if_pos hp9, if_pos hp9, em_dropFirst hx hl ((mv_sm (by omega)).trans hc) (by omega) h6, bv_k]
          have hd0 : dr9 c (mv9 p c) 0 = nI (c - 1) := by
            unfold dr9
            rw [pu_u_eq, mv_sm (by omega), hc]
            obtain ⟨j, rfl⟩ : ∃ j, c = j + 1 := ⟨c - 1, by omega⟩
            exact nI_pred j
          generalize hdr : dr9 c (mv9 p c) = d at hd0 ⊢
          rw [show (2 : Int32) = nI 2 from rfl, ld_k hx (by decide) (by decide), sb_k, st_k hx (by decide) (by decide), sb_k, pr_x, pr_w, ps_h (by decide), ps_v (by decide)]
          generalize pu_u R 2 (R 2 + 1) = R2
          generalize hw : mm9 p u c = w
          have hwb : ∀ j, j < c → b9 (w j) := fun j hj => by rw [← hw, mm_lt hj]; exact int_or _
          have hs : ∀ rem i n, i + rem = c - 1 → rem < n → fx9 (fun _ _ _ _ _ => none) (f_X3_moveAll_b96 z) n x0 x (nI l) (nI i) (pu_R (pu_R M (x0 + 7) (su9 w i)) x (pu_S R2 l d)) = some (.inl none, pu_R (pu_R M (x0 + 7) (su9 w (c - 1))) x (pu_S R2 l d)) := by
            intro rem
            induction rem with
            | zero =>
              intro i n hi hn
              obtain ⟨n, rfl⟩ : ∃ m, n = m + 1 := ⟨n - 1, by omega⟩
              rw [show i = c - 1 by omega, fx_k]
              unfold f_X3_moveAll_b96
              rw [em_of0 hx hl, bi_k, hd0, if_pos (nI_le (Nat.le_refl _) (by omega))]
              rfl
            | succ rem ih =>
              intro i n hi hn
              obtain ⟨n, rfl⟩ : ∃ m, n = m + 1 := ⟨n - 1, by omega⟩
              rw [fx_k]
              unfold f_X3_moveAll_b96
              have e1 : su9 w i (i + 1) = w (i + 1) := if_neg (by omega)
              have e2 : pu_u (su9 w i) i (w (i + 1)) = su9 w (i + 1) := by
                funext j
                by_cases h : j = i
                · subst h
                  rw [pu_u_eq]
                  exact (if_pos (by omega)).symm
                · rw [pu_u_ne h]
                  unfold su9
                  by_cases h1 : j < i
                  · rw [if_pos h1, if_pos (by omega)]
                  · rw [if_neg h1, if_neg (by omega)]
              rw [em_of0 hx hl, bi_k, hd0, if_neg (nI_ge (by omega) (by omega)), rf_k ho, sb_k, sb_k, nI_1, ld_k hm (by omega) (by decide), sb_k, pr_o hne, pr_x, e1, sz_k hm (by omega) (by decide) (hwb (i + 1) (by omega)), sb_k, pr_wo hne, pr_w, e2]
              exact ih (i + 1) n (by omega) (by omega)
          have e0 : su9 w 0 = w := by
            funext j
            exact if_neg (by omega)
          have h := hs (c - 1) 0 FU9 (by omega) (by unfold FU9; omega)
          rw [e0] at h
          exact h
    | succ rem ih =>
      intro k n hk hn
      obtain ⟨n, rfl⟩ : ∃ m, n = m + 1 := ⟨n - 1, by omega⟩
      have hk6 : k < 6 := by omega
      have hnext := ih (k + 1) n (by omega) (by omega)
      rw [mm_s, mv_s] at hnext
      rw [fx_k]
      unfold f_X3_moveAll_b2
      rw [em_of0 hx hl, bi_k, mv_sm (show 0 < 7 by omega), hc, if_neg (nI_ge (by omega) (by omega)), rf_k ho, sb_k, em_canMove hx hl hk6, bi_k, sz_k hm hk6 (by decide) (int_or _), sb_k, pr_wo hne, pr_w, em_place1, bi_k, em_told1 hx hl hk6, bi_k, sb_k, ld_k hm hk6 (by decide), sb_k, pr_o hne, pr_x, pu_u_eq]
      by_cases q : cm9 (mv9 p k) k
      · rw [if_pos q, if_pos q] at hnext
        rw [if_pos q, if_neg (show ¬ (1 : Int32) = 0 by decide)]
        unfold f_X3_moveAll_b52
        rw [em_lay hx hl (by omega), bv_k, nI_1]
        exact hnext
      · rw [if_neg q, if_neg q] at hnext
        rw [if_neg q, if_pos (show (0 : Int32) = 0 from rfl)]
        unfold f_X3_moveAll_b52
        rw [em_lay hx hl (by omega), bv_k, nI_1, Int32.add_zero]
        have e : pu_u (mv9 p k) (7 + 5 * k + 1) (fr9 (mv9 p k) k) = mv9 p k := pu_self
        rw [e]
        exact hnext
  exact hl2 c 0 FU9 (by omega) (fu_lt h6)
end PZ
