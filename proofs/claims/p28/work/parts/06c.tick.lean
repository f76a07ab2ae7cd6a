section PX
variable {z : Sh9} {b c : Nat} {M : Mem9} {r s : Nat → Int32}
/-- step 2, of the settings g0 g1 g2 -/
def ct9 (c : Nat) (g0 g1 g2 : Int32) (r : Nat → Int32) : Nat → Int32 := match fs9 (ck9 r) c 0 with
  | none => pu_u r 6 0
  | some k => if r 6 + 1 < (if lo9 r k = 0 then g0 else g1) then pu_u r 6 (r 6 + 1) else pu_u (pu_u (pu_u (pu_u r 6 (r 6 + 1)) (7 + 5 * k + 4) 1) 2 (r 3 / 8 + g2)) 6 0
def cs9 (c : Nat) (g0 g1 : Int32) (r s : Nat → Int32) : Nat → Int32 := match fs9 (ck9 r) c 0 with
  | none => s
  | some k => if r 6 + 1 < (if lo9 r k = 0 then g0 else g1) then s else if lo9 r k = 0 then s else pu_u s 4 (s 4 + 1)
theorem ev_X1_checkTicket {g0 g1 g2 : Int32} (hL : pu_L z b) (hc : r 0 = nI c) (h6 : c ≤ 6) : f_X1_checkTicket z b g0 g1 g2 (pu_W M b r s) = some (.inl none, pu_W M b (ct9 c g0 g1 g2 r) (cs9 c g0 g1 r s)) := by
  obtain ⟨h0, h1, h2, h3, h4, h5⟩ := id hL
  simp only [f_X1_checkTicket, rf_k h0, gf_k h0, pf_k h0, iv_k h0, sb_k, bi_k, bv_k, ri9, rv9]
  rw [ev_X1_vehicleInCheck hL hc h6, bi_k]
  unfold ct9 cs9
  cases hf : fs9 (ck9 r) c 0 with
  | none =>
    simp only [rf_k h0, gf_k h0, pf_k h0, iv_k h0, sb_k, bi_k, bv_k, ri9, rv9, pw_x5, pw_x6, pw_x7, pw_x8, pw_x10, pw_x11, pw_x9, pw_x12, pw_x13, pw_x14, pw_x15, pw_x16, pw_w1, pw_w2, pw_w3, pw_w4, pw_w5]
    exact if_pos trivial
  | some k =>
    obtain ⟨-, hk, -⟩ := fs_some hf
    have hk6 : k < 6 := by omega
    simp only [rf_k h0, gf_k h0, pf_k h0, iv_k h0, sb_k, bi_k, bv_k, ri9, rv9, pw_5, pw_6, pw_7, pw_8, pw_10, pw_11, pw_9, pw_12, pw_13, pw_14, pw_15, pw_16, pw_a1, pw_a2, pw_a3, pw_a4, pw_a5, pw_x5, pw_x6, pw_x7, pw_x8, pw_x10, pw_x11, pw_x9, pw_x12, pw_x13, pw_x14, pw_x15, pw_x16, pw_w1, pw_w2, pw_w3, pw_w4, pw_w5, ld_k h3 hk6 (by decide)]
    rw [if_neg (by rw [show (-1 : Int32) = -1 from rfl]; intro e; have := nI_pos (n := k) (by omega); rw [e] at this; exact this (by decide))]
    have e47 : ∀ th : Int32, f_X1_checkTicket_b47 z b g2 (nI k) th (pu_u r 6 (r 6 + 1) 6) (pu_W M b (pu_u r 6 (r 6 + 1)) s) = some (.inl none, pu_W M b (if r 6 + 1 < th then pu_u r 6 (r 6 + 1) else pu_u (pu_u (pu_u (pu_u r 6 (r 6 + 1)) (7 + 5 * k + 4) 1) 2 (r 3 / 8 + g2)) 6 0) (if r 6 + 1 < th then s else if lo9 r k = 0 then s else pu_u s 4 (s 4 + 1))) := by
      intro th
      have e6 : pu_u r 6 (r 6 + 1) 6 = r 6 + 1 := pu_u_eq
      have e3 : pu_u (pu_u r 6 (r 6 + 1)) (7 + 5 * k + 4) 1 3 = r 3 := by rw [pu_u_ne (by omega), pu_u_ne (by decide)]
      have el : lo9 (pu_u (pu_u (pu_u (pu_u r 6 (r 6 + 1)) (7 + 5 * k + 4) 1) 2 (r 3 / 8 + g2)) 6 0) k = lo9 r k := by
        unfold lo9
        rw [pu_u_ne (by omega), pu_u_ne (by omega), pu_u_ne (by omega), pu_u_ne (by omega)]
      rw [e6]
      unfold f_X1_checkTicket_b47
      by_cases q : r 6 + 1 < th
      · rw [if_pos q, if_pos q, if_pos q]
        rfl
      · rw [if_neg q, if_neg q, if_neg q]
        simp only [rf_k h0, gf_k h0, pf_k h0, iv_k h0, sb_k, bi_k, bv_k, ri9, rv9, pw_5, pw_6, pw_7, pw_8, pw_10, pw_11, pw_9, pw_12, pw_13, pw_14, pw_15, pw_16, pw_a1, pw_a2, pw_a3, pw_a4, pw_a5, pw_x5, pw_x6, pw_x7, pw_x8, pw_x10, pw_x11, pw_x9, pw_x12, pw_x13, pw_x14, pw_x15, pw_x16, pw_w1, pw_w2, pw_w3, pw_w4, pw_w5, sz_k h5 hk6 (by decide) (show b9 1 from Or.inr rfl), ld_k h3 hk6 (by decide), dv9, e3]
        rw [if_neg (by decide)]
        simp only [rf_k h0, gf_k h0, pf_k h0, iv_k h0, sb_k, bi_k, bv_k, ri9, rv9, pw_5, pw_6, pw_7, pw_8, pw_10, pw_11, pw_9, pw_12, pw_13, pw_14, pw_15, pw_16, pw_a1, pw_a2, pw_a3, pw_a4, pw_a5, pw_x5, pw_x6, pw_x7, pw_x8, pw_x10, pw_x11, pw_x9, pw_x12, pw_x13, pw_x14, pw_x15, pw_x16, pw_w1, pw_w2, pw_w3, pw_w4, pw_w5, ld_k h3 hk6 (by decide), el]
        by_cases q2 : lo9 r k = 0
        · rw [if_pos q2, if_pos q2]
        · rw [if_neg q2, if_neg q2]
    have el : lo9 (pu_u r 6 (r 6 + 1)) k = lo9 r k := by
      unfold lo9
      rw [pu_u_ne (by omega)]
    rw [el]
    by_cases q : lo9 r k = 0
    · simp only [if_pos q, e47]
    · simp only [if_neg q, e47]
def rs9 (c : Nat) (r : Nat → Int32) : Int32 := if r 5 = 0 then (if (fs9 (lw9 r) c 0).isSome then 1 else if r 4 = 0 ∧ (fs9 (cv9 r) c 0).isSome then 2 else if r 2 ≤ 0 then 0 else 3) else 4
theorem ev_X1_reason (hL : pu_L z b) (hc : r 0 = nI c) (h6 : c ≤ 6) : f_X1_reason z b (pu_W M b r s) = some (.inl (some (.int (rs9 c r))), pu_W M b r s) := by
  obtain ⟨h0, -⟩ := id hL
  have e34 : f_X1_reason_b34 z b (pu_W M b r s) = some (.inl (some (.int (if r 2 ≤ 0 then 0 else 3))), pu_W M b r s) := by
    simp only [f_X1_reason_b34, rf_k h0, gf_k h0, pf_k h0, iv_k h0, sb_k, bi_k, bv_k, ri9, rv9, pw_5, pw_6, pw_7, pw_8, pw_10, pw_11, pw_9, pw_12, pw_13, pw_14, pw_15, pw_16, pw_a1, pw_a2, pw_a3, pw_a4, pw_a5]
    by_cases q : r 2 ≤ 0
    · rw [if_pos q, if_pos q]
    · rw [if_neg q, if_neg q]
  unfold rs9
  simp only [f_X1_reason, rf_k h0, gf_k h0, pf_k h0, iv_k h0, sb_k, bi_k, bv_k, ri9, rv9, pw_5, pw_6, pw_7, pw_8, pw_10, pw_11, pw_9, pw_12, pw_13, pw_14, pw_15, pw_16, pw_a1, pw_a2, pw_a3, pw_a4, pw_a5]
  by_cases q5 : r 5 = 0
  · rw [if_pos q5, if_pos q5, ev_X1_letVehicleWaits hL hc h6, bi_k]
    by_cases q1 : (fs9 (lw9 r) c 0).isSome = true
    · rw [if_pos q1, if_pos q1, if_neg (by decide)]
    · rw [if_neg q1, if_neg q1, if_pos rfl]
      simp only [rf_k h0, gf_k h0, pf_k h0, iv_k h0, sb_k, bi_k, bv_k, ri9, rv9, pw_5, pw_6, pw_7, pw_8, pw_10, pw_11, pw_9, pw_12, pw_13, pw_14, pw_15, pw_16, pw_a1, pw_a2, pw_a3, pw_a4, pw_a5]
      by_cases q4 : r 4 = 0
      · rw [if_pos q4, ev_X1_isLoopCovered hL hc h6, bi_k]
        by_cases q2 : (fs9 (cv9 r) c 0).isSome = true
        · rw [if_pos q2, if_neg (show ¬ (1 : Int32) = 0 by decide), if_pos (show r 4 = 0 ∧ (fs9 (cv9 r) c 0).isSome = true from ⟨q4, q2⟩)]
        · rw [if_neg q2, if_pos (show (0 : Int32) = 0 from rfl), e34, if_neg (show ¬ (r 4 = 0 ∧ (fs9 (cv9 r) c 0).isSome = true) from fun h => q2 h.2)]
      · rw [if_neg q4, e34, if_neg (show ¬ (r 4 = 0 ∧ (fs9 (cv9 r) c 0).isSome = true) from fun h => q4 h.1)]
  · rw [if_neg q5, if_neg q5]
/-- step 3 -/
def ah9 (up : Prop) [Decidable up] (r : Nat → Int32) : Int32 := if up then (if r 1 + 1 < 4 then r 1 + 1 else 4) else (if 0 < r 1 - 1 then r 1 - 1 else 0)
def ar9 (up : Prop) [Decidable up] (r : Nat → Int32) : Nat → Int32 := if ah9 up r = 4 then pu_u (pu_u r 1 (ah9 up r)) 2 (if 0 < r 2 - 1 then r 2 - 1 else 0) else pu_u r 1 (ah9 up r)
theorem ev_X1_moveArm {up : Prop} [Decidable up] {x : Int32} (hx : x = if up then 1 else 0) (hL : pu_L z b) : f_X1_moveArm z b x (pu_W M b r s) = some (.inl none, pu_W M b (ar9 up r) s) := by
  obtain ⟨h0, -⟩ := id hL
  subst hx
  unfold ar9 ah9
  by_cases q : up
  · rw [if_pos q, if_pos q]
    unfold f_X1_moveArm
    rw [if_neg (by decide)]
    simp only [f_X1_moveArm_b28, rf_k h0, gf_k h0, pf_k h0, iv_k h0, sb_k, bi_k, bv_k, ri9, rv9, pw_5, pw_6, pw_7, pw_8, pw_10, pw_11, pw_9, pw_12, pw_13, pw_14, pw_15, pw_16, pw_a1, pw_a2, pw_a3, pw_a4, pw_a5, pw_x5, pw_x6, pw_x7, pw_x8, pw_x10, pw_x11, pw_x9, pw_x12, pw_x13, pw_x14, pw_x15, pw_x16, pw_w1, pw_w2, pw_w3, pw_w4, pw_w5]
    rw [pu_u_eq, pu_u_ne (show 2 ≠ 1 by decide)]
    by_cases q2 : (if r 1 + 1 < 4 then r 1 + 1 else 4) = 4
    · rw [if_pos q2, if_pos q2]
    · rw [if_neg q2, if_neg q2]
  · rw [if_neg q, if_neg q]
    unfold f_X1_moveArm
    rw [if_pos rfl]
    simp only [f_X1_moveArm_b28, rf_k h0, gf_k h0, pf_k h0, iv_k h0, sb_k, bi_k, bv_k, ri9, rv9, pw_5, pw_6, pw_7, pw_8, pw_10, pw_11, pw_9, pw_12, pw_13, pw_14, pw_15, pw_16, pw_a1, pw_a2, pw_a3, pw_a4, pw_a5, pw_x5, pw_x6, pw_x7, pw_x8, pw_x10, pw_x11, pw_x9, pw_x12, pw_x13, pw_x14, pw_x15, pw_x16, pw_w1, pw_w2, pw_w3, pw_w4, pw_w5]
    rw [pu_u_eq, pu_u_ne (show 2 ≠ 1 by decide)]
    by_cases q2 : (if 0 < r 1 - 1 then r 1 - 1 else 0) = 4
    · rw [if_pos q2, if_pos q2]
    · rw [if_neg q2, if_neg q2]
/-- step 4 -/
abbrev hp9 (c : Nat) (r : Nat → Int32) : Prop := r 5 = 0 ∧ ¬ 4 ≤ r 1 ∧ (fs9 (ua9 r) c 0).isSome = true
def hi9 (c : Nat) (r : Nat → Int32) : Nat → Int32 := if hp9 c r then pu_u r 5 1 else r
def hs9 (c : Nat) (r s : Nat → Int32) : Nat → Int32 := if hp9 c r then pu_u s 3 (s 3 + 1) else s
theorem ev_X1_hitIfUnderArm (hL : pu_L z b) (hc : r 0 = nI c) (h6 : c ≤ 6) : f_X1_hitIfUnderArm z b (pu_W M b r s) = some (.inl none, pu_W M b (hi9 c r) (hs9 c r s)) := by
  obtain ⟨h0, -⟩ := id hL
  unfold hi9 hs9
  simp only [f_X1_hitIfUnderArm, rf_k h0, gf_k h0, pf_k h0, iv_k h0, sb_k, bi_k, bv_k, ri9, rv9, pw_5, pw_6, pw_7, pw_8, pw_10, pw_11, pw_9, pw_12, pw_13, pw_14, pw_15, pw_16, pw_a1, pw_a2, pw_a3, pw_a4, pw_a5]
  by_cases q5 : r 5 = 0
  · rw [if_pos q5]
    by_cases q1 : 4 ≤ r 1
    · rw [if_pos q1, if_neg (show ¬ hp9 c r from fun h => h.2.1 q1), if_neg (show ¬ hp9 c r from fun h => h.2.1 q1)]
    · rw [if_neg q1, ev_X1_isUnderArm hL hc h6, bi_k]
      by_cases q2 : (fs9 (ua9 r) c 0).isSome = true
      · rw [if_pos q2, if_neg (show ¬ (1 : Int32) = 0 by decide), if_pos (show hp9 c r from ⟨q5, q1, q2⟩), if_pos (show hp9 c r from ⟨q5, q1, q2⟩)]
        simp only [pz_k h0 (show b9 1 from Or.inr rfl), rf_k h0, gf_k h0, pf_k h0, iv_k h0, sb_k, bi_k, bv_k, ri9, rv9, pw_5, pw_6, pw_7, pw_8, pw_10, pw_11, pw_9, pw_12, pw_13, pw_14, pw_15, pw_16, pw_a1, pw_a2, pw_a3, pw_a4, pw_a5, pw_x5, pw_x6, pw_x7, pw_x8, pw_x10, pw_x11, pw_x9, pw_x12, pw_x13, pw_x14, pw_x15, pw_x16, pw_w1, pw_w2, pw_w3, pw_w4, pw_w5]
      · rw [if_neg q2, if_pos (show (0 : Int32) = 0 from rfl), if_neg (show ¬ hp9 c r from fun h => q2 h.2.2), if_neg (show ¬ hp9 c r from fun h => q2 h.2.2)]
  · rw [if_neg q5, if_neg (show ¬ hp9 c r from fun h => q5 h.1), if_neg (show ¬ hp9 c r from fun h => q5 h.1)]
/-- step 5: a vehicle that is through -/
def th9 (r : Nat → Int32) : Nat → Nat → Int32
  | 0 => r
  | n + 1 => if la9' (th9 r n) n = 21 ∧ ¬ le9' (th9 r n) n = 0 then pu_u (th9 r n) 3 (th9 r n 3 + (8 * ln9 (th9 r n) n - th9 r n 3) / 4) else th9 r n
def ts9 (r s : Nat → Int32) : Nat → Nat → Int32
  | 0 => s
  | n + 1 => if la9' (th9 r n) n = 21 then (if le9' (th9 r n) n = 0 then pu_u (ts9 r s n) 2 (ts9 r s n 2 + 1) else pu_u (ts9 r s n) 1 (ts9 r s n 1 + 1)) else ts9 r s n
theorem th_s {n : Nat} : th9 r (n + 1) = if la9' (th9 r n) n = 21 ∧ ¬ le9' (th9 r n) n = 0 then pu_u (th9 r n) 3 (th9 r n 3 + (8 * ln9 (th9 r n) n - th9 r n 3) / 4) else th9 r n := rfl
theorem ts_s {n : Nat} : ts9 r s (n + 1) = if la9' (th9 r n) n = 21 then (if le9' (th9 r n) n = 0 then pu_u (ts9 r s n) 2 (ts9 r s n 2 + 1) else pu_u (ts9 r s n) 1 (ts9 r s n 1 + 1)) else ts9 r s n := rfl
theorem th_o {n j : Nat} (h : j ≠ 3) : th9 r n j = r j := by
  induction n with
  | zero => rfl
  | succ n ih =>
    rw [th_s]
    split
    · rw [pu_u_ne h, ih]
    · exact ih
theorem ev_X1_countThrough (hL : pu_L z b) (hc : r 0 = nI c) (h6 : c ≤ 6) : f_X1_countThrough z b (pu_W M b r s) = some (.inl none, pu_W M b (th9 r c) (ts9 r s c)) := by
  have hl : ∀ rem k n, k + rem = c → rem < n → fx9 (fun _ _ _ => none) (f_X1_countThrough_b2 z) n b (nI k) (pu_W M b (th9 r k) (ts9 r s k)) = some (.inl none, pu_W M b (th9 r c) (ts9 r s c)) := by
    intro rem
    induction rem with
    | zero =>
      intro k n hk hn
      obtain ⟨n, rfl⟩ : ∃ m, n = m + 1 := ⟨n - 1, by omega⟩
      obtain ⟨h0, -⟩ := id hL
      rw [show k = c by omega, fx_k]
      simp only [f_X1_countThrough_b2, rf_k h0, gf_k h0, pf_k h0, iv_k h0, sb_k, bi_k, bv_k, ri9, rv9, pw_5, pw_6, pw_7, pw_8, pw_10, pw_11, pw_9, pw_12, pw_13, pw_14, pw_15, pw_16, pw_a1, pw_a2, pw_a3, pw_a4, pw_a5, th_o (show 0 ≠ 3 by decide)]
      rw [hc, if_pos (nI_le (Nat.le_refl _) (by omega))]
    | succ rem ih =>
      intro k n hk hn
      obtain ⟨n, rfl⟩ : ∃ m, n = m + 1 := ⟨n - 1, by omega⟩
      obtain ⟨h0, h1, -, -, -, h5⟩ := id hL
      have hk6 : k < 6 := by omega
      have hnext := ih (k + 1) n (by omega) (by omega)
      rw [th_s, ts_s] at hnext
      rw [fx_k]
      simp only [f_X1_countThrough_b2, rf_k h0, gf_k h0, pf_k h0, iv_k h0, sb_k, bi_k, bv_k, ri9, rv9, pw_5, pw_6, pw_7, pw_8, pw_10, pw_11, pw_9, pw_12, pw_13, pw_14, pw_15, pw_16, pw_a1, pw_a2, pw_a3, pw_a4, pw_a5, th_o (show 0 ≠ 3 by decide)]
      rw [hc, if_neg (nI_ge (by omega) (by omega)), ev_X1_lastCell hL hk6, bi_k]
      by_cases q : la9' (th9 r k) k = 21
      · rw [if_pos q] at hnext ⊢
        simp only [rf_k h0, gf_k h0, pf_k h0, iv_k h0, sb_k, bi_k, bv_k, ri9, rv9, pw_5, pw_6, pw_7, pw_8, pw_10, pw_11, pw_9, pw_12, pw_13, pw_14, pw_15, pw_16, pw_a1, pw_a2, pw_a3, pw_a4, pw_a5, ld_k h5 hk6 (by decide)]
        by_cases q2 : le9' (th9 r k) k = 0
        · rw [if_pos q2] at hnext ⊢
          rw [if_neg (fun h => h.2 q2)] at hnext
          simp only [rf_k h0, gf_k h0, pf_k h0, iv_k h0, sb_k, bi_k, bv_k, ri9, rv9, pw_5, pw_6, pw_7, pw_8, pw_10, pw_11, pw_9, pw_12, pw_13, pw_14, pw_15, pw_16, pw_a1, pw_a2, pw_a3, pw_a4, pw_a5, pw_x5, pw_x6, pw_x7, pw_x8, pw_x10, pw_x11, pw_x9, pw_x12, pw_x13, pw_x14, pw_x15, pw_x16, pw_w1, pw_w2, pw_w3, pw_w4, pw_w5, nI_1]
          exact hnext
        · rw [if_neg q2] at hnext ⊢
          rw [if_pos ⟨q, q2⟩] at hnext
          simp only [rf_k h0, gf_k h0, pf_k h0, iv_k h0, sb_k, bi_k, bv_k, ri9, rv9, pw_5, pw_6, pw_7, pw_8, pw_10, pw_11, pw_9, pw_12, pw_13, pw_14, pw_15, pw_16, pw_a1, pw_a2, pw_a3, pw_a4, pw_a5, pw_x5, pw_x6, pw_x7, pw_x8, pw_x10, pw_x11, pw_x9, pw_x12, pw_x13, pw_x14, pw_x15, pw_x16, pw_w1, pw_w2, pw_w3, pw_w4, pw_w5, ld_k h1 hk6 (by decide), dv9, nI_1]
          rw [if_neg (by decide)]
          simp only [rf_k h0, gf_k h0, pf_k h0, iv_k h0, sb_k, bi_k, bv_k, ri9, rv9, pw_5, pw_6, pw_7, pw_8, pw_10, pw_11, pw_9, pw_12, pw_13, pw_14, pw_15, pw_16, pw_a1, pw_a2, pw_a3, pw_a4, pw_a5, pw_x5, pw_x6, pw_x7, pw_x8, pw_x10, pw_x11, pw_x9, pw_x12, pw_x13, pw_x14, pw_x15, pw_x16, pw_w1, pw_w2, pw_w3, pw_w4, pw_w5, nI_1]
          exact hnext
      · rw [if_neg q] at hnext ⊢
        rw [if_neg (fun h => q h.1)] at hnext
        rw [nI_1]
        exact hnext
  exact hl c 0 FU9 (by omega) (fu_lt h6)
/-! a tick -/
def cc9 (c : Nat) (r : Nat → Int32) : Nat := if ps9 c (mv9 r c) then c - 1 else c
def t3 (c : Nat) (x : Nat → Int32) : Nat → Int32 := if x 5 = 0 then ar9 (¬ rs9 c x = 0) x else x
def tk9 (c : Nat) (g0 g1 g2 : Int32) (r : Nat → Int32) : Nat → Int32 := th9 (hi9 (cc9 c r) (t3 (cc9 c r) (ct9 (cc9 c r) g0 g1 g2 (mo9 c r)))) (cc9 c r)
def tt9 (c : Nat) (g0 g1 g2 : Int32) (r s : Nat → Int32) : Nat → Int32 := ts9 (hi9 (cc9 c r) (t3 (cc9 c r) (ct9 (cc9 c r) g0 g1 g2 (mo9 c r)))) (hs9 (cc9 c r) (t3 (cc9 c r) (ct9 (cc9 c r) g0 g1 g2 (mo9 c r))) (cs9 (cc9 c r) g0 g1 (mo9 c r) (mt9 c r s))) (cc9 c r)
theorem cc_le : cc9 c r ≤ c := by unfold cc9; split <;> omega
theorem mo_0 (hc : r 0 = nI c) : mo9 c r 0 = nI (cc9 c r) := by
  unfold mo9 cc9
  by_cases h : ps9 c (mv9 r c)
  · rw [if_pos h, if_pos h]
    unfold dr9
    rw [pu_u_eq, mv_sm (by omega), hc]
    obtain ⟨j, rfl⟩ : ∃ j, c = j + 1 := ⟨c - 1, by have := h.1; omega⟩
    exact nI_pred j
  · rw [if_neg h, if_neg h, mv_sm (by omega), hc]
theorem ct_0 {g0 g1 g2 : Int32} : ct9 c g0 g1 g2 r 0 = r 0 := by
  unfold ct9
  cases fs9 (ck9 r) c 0 with
  | none => exact pu_u_ne (by decide)
  | some k =>
    show (if r 6 + 1 < (if lo9 r k = 0 then g0 else g1) then pu_u r 6 (r 6 + 1) else pu_u (pu_u (pu_u (pu_u r 6 (r 6 + 1)) (7 + 5 * k + 4) 1) 2 (r 3 / 8 + g2)) 6 0) 0 = r 0
    generalize (if lo9 r k = 0 then g0 else g1) = th
    by_cases q : r 6 + 1 < th
    · rw [if_pos q]
      exact pu_u_ne (show (0 : Nat) ≠ 6 by decide)
    · rw [if_neg q, pu_u_ne (show (0 : Nat) ≠ 6 by decide), pu_u_ne (show (0 : Nat) ≠ 2 by decide), pu_u_ne (by omega), pu_u_ne (show (0 : Nat) ≠ 6 by decide)]
theorem ar_o {up : Prop} [Decidable up] {j : Nat} (h1 : j ≠ 1) (h2 : j ≠ 2) : ar9 up r j = r j := by
  unfold ar9
  split
  · rw [pu_u_ne h2, pu_u_ne h1]
  · exact pu_u_ne h1
theorem t3_o {j : Nat} (h1 : j ≠ 1) (h2 : j ≠ 2) : t3 c r j = r j := by
  unfold t3
  split
  · exact ar_o h1 h2
  · rfl
theorem hi_o {j : Nat} (h : j ≠ 5) : hi9 c r j = r j := by
  unfold hi9
  split
  · exact pu_u_ne h
  · rfl
theorem ev_X1_tick {a1 : Nat} (hL : pu_L z b) (hg : RW9 z a1 10 3) (ho : a1 < b ∨ b + 5 < a1) (hc : r 0 = nI c) (h6 : c ≤ 6) (hB : pu_B r 6) : f_X1_tick z b a1 (pu_W M b r s) = some (.inl none, pu_W M b (tk9 c (M a1 0) (M a1 1) (M a1 2) r) (tt9 c (M a1 0) (M a1 1) (M a1 2) r s)) := by
  obtain ⟨h0, -⟩ := id hL
  have hd6 : cc9 c r ≤ 6 := Nat.le_trans cc_le h6
  have hd0 : mo9 c r 0 = nI (cc9 c r) := mo_0 hc
  unfold tk9 tt9
  generalize cc9 c r = d at hd6 hd0 ⊢
  generalize hm : mo9 c r = m at hd0 ⊢
  have hct : ∀ g0 g1 g2, ct9 d g0 g1 g2 m 0 = nI d := fun g0 g1 g2 => ct_0.trans hd0
  have e40 : ∀ (y q : Nat → Int32), y 0 = nI d → f_X1_tick_b40 z b (pu_W M b y q) = some (.inl none, pu_W M b (th9 (hi9 d y) d) (ts9 (hi9 d y) (hs9 d y q) d)) := by
    intro y q hy
    simp only [f_X1_tick_b40, iv_k h0]
    rw [ev_X1_hitIfUnderArm hL hy hd6, bv_k, ev_X1_countThrough hL ((hi_o (by decide)).trans hy) hd6, bv_k]
    rfl
  simp only [f_X1_tick, iv_k h0]
  rw [ev_X1_moveVehicles hL hc h6 hB, bv_k, hm, show (0 : Int32) = nI 0 from rfl, show (1 : Int32) = nI 1 from rfl, show (2 : Int32) = nI 2 from rfl]
  rw [ld_k hg (by decide) (by decide), sb_k, ld_k hg (by decide) (by decide), sb_k, ld_k hg (by decide) (by decide), sb_k, pw_o ho, pw_o ho, pw_o ho, ev_X1_checkTicket hL hd0 hd6, bv_k]
  have hx := hct (M a1 0) (M a1 1) (M a1 2)
  generalize ct9 d (M a1 0) (M a1 1) (M a1 2) m = x at hx ⊢
  generalize cs9 d (M a1 0) (M a1 1) m (mt9 c r s) = q
  simp only [gf_k h0, sb_k, pw_5, pw_6, pw_7, pw_8, pw_10, pw_11, pw_9, pw_12, pw_13, pw_14, pw_15, pw_16, pw_a1, pw_a2, pw_a3, pw_a4, pw_a5]
  unfold t3
  by_cases q5 : x 5 = nI 0
  · rw [if_pos q5, if_pos (show x 5 = 0 from q5), ev_X1_reason hL hx hd6, bi_k]
    by_cases q0 : rs9 d x = nI 0
    · rw [if_pos q0]
      simp only [f_X1_tick_b37, iv_k h0]
      rw [ev_X1_moveArm (up := ¬ rs9 d x = 0) (by rw [if_neg (show ¬ ¬ rs9 d x = 0 from fun h => h q0)]; rfl) hL, bv_k, e40 _ _ ((ar_o (by decide) (by decide)).trans hx)]
    · rw [if_neg q0]
      simp only [f_X1_tick_b37, iv_k h0]
      rw [ev_X1_moveArm (up := ¬ rs9 d x = 0) (by rw [if_pos (show ¬ rs9 d x = 0 from q0)]; rfl) hL, bv_k, e40 _ _ ((ar_o (by decide) (by decide)).trans hx)]
  · rw [if_neg q5, if_neg (show ¬ x 5 = 0 from q5), e40 _ _ hx]
end PX
