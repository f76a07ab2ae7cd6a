section PV
variable {z : Sh9} {b c : Nat} {M : Mem9} {r s : Nat → Int32}
theorem rz_0 : rz9 0 M = some (.inl (some (.int 0)), M) := if_pos (Or.inl rfl)
theorem rz_1 : rz9 1 M = some (.inl (some (.int 1)), M) := if_pos (Or.inr rfl)
/-- the first place from k on, of r places, where P holds -/
def fs9 (P : Nat → Prop) [DecidablePred P] : Nat → Nat → Option Nat
  | 0, _ => none
  | r + 1, k => if P k then some k else fs9 P r (k + 1)
theorem fs_cong {P Q : Nat → Prop} [DecidablePred P] [DecidablePred Q] : ∀ {r k : Nat}, (∀ j, k ≤ j → j < k + r → (P j ↔ Q j)) → fs9 P r k = fs9 Q r k := by
  intro r
  induction r with
  | zero => intro k _; rfl
  | succ r ih =>
    intro k h
    have h0 := h k (Nat.le_refl _) (by omega)
    unfold fs9
    rw [ih (fun j h1 h2 => h j (by omega) (by omega))]
    by_cases hp : P k
    · rw [if_pos hp, if_pos (h0.mp hp)]
    · rw [if_neg hp, if_neg (fun q => hp (h0.mpr q))]
theorem fs_some {P : Nat → Prop} [DecidablePred P] : ∀ {r k j : Nat}, fs9 P r k = some j → k ≤ j ∧ j < k + r ∧ P j := by
  intro r
  induction r with
  | zero => intro k j h; cases h
  | succ r ih =>
    intro k j h
    unfold fs9 at h
    by_cases hp : P k
    · rw [if_pos hp] at h
      cases h
      exact ⟨Nat.le_refl _, by omega, hp⟩
    · rw [if_neg hp] at h
      obtain ⟨a1, a2, a3⟩ := ih h
      exact ⟨by omega, by omega, a3⟩
theorem fx_find {bot : Nat → Int32 → Mem9 → Re9} {F : (Nat → Int32 → Mem9 → Re9) → Nat → Int32 → Mem9 → Re9} {P : Nat → Prop} [DecidablePred P] {E : Re9} {O : Nat → Re9} (h1 : ∀ g k, k < c → P k → F g b (nI k) M = O k) (h2 : ∀ g k, k < c → ¬ P k → F g b (nI k) M = g b (nI k + 1) M) (h3 : ∀ g, F g b (nI c) M = E) :
    ∀ r k n, k + r = c → r < n → fx9 bot F n b (nI k) M = match fs9 P r k with | none => E | some j => O j := by
  intro r
  induction r with
  | zero =>
    intro k n hk hn
    obtain ⟨n, rfl⟩ : ∃ m, n = m + 1 := ⟨n - 1, by omega⟩
    rw [fx_k, show k = c by omega, h3]
    rfl
  | succ r ih =>
    intro k n hk hn
    obtain ⟨n, rfl⟩ : ∃ m, n = m + 1 := ⟨n - 1, by omega⟩
    rw [fx_k]
    unfold fs9
    by_cases hp : P k
    · rw [if_pos hp, h1 _ _ (by omega) hp]
    · rw [if_neg hp, h2 _ _ (by omega) hp, nI_1, ih (k + 1) n (by omega) (by omega)]
/-- the vehicle that is checked -/
abbrev ck9 (r : Nat → Int32) (k : Nat) : Prop := fr9 r k = 19 ∧ le9' r k = 0
theorem ev_X1_lastCell {k : Nat} (hL : pu_L z b) (hk : k < 6) : f_X1_lastCell z b (nI k) (pu_W M b r s) = some (.inl (some (.int (la9' r k))), pu_W M b r s) := by
  obtain ⟨h0, h1, h2, h3, h4, h5⟩ := hL
  simp only [f_X1_lastCell, rf_k h0, gf_k h0, iv_k h0, sb_k, bi_k, bv_k, ri9, rv9, ld_k h1 hk (by decide), ld_k h2 hk (by decide), ld_k h3 hk (by decide), ld_k h4 hk (by decide), ld_k h5 hk (by decide), pw_5, pw_6, pw_7, pw_8, pw_10, pw_11, pw_9, pw_12, pw_13, pw_14, pw_15, pw_16, pw_a1, pw_a2, pw_a3, pw_a4, pw_a5]
  rfl
theorem ev_X1_canMove {k : Nat} (hL : pu_L z b) (hk : k < 6) (hb5 : b9 (le9' r k)) (hb4 : b9 (fo9 r k)) : f_X1_canMove z b (nI k) (pu_W M b r s) = some (.inl (some (.int (if cm9 r k then 1 else 0))), pu_W M b r s) := by
  have hLL := hL
  obtain ⟨h0, h1, h2, h3, h4, h5⟩ := hL
  have e28 : f_X1_canMove_b28 z b (nI k) (pu_W M b r s) = some (.inl (some (.int (if (fr9 r k = 19 → r 1 = 4 ∧ (le9' r k = 1 ∨ fo9 r k = 1)) then 1 else 0))), pu_W M b r s) := by
    simp only [f_X1_canMove_b28, rf_k h0, gf_k h0, iv_k h0, sb_k, bi_k, bv_k, ri9, rv9, ld_k h1 hk (by decide), ld_k h2 hk (by decide), ld_k h3 hk (by decide), ld_k h4 hk (by decide), ld_k h5 hk (by decide), pw_5, pw_6, pw_7, pw_8, pw_10, pw_11, pw_9, pw_12, pw_13, pw_14, pw_15, pw_16, pw_a1, pw_a2, pw_a3, pw_a4, pw_a5]
    by_cases q1 : fr9 r k = 19
    · rw [if_pos q1]
      by_cases q2 : r 1 = 4
      · rw [if_pos q2]
        rcases hb5 with q3 | q3
        · rw [if_pos q3]
          rcases hb4 with q4 | q4
          · rw [if_pos q4, rz_0, if_neg (fun h => by rcases (h q1).2 with h | h <;> simp_all)]
          · rw [if_neg (by rw [q4]; decide), rz_1, if_pos (fun _ => ⟨q2, Or.inr q4⟩)]
        · rw [if_neg (by rw [q3]; decide), rz_1, if_pos (fun _ => ⟨q2, Or.inl q3⟩)]
      · rw [if_neg q2, rz_0, if_neg (fun h => q2 (h q1).1)]
    · rw [if_neg q1, rz_1, if_pos (fun h => absurd h q1)]
  simp only [f_X1_canMove, rf_k h0, gf_k h0, iv_k h0, sb_k, bi_k, bv_k, ri9, rv9, ld_k h1 hk (by decide), ld_k h2 hk (by decide), ld_k h3 hk (by decide), ld_k h4 hk (by decide), ld_k h5 hk (by decide), pw_5, pw_6, pw_7, pw_8, pw_10, pw_11, pw_9, pw_12, pw_13, pw_14, pw_15, pw_16, pw_a1, pw_a2, pw_a3, pw_a4, pw_a5, nm9]
  rcases Nat.eq_zero_or_pos k with hk0 | hk0
  · subst hk0
    rw [if_pos (by decide), e28]
    unfold cm9
    simp only [true_or, true_and]
  · obtain ⟨j, rfl⟩ : ∃ j, k = j + 1 := ⟨k - 1, by omega⟩
    rw [if_neg (nI_nle (by omega) (by omega)), nI_pred, ev_X1_lastCell hLL (by omega), bi_k]
    have ea : fr9 r (j + 1) + 1 + 1 = fr9 r (j + 1) + 2 := by rw [Int32.add_assoc]; rfl
    rw [ea]
    unfold cm9
    by_cases q : fr9 r (j + 1) + 2 ≤ la9' r j
    · rw [if_pos q, e28]
      simp only [Nat.add_sub_cancel, q, or_true, true_and]
    · rw [if_neg q, rz_0, if_neg (fun h => h.1.elim (fun h1 => by omega) (fun h1 => q h1))]
/-! step 1 -/
def mv9 (r : Nat → Int32) : Nat → Nat → Int32
  | 0 => r
  | n + 1 => if cm9 (mv9 r n) n then pu_u (mv9 r n) (7 + 5 * n + 1) (fr9 (mv9 r n) n + 1) else mv9 r n
theorem mv_o {n j : Nat} : (∀ k, k < n → j ≠ 7 + 5 * k + 1) → mv9 r n j = r j := by
  induction n with
  | zero => intro _; rfl
  | succ n ih =>
    intro h
    unfold mv9
    by_cases q : cm9 (mv9 r n) n
    · rw [if_pos q, pu_u_ne (h n (by omega)), ih (fun k hk => h k (by omega))]
    · rw [if_neg q, ih (fun k hk => h k (by omega))]
theorem mv_lo {n k : Nat} : lo9 (mv9 r n) k = lo9 r k := mv_o (fun _ _ => by omega)
theorem mv_fo {n k : Nat} : fo9 (mv9 r n) k = fo9 r k := mv_o (fun _ _ => by omega)
theorem mv_le {n k : Nat} : le9' (mv9 r n) k = le9' r k := mv_o (fun _ _ => by omega)
theorem mv_ln {n k : Nat} : ln9 (mv9 r n) k = ln9 r k := mv_o (fun _ _ => by omega)
theorem mv_sm {n j : Nat} (h : j < 7) : mv9 r n j = r j := mv_o (fun _ _ => by omega)
theorem mv_fr {n k : Nat} (h : n ≤ k) : fr9 (mv9 r n) k = fr9 r k := mv_o (fun _ _ => by omega)
/-- the booleans of the vehicles that there are -/
def pu_B (r : Nat → Int32) (c : Nat) : Prop := ∀ k, k < c → b9 (lo9 r k) ∧ b9 (fo9 r k) ∧ b9 (le9' r k)
/-- rows behind the first k, one place ahead -/
def sh9 (r : Nat → Int32) (k : Nat) : Nat → Int32 := fun j => if 7 ≤ j ∧ j < 7 + 5 * (k - 1) then r (j + 5) else r j
theorem sh_1 : sh9 r 1 = r := by
  funext j
  exact if_neg (by omega)
theorem sh_s {k : Nat} (hk : 1 ≤ k) : pu_u (pu_u (pu_u (pu_u (pu_u (sh9 r k) (7 + 5 * (k - 1) + 0) (r (7 + 5 * k + 0))) (7 + 5 * (k - 1) + 1) (r (7 + 5 * k + 1))) (7 + 5 * (k - 1) + 2) (r (7 + 5 * k + 2))) (7 + 5 * (k - 1) + 3) (r (7 + 5 * k + 3))) (7 + 5 * (k - 1) + 4) (r (7 + 5 * k + 4)) = sh9 r (k + 1) := by
  funext j
  by_cases h : 7 + 5 * (k - 1) ≤ j ∧ j < 7 + 5 * k
  · obtain ⟨i, hi, rfl⟩ : ∃ i, i < 5 ∧ j = 7 + 5 * (k - 1) + i := ⟨j - (7 + 5 * (k - 1)), by omega, by omega⟩
    unfold sh9
    rw [if_pos (by omega), show 7 + 5 * (k - 1) + i + 5 = 7 + 5 * k + i by omega]
    rcases (show i = 0 ∨ i = 1 ∨ i = 2 ∨ i = 3 ∨ i = 4 by omega) with rfl | rfl | rfl | rfl | rfl
    · rw [pu_u_ne (by omega), pu_u_ne (by omega), pu_u_ne (by omega), pu_u_ne (by omega), pu_u_eq]
    · rw [pu_u_ne (by omega), pu_u_ne (by omega), pu_u_ne (by omega), pu_u_eq]
    · rw [pu_u_ne (by omega), pu_u_ne (by omega), pu_u_eq]
    · rw [pu_u_ne (by omega), pu_u_eq]
    · rw [pu_u_eq]
  · rw [pu_u_ne (by omega), pu_u_ne (by omega), pu_u_ne (by omega), pu_u_ne (by omega), pu_u_ne (by omega)]
    unfold sh9
    by_cases h2 : 7 ≤ j ∧ j < 7 + 5 * (k - 1)
    · rw [if_pos h2, if_pos (by omega)]
    · rw [if_neg h2, if_neg (by omega)]
theorem ev_X1_copyIn {k : Nat} (hL : pu_L z b) (hk : k < 6) (h1k : 1 ≤ k) (hB : pu_B r 6) : f_X1_copyVehicle z b b (nI k) (nI (k - 1)) (pu_W M b (sh9 r k) s) = some (.inl none, pu_W M b (sh9 r (k + 1)) s) := by
  obtain ⟨h0, h1, h2, h3, h4, h5⟩ := hL
  have hj : k - 1 < 6 := by omega
  obtain ⟨b1, b2, b3⟩ := hB k hk
  have q : ∀ i, i < 5 → sh9 r k (7 + 5 * k + i) = r (7 + 5 * k + i) := fun i hi => if_neg (by omega)
  have q0 : ln9 (sh9 r k) k = r (7 + 5 * k + 0) := q 0 (by omega)
  have q1 : fr9 (pu_u (sh9 r k) (7 + 5 * (k - 1) + 0) (r (7 + 5 * k + 0))) k = r (7 + 5 * k + 1) := by unfold fr9; rw [pu_u_ne (by omega)]; exact q 1 (by omega)
  have q2 : lo9 (pu_u (pu_u (sh9 r k) (7 + 5 * (k - 1) + 0) (r (7 + 5 * k + 0))) (7 + 5 * (k - 1) + 1) (r (7 + 5 * k + 1))) k = r (7 + 5 * k + 2) := by unfold lo9; rw [pu_u_ne (by omega), pu_u_ne (by omega)]; exact q 2 (by omega)
  have q3 : fo9 (pu_u (pu_u (pu_u (sh9 r k) (7 + 5 * (k - 1) + 0) (r (7 + 5 * k + 0))) (7 + 5 * (k - 1) + 1) (r (7 + 5 * k + 1))) (7 + 5 * (k - 1) + 2) (r (7 + 5 * k + 2))) k = r (7 + 5 * k + 3) := by unfold fo9; rw [pu_u_ne (by omega), pu_u_ne (by omega), pu_u_ne (by omega)]; exact q 3 (by omega)
  have q4 : le9' (pu_u (pu_u (pu_u (pu_u (sh9 r k) (7 + 5 * (k - 1) + 0) (r (7 + 5 * k + 0))) (7 + 5 * (k - 1) + 1) (r (7 + 5 * k + 1))) (7 + 5 * (k - 1) + 2) (r (7 + 5 * k + 2))) (7 + 5 * (k - 1) + 3) (r (7 + 5 * k + 3))) k = r (7 + 5 * k + 4) := by unfold le9'; rw [pu_u_ne (by omega), pu_u_ne (by omega), pu_u_ne (by omega), pu_u_ne (by omega)]; exact q 4 (by omega)
  have w3 : b9 (r (7 + 5 * k + 2)) := b1
  have w4 : b9 (r (7 + 5 * k + 3)) := b2
  have w5 : b9 (r (7 + 5 * k + 4)) := b3
  simp only [f_X1_copyVehicle, rf_k h0, gf_k h0, iv_k h0, sb_k, bi_k, bv_k, ri9, rv9, ld_k h1 hk (by decide), ld_k h2 hk (by decide), ld_k h3 hk (by decide), ld_k h4 hk (by decide), ld_k h5 hk (by decide), pw_5, pw_6, pw_7, pw_8, pw_10, pw_11, pw_9, pw_12, pw_13, pw_14, pw_15, pw_16, pw_a1, pw_a2, pw_a3, pw_a4, pw_a5, st_k h1 hj (by decide), st_k h2 hj (by decide), sz_k h3 hj (by decide), sz_k h4 hj (by decide), sz_k h5 hj (by decide), pw_x5, pw_x6, pw_x7, pw_x8, pw_x10, pw_x11, pw_x9, pw_x12, pw_x13, pw_x14, pw_x15, pw_x16, pw_w1, pw_w2, pw_w3, pw_w4, pw_w5, q0, q1, q2, q3, q4, w3, w4, w5, sh_s h1k]
def dr9 (c : Nat) (r : Nat → Int32) : Nat → Int32 := pu_u (sh9 r c) 0 (r 0 - 1)
theorem fu_lt {c : Nat} (h : c ≤ 6) : c < FU9 := by unfold FU9; omega
theorem ev_X1_removeFirst (hL : pu_L z b) (hc : r 0 = nI c) (h1c : 1 ≤ c) (h6 : c ≤ 6) (hB : pu_B r 6) : f_X1_removeFirst z b (pu_W M b r s) = some (.inl none, pu_W M b (dr9 c r) s) := by
  have hl : ∀ rem k n, k + rem = c → 1 ≤ k → rem < n → fx9 (fun _ _ _ => none) (f_X1_removeFirst_b2 z) n b (nI k) (pu_W M b (sh9 r k) s) = some (.inl none, pu_W M b (dr9 c r) s) := by
    intro rem
    induction rem with
    | zero =>
      intro k n hk h1 hn
      obtain ⟨n, rfl⟩ : ∃ m, n = m + 1 := ⟨n - 1, by omega⟩
      obtain ⟨h0, -⟩ := id hL
      have e0 : sh9 r k 0 = r 0 := if_neg (by omega)
      rw [fx_k]
      simp only [f_X1_removeFirst_b2, rf_k h0, gf_k h0, pf_k h0, iv_k h0, sb_k, bi_k, bv_k, ri9, rv9, pw_5, pw_6, pw_7, pw_8, pw_10, pw_11, pw_9, pw_12, pw_13, pw_14, pw_15, pw_16, pw_a1, pw_a2, pw_a3, pw_a4, pw_a5, pw_x5, pw_x6, pw_x7, pw_x8, pw_x10, pw_x11, pw_x9, pw_x12, pw_x13, pw_x14, pw_x15, pw_x16, pw_w1, pw_w2, pw_w3, pw_w4, pw_w5, e0]
      rw [hc, if_pos (nI_le (by omega) (by omega)), show k = c by omega, ← hc]
      rfl
    | succ rem ih =>
      intro k n hk h1 hn
      obtain ⟨n, rfl⟩ : ∃ m, n = m + 1 := ⟨n - 1, by omega⟩
      obtain ⟨h0, -⟩ := id hL
      have e0 : sh9 r k 0 = r 0 := if_neg (by omega)
      rw [fx_k]
      simp only [f_X1_removeFirst_b2, rf_k h0, gf_k h0, pf_k h0, iv_k h0, sb_k, bi_k, bv_k, ri9, rv9, pw_5, pw_6, pw_7, pw_8, pw_10, pw_11, pw_9, pw_12, pw_13, pw_14, pw_15, pw_16, pw_a1, pw_a2, pw_a3, pw_a4, pw_a5, e0]
      have ep : nI k - 1 = nI (k - 1) := by
        obtain ⟨j, rfl⟩ : ∃ j, k = j + 1 := ⟨k - 1, by omega⟩
        exact nI_pred j
      rw [hc, if_neg (nI_ge (by omega) (by omega)), ep, ev_X1_copyIn hL (by omega) h1 hB, bv_k, nI_1]
      exact ih (k + 1) n (by omega) (by omega) (by omega)
  have h := hl (c - 1) 1 FU9 (by omega) (Nat.le_refl _) (Nat.lt_of_le_of_lt (Nat.sub_le _ _) (fu_lt h6))
  rw [sh_1] at h
  exact h
abbrev ps9 (c : Nat) (r : Nat → Int32) : Prop := 0 < c ∧ ¬ la9' r 0 ≤ 39
def mo9 (c : Nat) (r : Nat → Int32) : Nat → Int32 := if ps9 c (mv9 r c) then dr9 c (mv9 r c) else mv9 r c
def mt9 (c : Nat) (r s : Nat → Int32) : Nat → Int32 := if ps9 c (mv9 r c) then pu_u s 0 (s 0 + 1) else s
theorem mv_B {n : Nat} (hB : pu_B r 6) : pu_B (mv9 r n) 6 := fun k hk => by rw [mv_lo, mv_fo, mv_le]; exact hB k hk
theorem ev_X1_moveVehicles (hL : pu_L z b) (hc : r 0 = nI c) (h6 : c ≤ 6) (hB : pu_B r 6) : f_X1_moveVehicles z b (pu_W M b r s) = some (.inl none, pu_W M b (mo9 c r) (mt9 c r s)) := by
  have hl : ∀ rem k n, k + rem = c → rem < n → fx9 (fun _ _ _ => none) (f_X1_moveVehicles_b2 z) n b (nI k) (pu_W M b (mv9 r k) s) = some (.inl none, pu_W M b (mo9 c r) (mt9 c r s)) := by
    intro rem
    induction rem with
    | zero =>
      intro k n hk hn
      obtain ⟨n, rfl⟩ : ∃ m, n = m + 1 := ⟨n - 1, by omega⟩
      obtain ⟨h0, -⟩ := id hL
      rw [show k = c by omega, fx_k]
      simp only [f_X1_moveVehicles_b2, rf_k h0, gf_k h0, pf_k h0, iv_k h0, sb_k, bi_k, bv_k, ri9, rv9, pw_5, pw_6, pw_7, pw_8, pw_10, pw_11, pw_9, pw_12, pw_13, pw_14, pw_15, pw_16, pw_a1, pw_a2, pw_a3, pw_a4, pw_a5, mv_sm (show 0 < 7 by omega)]
      rw [hc, if_pos (nI_le (Nat.le_refl _) (by omega))]
      by_cases h0c : c = 0
      · rw [if_pos (by rw [h0c]; decide)]
        unfold mo9 mt9
        rw [if_neg (fun h => by have := h.1; omega), if_neg (fun h => by have := h.1; omega)]
      · rw [if_neg (nI_nle (by omega) (by omega)), show (0 : Int32) = nI 0 from rfl, ev_X1_lastCell hL (by omega), bi_k]
        by_cases q : la9' (mv9 r c) 0 ≤ 39
        · rw [if_pos q]
          unfold mo9 mt9
          rw [if_neg (fun h => h.2 q), if_neg (fun h => h.2 q)]
        · rw [if_neg q, ev_X1_removeFirst hL ((mv_sm (by omega)).trans hc) (by omega) h6 (mv_B hB), bv_k]
          simp only [rf_k h0, gf_k h0, pf_k h0, iv_k h0, sb_k, bi_k, bv_k, ri9, rv9, pw_5, pw_6, pw_7, pw_8, pw_10, pw_11, pw_9, pw_12, pw_13, pw_14, pw_15, pw_16, pw_a1, pw_a2, pw_a3, pw_a4, pw_a5, pw_x5, pw_x6, pw_x7, pw_x8, pw_x10, pw_x11, pw_x9, pw_x12, pw_x13, pw_x14, pw_x15, pw_x16, pw_w1, pw_w2, pw_w3, pw_w4, pw_w5]
          unfold mo9 mt9
          rw [if_pos ⟨by omega, q⟩, if_pos ⟨by omega, q⟩]
    | succ rem ih =>
      intro k n hk hn
      obtain ⟨n, rfl⟩ : ∃ m, n = m + 1 := ⟨n - 1, by omega⟩
      obtain ⟨h0, -, h2, -⟩ := id hL
      have hk6 : k < 6 := by omega
      obtain ⟨b1, b2, b3⟩ := mv_B (n := k) hB k hk6
      rw [fx_k]
      simp only [f_X1_moveVehicles_b2, rf_k h0, gf_k h0, pf_k h0, iv_k h0, sb_k, bi_k, bv_k, ri9, rv9, pw_5, pw_6, pw_7, pw_8, pw_10, pw_11, pw_9, pw_12, pw_13, pw_14, pw_15, pw_16, pw_a1, pw_a2, pw_a3, pw_a4, pw_a5, mv_sm (show 0 < 7 by omega)]
      rw [hc, if_neg (nI_ge (by omega) (by omega)), ev_X1_canMove hL hk6 b3 b2, bi_k]
      have hnext := ih (k + 1) n (by omega) (by omega)
      unfold mv9 at hnext
      by_cases q : cm9 (mv9 r k) k
      · rw [if_pos q] at hnext
        rw [if_pos q, if_neg (by decide)]
        simp only [ld_k h2 hk6 (by decide), sb_k, st_k h2 hk6 (by decide), pw_5, pw_6, pw_7, pw_8, pw_10, pw_11, pw_9, pw_12, pw_13, pw_14, pw_15, pw_16, pw_a1, pw_a2, pw_a3, pw_a4, pw_a5, pw_x5, pw_x6, pw_x7, pw_x8, pw_x10, pw_x11, pw_x9, pw_x12, pw_x13, pw_x14, pw_x15, pw_x16, pw_w1, pw_w2, pw_w3, pw_w4, pw_w5, nI_1]
        exact hnext
      · rw [if_neg q] at hnext
        rw [if_neg q, if_pos rfl, nI_1]
        exact hnext
  exact hl c 0 FU9 (by omega) (fu_lt h6)
/-! steps 2 to 5 -/
theorem ev_X1_vehicleInCheck (hL : pu_L z b) (hc : r 0 = nI c) (h6 : c ≤ 6) : f_X1_vehicleInCheck z b (pu_W M b r s) = some (.inl (some (.int (match fs9 (ck9 r) c 0 with | none => -1 | some k => nI k))), pu_W M b r s) := by
  obtain ⟨h0, h1, h2, h3, h4, h5⟩ := hL
  refine Eq.trans (fx_find (c := c) (P := ck9 r) (E := some (.inl (some (.int (-1))), pu_W M b r s)) (O := fun k => some (.inl (some (.int (nI k))), pu_W M b r s)) (fun g k hk hp => ?_) (fun g k hk hp => ?_) (fun g => ?_) c 0 FU9 (by omega) (fu_lt h6)) ?_
  · have hk6 : k < 6 := by omega
    simp only [f_X1_vehicleInCheck_b2, rf_k h0, gf_k h0, sb_k, ri9, ld_k h2 hk6 (by decide), ld_k h5 hk6 (by decide), pw_5, pw_6, pw_7, pw_8, pw_10, pw_11, pw_9, pw_12, pw_13, pw_14, pw_15, pw_16, pw_a1, pw_a2, pw_a3, pw_a4, pw_a5]
    rw [hc, if_neg (nI_ge (by omega) (by omega)), if_pos hp.1, if_pos hp.2]
  · have hk6 : k < 6 := by omega
    simp only [f_X1_vehicleInCheck_b2, rf_k h0, gf_k h0, sb_k, ri9, ld_k h2 hk6 (by decide), ld_k h5 hk6 (by decide), pw_5, pw_6, pw_7, pw_8, pw_10, pw_11, pw_9, pw_12, pw_13, pw_14, pw_15, pw_16, pw_a1, pw_a2, pw_a3, pw_a4, pw_a5]
    rw [hc, if_neg (nI_ge (by omega) (by omega))]
    by_cases q : fr9 r k = 19
    · rw [if_pos q, if_neg (fun e => hp ⟨q, e⟩)]
    · rw [if_neg q]
  · simp only [f_X1_vehicleInCheck_b2, rf_k h0, gf_k h0, sb_k, ri9, pw_5, pw_6, pw_7, pw_8, pw_10, pw_11, pw_9, pw_12, pw_13, pw_14, pw_15, pw_16, pw_a1, pw_a2, pw_a3, pw_a4, pw_a5]
    rw [hc, if_pos (nI_le (Nat.le_refl _) (by omega))]
  · cases fs9 (ck9 r) c 0 <;> rfl
abbrev lw9 (r : Nat → Int32) (k : Nat) : Prop := ¬ le9' r k = 0 ∧ ¬ 19 < fr9 r k
abbrev cv9 (r : Nat → Int32) (k : Nat) : Prop := ¬ fr9 r k < 20 ∧ ¬ 21 < la9' r k
abbrev ua9 (r : Nat → Int32) (k : Nat) : Prop := ¬ fr9 r k < 20 ∧ ¬ 20 < la9' r k
theorem ev_X1_letVehicleWaits (hL : pu_L z b) (hc : r 0 = nI c) (h6 : c ≤ 6) : f_X1_letVehicleWaits z b (pu_W M b r s) = some (.inl (some (.int (if (fs9 (lw9 r) c 0).isSome then 1 else 0))), pu_W M b r s) := by
  obtain ⟨h0, h1, h2, h3, h4, h5⟩ := hL
  refine Eq.trans (fx_find (c := c) (P := lw9 r) (E := some (.inl (some (.int 0)), pu_W M b r s)) (O := fun k => some (.inl (some (.int 1)), pu_W M b r s)) (fun g k hk hp => ?_) (fun g k hk hp => ?_) (fun g => ?_) c 0 FU9 (by omega) (fu_lt h6)) ?_
  · have hk6 : k < 6 := by omega
    simp only [f_X1_letVehicleWaits_b2, rf_k h0, gf_k h0, sb_k, ld_k h2 hk6 (by decide), ld_k h5 hk6 (by decide), pw_5, pw_6, pw_7, pw_8, pw_10, pw_11, pw_9, pw_12, pw_13, pw_14, pw_15, pw_16, pw_a1, pw_a2, pw_a3, pw_a4, pw_a5]
    rw [hc, if_neg (nI_ge (by omega) (by omega)), if_neg hp.1, if_neg hp.2, rz_1]
  · have hk6 : k < 6 := by omega
    simp only [f_X1_letVehicleWaits_b2, rf_k h0, gf_k h0, sb_k, ld_k h2 hk6 (by decide), ld_k h5 hk6 (by decide), pw_5, pw_6, pw_7, pw_8, pw_10, pw_11, pw_9, pw_12, pw_13, pw_14, pw_15, pw_16, pw_a1, pw_a2, pw_a3, pw_a4, pw_a5]
    rw [hc, if_neg (nI_ge (by omega) (by omega))]
    by_cases q : le9' r k = 0
    · rw [if_pos q]
    · rw [if_neg q, if_pos (Decidable.not_not.mp (fun e => hp ⟨q, e⟩))]
  · simp only [f_X1_letVehicleWaits_b2, rf_k h0, gf_k h0, sb_k, pw_5, pw_6, pw_7, pw_8, pw_10, pw_11, pw_9, pw_12, pw_13, pw_14, pw_15, pw_16, pw_a1, pw_a2, pw_a3, pw_a4, pw_a5]
    rw [hc, if_pos (nI_le (Nat.le_refl _) (by omega)), rz_0]
  · cases fs9 (lw9 r) c 0 <;> rfl
theorem ev_X1_isLoopCovered (hL : pu_L z b) (hc : r 0 = nI c) (h6 : c ≤ 6) : f_X1_isLoopCovered z b (pu_W M b r s) = some (.inl (some (.int (if (fs9 (cv9 r) c 0).isSome then 1 else 0))), pu_W M b r s) := by
  obtain ⟨h0, h1, h2, h3, h4, h5⟩ := id hL
  refine Eq.trans (fx_find (c := c) (P := cv9 r) (E := some (.inl (some (.int 0)), pu_W M b r s)) (O := fun k => some (.inl (some (.int 1)), pu_W M b r s)) (fun g k hk hp => ?_) (fun g k hk hp => ?_) (fun g => ?_) c 0 FU9 (by omega) (fu_lt h6)) ?_
  · have hk6 : k < 6 := by omega
    simp only [f_X1_isLoopCovered_b2, rf_k h0, gf_k h0, iv_k h0, sb_k, ld_k h2 hk6 (by decide), pw_5, pw_6, pw_7, pw_8, pw_10, pw_11, pw_9, pw_12, pw_13, pw_14, pw_15, pw_16, pw_a1, pw_a2, pw_a3, pw_a4, pw_a5]
    rw [hc, if_neg (nI_ge (by omega) (by omega)), if_neg hp.1, ev_X1_lastCell hL hk6, bi_k, if_neg hp.2, rz_1]
  · have hk6 : k < 6 := by omega
    simp only [f_X1_isLoopCovered_b2, rf_k h0, gf_k h0, iv_k h0, sb_k, ld_k h2 hk6 (by decide), pw_5, pw_6, pw_7, pw_8, pw_10, pw_11, pw_9, pw_12, pw_13, pw_14, pw_15, pw_16, pw_a1, pw_a2, pw_a3, pw_a4, pw_a5]
    rw [hc, if_neg (nI_ge (by omega) (by omega))]
    by_cases q : fr9 r k < 20
    · rw [if_pos q]
    · rw [if_neg q, ev_X1_lastCell hL hk6, bi_k, if_pos (Decidable.not_not.mp (fun e => hp ⟨q, e⟩))]
  · simp only [f_X1_isLoopCovered_b2, rf_k h0, gf_k h0, sb_k, pw_5, pw_6, pw_7, pw_8, pw_10, pw_11, pw_9, pw_12, pw_13, pw_14, pw_15, pw_16, pw_a1, pw_a2, pw_a3, pw_a4, pw_a5]
    rw [hc, if_pos (nI_le (Nat.le_refl _) (by omega)), rz_0]
  · cases fs9 (cv9 r) c 0 <;> rfl
theorem ev_X1_isUnderArm (hL : pu_L z b) (hc : r 0 = nI c) (h6 : c ≤ 6) : f_X1_isUnderArm z b (pu_W M b r s) = some (.inl (some (.int (if (fs9 (ua9 r) c 0).isSome then 1 else 0))), pu_W M b r s) := by
  obtain ⟨h0, h1, h2, h3, h4, h5⟩ := id hL
  refine Eq.trans (fx_find (c := c) (P := ua9 r) (E := some (.inl (some (.int 0)), pu_W M b r s)) (O := fun k => some (.inl (some (.int 1)), pu_W M b r s)) (fun g k hk hp => ?_) (fun g k hk hp => ?_) (fun g => ?_) c 0 FU9 (by omega) (fu_lt h6)) ?_
  · have hk6 : k < 6 := by omega
    simp only [f_X1_isUnderArm_b2, rf_k h0, gf_k h0, iv_k h0, sb_k, ld_k h2 hk6 (by decide), pw_5, pw_6, pw_7, pw_8, pw_10, pw_11, pw_9, pw_12, pw_13, pw_14, pw_15, pw_16, pw_a1, pw_a2, pw_a3, pw_a4, pw_a5]
    rw [hc, if_neg (nI_ge (by omega) (by omega)), if_neg hp.1, ev_X1_lastCell hL hk6, bi_k, if_neg hp.2, rz_1]
  · have hk6 : k < 6 := by omega
    simp only [f_X1_isUnderArm_b2, rf_k h0, gf_k h0, iv_k h0, sb_k, ld_k h2 hk6 (by decide), pw_5, pw_6, pw_7, pw_8, pw_10, pw_11, pw_9, pw_12, pw_13, pw_14, pw_15, pw_16, pw_a1, pw_a2, pw_a3, pw_a4, pw_a5]
    rw [hc, if_neg (nI_ge (by omega) (by omega))]
    by_cases q : fr9 r k < 20
    · rw [if_pos q]
    · rw [if_neg q, ev_X1_lastCell hL hk6, bi_k, if_pos (Decidable.not_not.mp (fun e => hp ⟨q, e⟩))]
  · simp only [f_X1_isUnderArm_b2, rf_k h0, gf_k h0, sb_k, pw_5, pw_6, pw_7, pw_8, pw_10, pw_11, pw_9, pw_12, pw_13, pw_14, pw_15, pw_16, pw_a1, pw_a2, pw_a3, pw_a4, pw_a5]
    rw [hc, if_pos (nI_le (Nat.le_refl _) (by omega)), rz_0]
  · cases fs9 (ua9 r) c 0 <;> rfl
end PV
