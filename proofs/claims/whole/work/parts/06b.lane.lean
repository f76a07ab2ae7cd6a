section PV
variable {z : Sh9} {b c : Nat} {M : Mem9}
theorem rz_0 : rz9 0 M = some (.inl (some (.int 0)), M) := if_pos (Or.inl rfl)
theorem rz_1 : rz9 1 M = some (.inl (some (.int 1)), M) := if_pos (Or.inr rfl)
/-- the first place from k on, of r places, where P holds -/
def fs9 (P : Nat → Prop) [DecidablePred P] : Nat → Nat → Option Nat
  | 0, _ => none
  | r + 1, k => if P k then some k else fs9 P r (k + 1)
theorem fs_cong {P Q : Nat → Prop} [DecidablePred P] [DecidablePred Q] : ∀ {r k : Nat}, (∀ j, k ≤ j → j < k + r → (P j ↔ Q j)) → fs9 P r k = fs9 Q r k := by
  intro r
  induction r with
  | zero => intro k _; rfl
  | succ r ih =>
    intro k h
    have h0 := h k (Nat.le_refl _) (by omega)
    unfold fs9
    rw [ih (fun j h1 h2 => h j (by omega) (by omega))]
    by_cases hp : P k
    · rw [if_pos hp, if_pos (h0.mp hp)]
    · rw [if_neg hp, if_neg (fun q => hp (h0.mpr q))]
theorem fs_some {P : Nat → Prop} [DecidablePred P] : ∀ {r k j : Nat}, fs9 P r k = some j → k ≤ j ∧ j < k + r ∧ P j := by
  intro r
  induction r with
  | zero => intro k j h; cases h
  | succ r ih =>
    intro k j h
    unfold fs9 at h
    by_cases hp : P k
    · rw [if_pos hp] at h
      cases h
      exact ⟨Nat.le_refl _, by omega, hp⟩
    · rw [if_neg hp] at h
      obtain ⟨a1, a2, a3⟩ := ih h
      exact ⟨by omega, by omega, a3⟩
theorem fx_find {bot : Nat → Int32 → Mem9 → Re9} {F : (Nat → Int32 → Mem9 → Re9) → Nat → Int32 → Mem9 → Re9} {P : Nat → Prop} [DecidablePred P] {E : Re9} {O : Nat → Re9} (h1 : ∀ r k, k < c → P k → F r b (nI k) M = O k) (h2 : ∀ r k, k < c → ¬ P k → F r b (nI k) M = r b (nI k + 1) M) (h3 : ∀ r, F r b (nI c) M = E) :
    ∀ r k n, k + r = c → r < n → fx9 bot F n b (nI k) M = match fs9 P r k with | none => E | some j => O j := by
  intro r
  induction r with
  | zero =>
    intro k n hk hn
    obtain ⟨n, rfl⟩ : ∃ m, n = m + 1 := ⟨n - 1, by omega⟩
    rw [fx_k, show k = c by omega, h3]
    rfl
  | succ r ih =>
    intro k n hk hn
    obtain ⟨n, rfl⟩ : ∃ m, n = m + 1 := ⟨n - 1, by omega⟩
    rw [fx_k]
    unfold fs9
    by_cases hp : P k
    · rw [if_pos hp, h1 _ _ (by omega) hp]
    · rw [if_neg hp, h2 _ _ (by omega) hp, nI_1, ih (k + 1) n (by omega) (by omega)]
/-- the vehicle that is checked -/
abbrev ck9 (r : Nat → Int32) (k : Nat) : Prop := fr9 r k = 19 ∧ le9' r k = 0
theorem ev_X1_lastCell {k : Nat} (hL : pu_L z b) (hk : k < 6) : f_X1_lastCell z b (nI k) M = some (.inl (some (.int (la9' (vc9 M b) k))), M) := by
  obtain ⟨h0, h1, h2, h3, h4, h5⟩ := hL
  simp only [f_X1_lastCell, rf_k h0, gf_k h0, iv_k h0, sb_k, bi_k, bv_k, ri9, rv9, ld_k h1 hk (by decide), ld_k h2 hk (by decide), ld_k h3 hk (by decide), ld_k h4 hk (by decide), ld_k h5 hk (by decide), vc_la]
theorem ev_X1_canMove {k : Nat} (hL : pu_L z b) (hk : k < 6) (hb5 : b9 (M (b + 5) k)) (hb4 : b9 (M (b + 4) k)) : f_X1_canMove z b (nI k) M = some (.inl (some (.int (if cm9 (vc9 M b) k then 1 else 0))), M) := by
  have hLL := hL
  obtain ⟨h0, h1, h2, h3, h4, h5⟩ := hL
  have e28 : f_X1_canMove_b28 z b (nI k) M = some (.inl (some (.int (if (M (b + 2) k = 19 → M b 6 = 4 ∧ (M (b + 5) k = 1 ∨ M (b + 4) k = 1)) then 1 else 0))), M) := by
    simp only [f_X1_canMove_b28, rf_k h0, gf_k h0, iv_k h0, sb_k, bi_k, bv_k, ri9, rv9, ld_k h1 hk (by decide), ld_k h2 hk (by decide), ld_k h3 hk (by decide), ld_k h4 hk (by decide), ld_k h5 hk (by decide)]
    by_cases q1 : M (b + 2) k = 19
    · rw [if_pos q1]
      by_cases q2 : M b 6 = 4
      · rw [if_pos q2]
        rcases hb5 with q3 | q3
        · rw [if_pos q3]
          rcases hb4 with q4 | q4
          · rw [if_pos q4, rz_0, if_neg (fun h => by rcases (h q1).2 with h | h <;> simp_all)]
          · rw [if_neg (by rw [q4]; decide), rz_1, if_pos (fun _ => ⟨q2, Or.inr q4⟩)]
        · rw [if_neg (by rw [q3]; decide), rz_1, if_pos (fun _ => ⟨q2, Or.inl q3⟩)]
      · rw [if_neg q2, rz_0, if_neg (fun h => q2 (h q1).1)]
    · rw [if_neg q1, rz_1, if_pos (fun h => absurd h q1)]
  simp only [f_X1_canMove, rf_k h0, gf_k h0, iv_k h0, sb_k, bi_k, bv_k, ri9, rv9, ld_k h1 hk (by decide), ld_k h2 hk (by decide), ld_k h3 hk (by decide), ld_k h4 hk (by decide), ld_k h5 hk (by decide), nm9]
  unfold cm9
  rw [vc_fr, vc_le, vc_fo]
  rcases Nat.eq_zero_or_pos k with hk0 | hk0
  · subst hk0
    rw [if_pos (by decide), e28]
    simp only [true_or, true_and, vc9, if_true]
    rfl
  · obtain ⟨j, rfl⟩ : ∃ j, k = j + 1 := ⟨k - 1, by omega⟩
    rw [if_neg (nI_nle (by omega) (by omega)), nI_pred, ev_X1_lastCell hLL (by omega), bi_k]
    have ea : M (b + 2) (j + 1) + 1 + 1 = M (b + 2) (j + 1) + 2 := by rw [Int32.add_assoc]; rfl
    rw [ea]
    by_cases q : M (b + 2) (j + 1) + 2 ≤ la9' (vc9 M b) j
    · rw [if_pos q, e28]
      simp only [Nat.add_sub_cancel, q, or_true, true_and]
      rfl
    · rw [if_neg q, rz_0, if_neg (fun h => h.1.elim (fun h1 => by omega) (fun h1 => q h1))]
end PV
