section QA
variable {z : Sh9} {x l c : Nat} {M : Mem9} {R p : Nat → Int32}
theorem pu_sw {r : Nat → Int32} {i j : Nat} {v w : Int32} (h : i ≠ j) : pu_u (pu_u r i v) j w = pu_u (pu_u r j w) i v := by
  funext k
  unfold pu_u
  by_cases h1 : k = j
  · rw [if_pos h1, if_neg (by omega), if_pos h1]
  · rw [if_neg h1]
    by_cases h2 : k = i
    · rw [if_pos h2, if_pos h2]
    · rw [if_neg h2, if_neg h2, if_neg h1]
theorem pu_tw {r : Nat → Int32} {i : Nat} {v w : Int32} : pu_u (pu_u r i v) i w = pu_u r i w := by
  funext k
  unfold pu_u
  by_cases h : k = i
  · rw [if_pos h, if_pos h]
  · rw [if_neg h, if_neg h, if_neg h]
def cR9 (c : Nat) (p R : Nat → Int32) : Nat → Int32 := match fs9 (ck9 p) c 0 with
  | none => R
  | some k => if p 6 + 1 < (if lo9 p k = 0 then R 7 else R 8) then R else if lo9 p k = 0 then R else pu_u R 6 (R 6 + 1)
theorem em_check (hx : RW9 z x 10 121) (hl : l < 3) (hc : p 0 = nI c) (h6 : c ≤ 6) (hB : pu_B p c) : f_X3_check z x (nI l) (pu_R M x (pu_S R l p)) = some (.inl none, pu_R M x (pu_S (cR9 c p R) l (ct9 c (R 7) (R 8) (R 9) p))) := by
  unfold f_X3_check
  rw [em_checked hx hl hc h6, bi_k]
  unfold cR9 ct9
  cases hf : fs9 (ck9 p) c 0 with
  | none =>
    show (if (-1 : Int32) = -1 then _ else _) = _
    rw [if_pos rfl, em_lay6 hx hl, bv_k]
    rfl
  | some k =>
    obtain ⟨-, hk, -⟩ := fs_some hf
    have hk6 : k < 6 := by omega
    show (if nI k = (-1 : Int32) then _ else _) = _
    rw [if_neg (by intro e; have h := nI_pos (n := k) (by omega); rw [e] at h; exact h (by decide)), em_of6 hx hl, bi_k]
    simp only [nm9]
    rw [em_told2 hx hl hk6, bi_k]
    have e88 : ∀ (lost ends : Int32), b9 lost → f_X3_check_b72 z x (nI l) (nI k) (p 6 + 1) lost ends (pu_R M x (pu_S R l p)) = some (.inl none, pu_R M x (pu_S (if ends = 0 then R else if lost = 0 then R else pu_u R 6 (R 6 + 1)) l (if ends = 0 then pu_u p 6 (p 6 + 1) else pu_u (pu_u (pu_u (pu_u p 6 (p 6 + 1)) (7 + 5 * k + 4) 1) 2 (p 3 / 8 + R 9)) 6 0))) := by
      intro lost ends hlo
      unfold f_X3_check_b72
      by_cases q : ends = 0
      · rw [if_pos q, if_pos q, if_pos q]
        unfold f_X3_check_b88
        rw [em_lay6 hx hl, bv_k, if_pos q]
        rfl
      · rw [if_neg q, if_neg q, if_neg q]
        have ep : pu_u (pu_u (pu_u (pu_u p 6 (p 6 + 1)) (7 + 5 * k + 4) 1) 2 (p 3 / 8 + R 9)) 6 0 = pu_u (pu_u (pu_u p 6 0) (7 + 5 * k + 4) 1) 2 (p 3 / 8 + R 9) := by
          rw [pu_sw (show 2 ≠ 6 by decide), pu_sw (show 7 + 5 * k + 4 ≠ 6 by omega), pu_tw]
        have e3 : pu_u (pu_u p 6 0) (7 + 5 * k + 4) 1 3 = p 3 := by rw [pu_u_ne (by omega), pu_u_ne (by decide)]
        rw [ep]
        unfold f_X3_check_b88
        rw [em_lay6 hx hl, bv_k, if_neg q, em_place4, bi_k, em_lay hx hl (by omega), bv_k, em_of3 hx hl, bi_k, e3]
        simp only [dv9]
        rw [if_neg (by decide), sb_k, show (9 : Int32) = nI 9 from rfl, ld_k hx (by decide) (by decide), sb_k, pr_x, ps_h (by decide), em_lay2 hx hl, bv_k, show (6 : Int32) = nI 6 from rfl, ld_k hx (by decide) (by decide), sb_k, pr_x, ps_h (by decide)]
        by_cases q2 : lost = 0
        · rw [if_pos q2, if_pos q2]
          unfold f_X3_check_b142
          rw [st_k hx (by decide) (by decide), sb_k, pr_w, ps_v (by decide), Int32.add_zero, pu_self]
          rfl
        · rw [if_neg q2, if_neg q2]
          unfold f_X3_check_b142
          rw [st_k hx (by decide) (by decide), sb_k, pr_w, ps_v (by decide)]
          rfl
    have e46 : ∀ (lost : Int32), b9 lost → f_X3_check_b46 z x (nI l) (nI k) (p 6 + 1) lost (pu_R M x (pu_S R l p)) = some (.inl none, pu_R M x (pu_S (if p 6 + 1 < (if lost = 0 then R 7 else R 8) then R else if lost = 0 then R else pu_u R 6 (R 6 + 1)) l (if p 6 + 1 < (if lost = 0 then R 7 else R 8) then pu_u p 6 (p 6 + 1) else pu_u (pu_u (pu_u (pu_u p 6 (p 6 + 1)) (7 + 5 * k + 4) 1) 2 (p 3 / 8 + R 9)) 6 0))) := by
      intro lost hlo
      have e62 : ∀ (s0 : Int32) (i : Nat), (7 : Int32) + s0 = nI i → i < 10 → f_X3_check_b62 z x (nI l) (nI k) (p 6 + 1) lost s0 7 x (p 6 + 1) (pu_R M x (pu_S R l p)) = some (.inl none, pu_R M x (pu_S (if p 6 + 1 < R i then R else if lost = 0 then R else pu_u R 6 (R 6 + 1)) l (if p 6 + 1 < R i then pu_u p 6 (p 6 + 1) else pu_u (pu_u (pu_u (pu_u p 6 (p 6 + 1)) (7 + 5 * k + 4) 1) 2 (p 3 / 8 + R 9)) 6 0))) := by
        intro s0 i hi h10
        unfold f_X3_check_b62
        rw [hi, ld_k hx (by omega) (by decide), sb_k, pr_x, ps_h h10]
        by_cases q : p 6 + 1 < R i
        · rw [if_pos q, e88 lost 0 hlo, if_pos rfl, if_pos rfl, if_pos q, if_pos q]
        · rw [if_neg q, e88 lost 1 hlo, if_neg (show ¬ (1 : Int32) = 0 by decide), if_neg (show ¬ (1 : Int32) = 0 by decide), if_neg q, if_neg q]
      unfold f_X3_check_b46
      rcases hlo with h | h
      · subst h
        rw [if_pos rfl, e62 0 7 rfl (by decide)]
        rfl
      · subst h
        rw [if_neg (by decide), e62 1 8 rfl (by decide)]
        rfl
    obtain ⟨b1, -, -⟩ := hB k (by omega)
    rcases b1 with h | h
    · rw [h, if_neg (show ¬ (0 : Int32) = 1 by decide), e46 0 (Or.inl rfl)]
    · rw [h, if_pos rfl, e46 1 (Or.inr rfl)]
/-- a vehicle isn't shorter than one cell -/
def pu_Q (p : Nat → Int32) (c : Nat) : Prop := ∀ k, k < c → la9' p k ≤ fr9 p k
def pu_rs (c : Nat) (p : Nat → Int32) : Int32 := if (fs9 (lw9 p) c 0).isSome then 1 else if p 4 = 0 ∧ (fs9 (cv9 p) c 0).isSome then 2 else if p 2 ≤ 0 then 0 else 3
theorem i32_lt {a b : Int32} : a < b ↔ a.toInt < b.toInt := Int32.lt_iff_toInt_lt
theorem i32_le {a b : Int32} : a ≤ b ↔ a.toInt ≤ b.toInt := Int32.le_iff_toInt_le
theorem cv_iff {k : Nat} (hq : la9' p k ≤ fr9 p k) : cv9 p k ↔ ((¬ fr9 p k < nI 19 ∧ ¬ nI 19 < la9' p k) ∨ (¬ fr9 p k < nI 20 ∧ ¬ nI 20 < la9' p k) ∨ (¬ fr9 p k < nI 21 ∧ ¬ nI 21 < la9' p k)) ∧ ¬ fr9 p k < 20 := by
  unfold cv9
  rw [show (20 : Int32) = nI 20 from rfl, show (21 : Int32) = nI 21 from rfl]
  simp only [i32_lt, i32_le, nI_toInt (show 19 < 2 ^ 31 by decide), nI_toInt (show 20 < 2 ^ 31 by decide), nI_toInt (show 21 < 2 ^ 31 by decide)] at hq ⊢
  omega
theorem lw_iff {k : Nat} (hb : b9 (le9' p k)) : lw9 p k ↔ le9' p k = 1 ∧ ¬ 20 ≤ fr9 p k := by
  unfold lw9
  have h1 : (¬ le9' p k = 0) ↔ le9' p k = 1 := b9_ne hb
  rw [h1, show (20 : Int32) = nI 20 from rfl, show (19 : Int32) = nI 19 from rfl]
  simp only [i32_lt, i32_le, nI_toInt (show 19 < 2 ^ 31 by decide), nI_toInt (show 20 < 2 ^ 31 by decide)]
  exact and_congr_right (fun _ => by omega)
theorem em_reason (hx : RW9 z x 10 121) (hl : l < 3) (hc : p 0 = nI c) (h6 : c ≤ 6) (hB : pu_B p c) (hQ : pu_Q p c) : f_X3_reason z x (nI l) (pu_R M x (pu_S R l p)) = some (.inl (some (.int (pu_rs c p))), pu_R M x (pu_S R l p)) := by
  have hl2 : ∀ rem k n y, k + rem = c → rem < n → (y = 0 ∨ y = 2) → fx9 (fun _ _ _ _ _ => none) (f_X3_reason_b4 z) n x (nI l) y (nI k) (pu_R M x (pu_S R l p)) = some (.inl (some (.int (if (fs9 (lw9 p) rem k).isSome then 1 else if y = 2 ∨ (p 4 = 0 ∧ (fs9 (cv9 p) rem k).isSome) then 2 else if p 2 ≤ 0 then 0 else 3))), pu_R M x (pu_S R l p)) := by
    intro rem
    induction rem with
    | zero =>
      intro k n y hk hn hy
      obtain ⟨n, rfl⟩ : ∃ m, n = m + 1 := ⟨n - 1, by omega⟩
      rw [show k = c by omega, fx_k]
      unfold f_X3_reason_b4
      rw [em_of0 hx hl, bi_k, hc, if_pos (nI_le (Nat.le_refl _) (by omega))]
      simp only [fs9, Option.isSome_none, Bool.false_eq_true, if_false, and_false, or_false]
      rcases hy with h | h
      · subst h
        rw [if_pos (by decide), em_of2 hx hl, bi_k, if_neg (show ¬ (0 : Int32) = 2 by decide)]
        by_cases q : p 2 ≤ 0
        · rw [if_pos q, if_pos q]
          rfl
        · rw [if_neg q, if_neg q]
          rfl
      · subst h
        rw [if_neg (by decide), if_pos rfl]
        rfl
    | succ rem ih =>
      intro k n y hk hn hy
      obtain ⟨n, rfl⟩ : ∃ m, n = m + 1 := ⟨n - 1, by omega⟩
      have hk6 : k < 6 := by omega
      obtain ⟨-, -, b3⟩ := hB k (by omega)
      have hlw := lw_iff (p := p) b3
      have hcv := cv_iff (p := p) (hQ k (by omega))
      have e109 : ∀ v : Int32, (v = 0 ∨ v = 2) → f_X3_reason_b109 z (fx9 (fun _ _ _ _ _ => none) (f_X3_reason_b4 z) n) x (nI l) (nI k) v (pu_R M x (pu_S R l p)) = some (.inl (some (.int (if (fs9 (lw9 p) rem (k + 1)).isSome then 1 else if v = 2 ∨ (p 4 = 0 ∧ (fs9 (cv9 p) rem (k + 1)).isSome) then 2 else if p 2 ≤ 0 then 0 else 3))), pu_R M x (pu_S R l p)) := by
        intro v hv
        unfold f_X3_reason_b109
        rw [nI_1]
        exact ih (k + 1) n v (by omega) (by omega) hv
      have e43 : ¬ lw9 p k → f_X3_reason_b43 z (fx9 (fun _ _ _ _ _ => none) (f_X3_reason_b4 z) n) x (nI l) y (nI k) (fr9 p k) (pu_R M x (pu_S R l p)) = some (.inl (some (.int (if (fs9 (lw9 p) (rem + 1) k).isSome then 1 else if y = 2 ∨ (p 4 = 0 ∧ (fs9 (cv9 p) (rem + 1) k).isSome) then 2 else if p 2 ≤ 0 then 0 else 3))), pu_R M x (pu_S R l p)) := by
        intro hnl
        have e81 : ∀ s0 : Int32, (s0 = 0 ↔ ¬ ((¬ fr9 p k < nI 19 ∧ ¬ nI 19 < la9' p k) ∨ (¬ fr9 p k < nI 20 ∧ ¬ nI 20 < la9' p k) ∨ (¬ fr9 p k < nI 21 ∧ ¬ nI 21 < la9' p k))) → f_X3_reason_b81 z (fx9 (fun _ _ _ _ _ => none) (f_X3_reason_b4 z) n) x (nI l) y (nI k) (fr9 p k) s0 (pu_R M x (pu_S R l p)) = some (.inl (some (.int (if (fs9 (lw9 p) (rem + 1) k).isSome then 1 else if y = 2 ∨ (p 4 = 0 ∧ (fs9 (cv9 p) (rem + 1) k).isSome) then 2 else if p 2 ≤ 0 then 0 else 3))), pu_R M x (pu_S R l p)) := by
          intro s0 hs
          have hlws : fs9 (lw9 p) (rem + 1) k = fs9 (lw9 p) rem (k + 1) := if_neg hnl
          rw [hlws]
          have hno : ¬ cv9 p k → f_X3_reason_b108 z (fx9 (fun _ _ _ _ _ => none) (f_X3_reason_b4 z) n) x (nI l) y (nI k) (pu_R M x (pu_S R l p)) = some (.inl (some (.int (if (fs9 (lw9 p) rem (k + 1)).isSome then 1 else if y = 2 ∨ (p 4 = 0 ∧ (fs9 (cv9 p) (rem + 1) k).isSome) then 2 else if p 2 ≤ 0 then 0 else 3))), pu_R M x (pu_S R l p)) := by
            intro hn2
            have hcvs : fs9 (cv9 p) (rem + 1) k = fs9 (cv9 p) rem (k + 1) := if_neg hn2
            rw [hcvs]
            exact e109 y hy
          unfold f_X3_reason_b81
          by_cases q : s0 = 0
          · rw [if_pos q]
            exact hno (fun h => (hs.mp q) (hcv.mp h).1)
          · rw [if_neg q]
            by_cases q2 : fr9 p k < 20
            · rw [if_pos q2]
              exact hno (fun h => h.1 q2)
            · rw [if_neg q2, em_of4 hx hl, bi_k]
              have hy2 : cv9 p k := hcv.mpr ⟨Decidable.not_not.mp (fun h => q (hs.mpr h)), q2⟩
              have hcvs : fs9 (cv9 p) (rem + 1) k = some k := if_pos hy2
              by_cases q4 : p 4 = 0
              · rw [if_pos q4, e109 2 (Or.inr rfl), hcvs]
                simp only [true_or, if_true, q4, Option.isSome_some, and_true, or_true]
              · rw [if_neg q4]
                have h5 := e109 y hy
                simp only [q4, false_and, or_false] at h5 ⊢
                exact h5
        have k19 : f_X3_covers z x (nI l) (nI k) (19 : Int32) (pu_R M x (pu_S R l p)) = some (.inl (some (.int (if ¬ fr9 p k < nI 19 ∧ ¬ nI 19 < la9' p k then 1 else 0))), pu_R M x (pu_S R l p)) := em_covers (c := 19) hx hl hk6
        have k20 : f_X3_covers z x (nI l) (nI k) (20 : Int32) (pu_R M x (pu_S R l p)) = some (.inl (some (.int (if ¬ fr9 p k < nI 20 ∧ ¬ nI 20 < la9' p k then 1 else 0))), pu_R M x (pu_S R l p)) := em_covers (c := 20) hx hl hk6
        have k21 : f_X3_covers z x (nI l) (nI k) (21 : Int32) (pu_R M x (pu_S R l p)) = some (.inl (some (.int (if ¬ fr9 p k < nI 21 ∧ ¬ nI 21 < la9' p k then 1 else 0))), pu_R M x (pu_S R l p)) := em_covers (c := 21) hx hl hk6
        unfold f_X3_reason_b43
        rw [k19, bi_k]
        by_cases c1 : ¬ fr9 p k < nI 19 ∧ ¬ nI 19 < la9' p k
        · rw [if_pos c1, if_neg (by decide)]
          exact e81 1 ⟨fun h => absurd h (by decide), fun h => absurd (Or.inl c1) h⟩
        · rw [if_neg c1, if_pos (show (0 : Int32) = 0 from rfl), k20, bi_k]
          by_cases c2 : ¬ fr9 p k < nI 20 ∧ ¬ nI 20 < la9' p k
          · rw [if_pos c2, if_neg (by decide)]
            exact e81 1 ⟨fun h => absurd h (by decide), fun h => absurd (Or.inr (Or.inl c2)) h⟩
          · rw [if_neg c2, if_pos (show (0 : Int32) = 0 from rfl), k21, bi_k]
            by_cases c3 : ¬ fr9 p k < nI 21 ∧ ¬ nI 21 < la9' p k
            · rw [if_pos c3, if_neg (by decide)]
              exact e81 1 ⟨fun h => absurd h (by decide), fun h => absurd (Or.inr (Or.inr c3)) h⟩
            · rw [if_neg c3, if_pos (show (0 : Int32) = 0 from rfl)]
              exact e81 0 ⟨fun _ h => h.elim c1 (fun h => h.elim c2 c3), fun _ => rfl⟩
      rw [fx_k]
      show f_X3_reason_b4 z (fx9 (fun _ _ _ _ _ => none) (f_X3_reason_b4 z) n) x (nI l) y (nI k) _ = _
      generalize hg : fx9 (fun _ _ _ _ _ => none) (f_X3_reason_b4 z) n = g at e43
      unfold f_X3_reason_b4
      rw [em_of0 hx hl, bi_k, hc, if_neg (nI_ge (by omega) (by omega)), em_told1 hx hl hk6, bi_k, em_told4 hx hl hk6, bi_k]
      by_cases q1 : le9' p k = 1
      · rw [if_pos q1]
        by_cases q2 : 20 ≤ fr9 p k
        · rw [if_pos q2]
          exact e43 (fun h => (hlw.mp h).2 q2)
        · have hlws : fs9 (lw9 p) (rem + 1) k = some k := if_pos (hlw.mpr ⟨q1, q2⟩)
          rw [if_neg q2, hlws]
          rfl
      · rw [if_neg q1]
        exact e43 (fun h => q1 (hlw.mp h).1)
  have h := hl2 c 0 FU9 0 (by omega) (fu_lt h6) (Or.inl rfl)
  refine Eq.trans h ?_
  unfold pu_rs
  have e : ((0 : Int32) = 2 ∨ p 4 = 0 ∧ (fs9 (cv9 p) c 0).isSome = true) ↔ (p 4 = 0 ∧ (fs9 (cv9 p) c 0).isSome = true) := ⟨fun h => h.elim (fun e => absurd e (by decide)) id, Or.inr⟩
  simp only [e]
theorem rs_in : pu_rs c p = 0 ∨ pu_rs c p = 1 ∨ pu_rs c p = 2 ∨ pu_rs c p = 3 := by
  unfold pu_rs
  split
  · exact Or.inr (Or.inl rfl)
  · split
    · exact Or.inr (Or.inr (Or.inl rfl))
    · split
      · exact Or.inl rfl
      · exact Or.inr (Or.inr (Or.inr rfl))
theorem rs_le : pu_rs c p ≤ 0 ↔ pu_rs c p = 0 := by
  rcases rs_in (c := c) (p := p) with h | h | h | h <;> rw [h] <;> decide
theorem em_t84 {r : Nat → Int32} {v : Int32} (hx : RW9 z x 10 121) (hl : l < 3) : f_X3_turnArm_b84 z v 2 (nI l) x (pu_R M x (pu_S R l r)) = some (.inl none, pu_R M x (pu_S R l (pu_u r 2 v))) := by
  unfold f_X3_turnArm_b84
  rw [em_lay2 hx hl, bv_k]
  rfl
theorem hold_dn {q : Nat} (hq2 : q < 1000) : (if nI q ≤ 0 then nI q else nI q - 1) = (if (0 : Int32) < nI q - 1 then nI q - 1 else 0) := by
  by_cases q0 : q = 0
  · subst q0; decide
  · obtain ⟨j, rfl⟩ : ∃ j, q = j + 1 := ⟨q - 1, by omega⟩
    rw [if_neg (nI_nle (by omega) (by omega)), nI_pred]
    by_cases qj : j = 0
    · subst qj; decide
    · exact (if_pos (show (0 : Int32) < nI j from nI_lt (a := 0) (by omega) (by omega))).symm
theorem em_t50 {q : Nat} {v : Int32} (hx : RW9 z x 10 121) (hl : l < 3) (hq : p 2 = nI q) (hq2 : q < 1000) : f_X3_turnArm_b50 z x (nI l) v (pu_R M x (pu_S R l p)) = some (.inl none, pu_R M x (pu_S R l (if v = 4 then pu_u (pu_u p 1 v) 2 (if 0 < p 2 - 1 then p 2 - 1 else 0) else pu_u p 1 v))) := by
  have e2 : pu_u p 1 v 2 = p 2 := pu_u_ne (by decide)
  unfold f_X3_turnArm_b50
  rw [em_lay1 hx hl, bv_k, em_of2 hx hl, bi_k, e2]
  unfold f_X3_turnArm_b83
  by_cases q4 : v = 4
  · rw [if_pos q4, if_pos q4]
    have hd := hold_dn hq2
    rw [← hq] at hd
    rw [← hd]
    by_cases q0 : p 2 ≤ 0
    · rw [if_pos q0, if_pos q0, em_t84 hx hl]
    · rw [if_neg q0, if_neg q0, em_t84 hx hl]
  · rw [if_neg q4, if_neg q4, em_t84 hx hl]
    have e3 : pu_u (pu_u p 1 v) 2 (p 2) = pu_u p 1 v := by
      rw [← e2]
      exact pu_self
    rw [e3]
theorem hgt_up : ∀ h, h < 5 → (if nI h + 1 < (4 : Int32) then nI h + 1 else 4) = (if 0 ≤ nI h + 1 then (if nI h + 1 ≤ 4 then nI h + 1 else 4) else 0) := by decide +kernel
theorem hgt_dn : ∀ h, h < 5 → (if (0 : Int32) < nI h - 1 then nI h - 1 else 0) = (if 0 ≤ nI h + -1 then (if nI h + -1 ≤ 4 then nI h + -1 else 4) else 0) := by decide +kernel
theorem em_t30 {q : Nat} {v h : Int32} (hx : RW9 z x 10 121) (hl : l < 3) (hq : p 2 = nI q) (hq2 : q < 1000) : f_X3_turnArm_b30 z x (nI l) v h (pu_R M x (pu_S R l p)) = some (.inl none, pu_R M x (pu_S R l (if (if 0 ≤ h + v then (if h + v ≤ 4 then h + v else 4) else 0) = 4 then pu_u (pu_u p 1 (if 0 ≤ h + v then (if h + v ≤ 4 then h + v else 4) else 0)) 2 (if 0 < p 2 - 1 then p 2 - 1 else 0) else pu_u p 1 (if 0 ≤ h + v then (if h + v ≤ 4 then h + v else 4) else 0)))) := by
  unfold f_X3_turnArm_b30 nm9
  generalize h + v = y
  show (if 0 ≤ y then (if y ≤ 4 then f_X3_turnArm_b50 z x (nI l) y (pu_R M x (pu_S R l p)) else f_X3_turnArm_b50 z x (nI l) 4 (pu_R M x (pu_S R l p))) else f_X3_turnArm_b50 z x (nI l) 0 (pu_R M x (pu_S R l p))) = _
  by_cases q1 : 0 ≤ y
  · rw [if_pos q1, if_pos q1]
    by_cases q2 : y ≤ 4
    · rw [if_pos q2, if_pos q2, em_t50 hx hl hq hq2]
    · rw [if_neg q2, if_neg q2, em_t50 hx hl hq hq2]
  · rw [if_neg q1, if_neg q1, em_t50 hx hl hq hq2]
theorem em_turnArm {h q : Nat} (hx : RW9 z x 10 121) (hl : l < 3) (hc : p 0 = nI c) (h6 : c ≤ 6) (hB : pu_B p c) (hQ : pu_Q p c) (hbr : b9 (p 5)) (hh : p 1 = nI h) (h4 : h ≤ 4) (hq : p 2 = nI q) (hq2 : q < 1000) : f_X3_turnArm z x (nI l) (pu_R M x (pu_S R l p)) = some (.inl none, pu_R M x (pu_S R l (t3 c p))) := by
  unfold f_X3_turnArm
  rw [em_of5 hx hl, bi_k]
  by_cases h5 : p 5 = 0
  · have hrs : rs9 c p = pu_rs c p := if_pos h5
    have ht : t3 c p = ar9 (¬ rs9 c p = 0) p := if_pos h5
    rw [ht, if_neg (by rw [h5]; decide), em_of1 hx hl, bi_k, em_reason hx hl hc h6 hB hQ, bi_k]
    unfold ar9
    by_cases q0 : pu_rs c p = 0
    · have ha : ah9 (¬ rs9 c p = 0) p = (if 0 ≤ p 1 + -1 then (if p 1 + -1 ≤ 4 then p 1 + -1 else 4) else 0) := by
        unfold ah9
        rw [if_neg (fun e => e (hrs.trans q0)), hh]
        exact hgt_dn h (by omega)
      rw [if_pos (rs_le.mpr q0), em_t30 hx hl hq hq2, ha]
    · have ha : ah9 (¬ rs9 c p = 0) p = (if 0 ≤ p 1 + 1 then (if p 1 + 1 ≤ 4 then p 1 + 1 else 4) else 0) := by
        unfold ah9
        rw [if_pos (fun e => q0 (hrs.symm.trans e)), hh]
        exact hgt_up h (by omega)
      rw [if_neg (fun e => q0 (rs_le.mp e)), em_t30 hx hl hq hq2, ha]
  · have ht : t3 c p = p := if_neg h5
    rw [ht, if_pos (hbr.resolve_left h5)]
    rfl
def hR9 (c : Nat) (p R : Nat → Int32) : Nat → Int32 := if hp9 c p then pu_u R 5 (R 5 + 1) else R
theorem em_hit (hx : RW9 z x 10 121) (hl : l < 3) (hc : p 0 = nI c) (h6 : c ≤ 6) : f_X3_hit z x (nI l) (pu_R M x (pu_S R l p)) = some (.inl none, pu_R M x (pu_S (hR9 c p R) l (hi9 c p))) := by
  unfold hR9 hi9 f_X3_hit
  rw [em_of5 hx hl, bi_k]
  by_cases q5 : p 5 = 0
  · rw [if_pos q5, em_of1 hx hl, bi_k]
    by_cases q1 : 4 ≤ p 1
    · have hn : ¬ hp9 c p := fun h => h.2.1 q1
      rw [if_pos q1, if_neg hn, if_neg hn]
      rfl
    · rw [if_neg q1, em_isCovered hx hl hc h6, bi_k]
      by_cases q2 : (fs9 (ua9 p) c 0).isSome = true
      · have hp : hp9 c p := ⟨q5, q1, q2⟩
        rw [if_pos q2, if_pos hp, if_pos hp, if_neg (by decide), em_lay5 hx hl, bv_k, show (5 : Int32) = nI 5 from rfl, ld_k hx (by decide) (by decide), sb_k, st_k hx (by decide) (by decide), sb_k, pr_x, pr_w, ps_h (by decide), ps_v (by decide)]
        rfl
      · have hn : ¬ hp9 c p := fun h => q2 h.2.2
        rw [if_neg q2, if_neg hn, if_neg hn, if_pos rfl]
        rfl
  · have hn : ¬ hp9 c p := fun h => q5 h.1
    rw [if_neg q5, if_neg hn, if_neg hn]
    rfl
def tR9 (p R : Nat → Int32) : Nat → Nat → Int32
  | 0 => R
  | n + 1 => if la9' (th9 p n) n = 21 then (if le9' (th9 p n) n = 0 then pu_u (tR9 p R n) 4 (tR9 p R n 4 + 1) else pu_u (tR9 p R n) 3 (tR9 p R n 3 + 1)) else tR9 p R n
theorem tR_s {n : Nat} : tR9 p R (n + 1) = if la9' (th9 p n) n = 21 then (if le9' (th9 p n) n = 0 then pu_u (tR9 p R n) 4 (tR9 p R n 4 + 1) else pu_u (tR9 p R n) 3 (tR9 p R n 3 + 1)) else tR9 p R n := rfl
theorem em_goThrough {x0 : Nat} {u : Nat → Int32} (ho : RW9 z x0 3 0) (hm : RW9 z (x0 + 7) 11 6) (hx : RW9 z x 10 121) (hne : x0 + 7 ≠ x) (hl : l < 3) (hc : p 0 = nI c) (h6 : c ≤ 6) (hB : pu_B p c) (hu : ∀ k, k < c → la9' p k = 21 → u k = 1) : f_X3_goThrough z x0 x (nI l) (pu_R (pu_R M (x0 + 7) u) x (pu_S R l p)) = some (.inl none, pu_R (pu_R M (x0 + 7) u) x (pu_S (tR9 p R c) l (th9 p c))) := by
  generalize hM : pu_R M (x0 + 7) u = N
  have hN : ∀ k, N (x0 + 7) k = u k := fun k => by rw [← hM]; exact pr_x
  have hl2 : ∀ rem k n, k + rem = c → rem < n → fx9 (fun _ _ _ _ _ => none) (f_X3_goThrough_b2 z) n x0 x (nI l) (nI k) (pu_R N x (pu_S (tR9 p R k) l (th9 p k))) = some (.inl none, pu_R N x (pu_S (tR9 p R c) l (th9 p c))) := by
    intro rem
    induction rem with
    | zero =>
      intro k n hk hn
      obtain ⟨n, rfl⟩ : ∃ m, n = m + 1 := ⟨n - 1, by omega⟩
      rw [show k = c by omega, fx_k]
      unfold f_X3_goThrough_b2
      rw [em_of0 hx hl, bi_k, th_o (by decide), hc, if_pos (nI_le (Nat.le_refl _) (by omega))]
      rfl
    | succ rem ih =>
      intro k n hk hn
      obtain ⟨n, rfl⟩ : ∃ m, n = m + 1 := ⟨n - 1, by omega⟩
      have hk6 : k < 6 := by omega
      obtain ⟨-, -, b3⟩ := hB k (by omega)
      have hla : la9' (th9 p k) k = la9' p k := by
        unfold la9' fr9 ln9
        rw [th_o (by omega), th_o (by omega)]
      have hle : le9' (th9 p k) k = le9' p k := th_o (by omega)
      have hnext := ih (k + 1) n (by omega) (by omega)
      rw [th_s, tR_s, hla, hle] at hnext
      rw [fx_k]
      show f_X3_goThrough_b2 z (fx9 (fun _ _ _ _ _ => none) (f_X3_goThrough_b2 z) n) x0 x (nI l) (nI k) _ = _
      generalize hg : fx9 (fun _ _ _ _ _ => none) (f_X3_goThrough_b2 z) n = g at hnext ⊢
      unfold f_X3_goThrough_b2
      rw [em_of0 hx hl, bi_k, th_o (show 0 ≠ 3 by decide), hc, if_neg (nI_ge (by omega) (by omega)), rf_k ho, sb_k, ld_k hm hk6 (by decide), sb_k, pr_o hne, hN]
      by_cases q : la9' p k = 21
      · rw [if_pos q] at hnext
        rw [hu k (by omega) q, if_neg (show ¬ (1 : Int32) = 0 by decide), em_last hx hl hk6, bi_k, hla, if_pos q, em_told4 hx hl hk6, bi_k, hle]
        generalize tR9 p R k = Rk at hnext ⊢
        generalize hpk : th9 p k = pk at hnext ⊢
        rcases b3 with h | h
        · rw [h, if_pos rfl, if_neg (fun e => e.2 rfl)] at hnext
          rw [h, if_neg (show ¬ (0 : Int32) = 1 by decide)]
          unfold f_X3_goThrough_b48
          rw [show (3 : Int32) = nI 3 from rfl, ld_k hx (by decide) (by decide), sb_k, pr_x, ps_h (by decide), if_pos rfl]
          unfold f_X3_goThrough_b64
          rw [st_k hx (by decide) (by decide), sb_k, pr_w, ps_v (by decide), Int32.add_zero, pu_self, show (4 : Int32) = nI 4 from rfl, ld_k hx (by decide) (by decide), sb_k, pr_x, ps_h (by decide), if_pos rfl]
          unfold f_X3_goThrough_b80
          rw [st_k hx (by decide) (by decide), sb_k, pr_w, ps_v (by decide), em_of3 hx hl, bi_k, if_pos rfl]
          unfold f_X3_goThrough_b121
          rw [em_lay3 hx hl, bv_k, pu_self, nI_1]
          exact hnext
        · rw [h, if_neg (show ¬ (1 : Int32) = 0 by decide), if_pos ⟨q, by decide⟩] at hnext
          rw [h, if_pos rfl]
          unfold f_X3_goThrough_b48
          rw [show (3 : Int32) = nI 3 from rfl, ld_k hx (by decide) (by decide), sb_k, pr_x, ps_h (by decide), if_neg (show ¬ (1 : Int32) = 0 by decide)]
          unfold f_X3_goThrough_b64
          rw [st_k hx (by decide) (by decide), sb_k, pr_w, ps_v (by decide), show (4 : Int32) = nI 4 from rfl, ld_k hx (by decide) (by decide), sb_k, pr_x, ps_h (by decide), if_neg (show ¬ (1 : Int32) = 0 by decide)]
          unfold f_X3_goThrough_b80
          rw [st_k hx (by decide) (by decide), sb_k, pr_w, ps_v (by decide), Int32.add_zero, pu_self, em_of3 hx hl, bi_k, if_neg (show ¬ (1 : Int32) = 0 by decide), em_told0 hx hl hk6, bi_k]
          simp only [dv9]
          rw [if_neg (by decide), sb_k]
          unfold f_X3_goThrough_b121
          rw [em_lay3 hx hl, bv_k, nI_1]
          exact hnext
      · rw [if_neg q, if_neg (fun e => q e.1), ← nI_1] at hnext
        by_cases q2 : u k = 0
        · rw [if_pos q2]
          exact hnext
        · rw [if_neg q2, em_last hx hl hk6, bi_k, hla, if_neg q]
          exact hnext
  exact hl2 c 0 FU9 (by omega) (fu_lt h6)
end QA
