section QA
variable {z : Sh9} {x l c : Nat} {M : Mem9} {R p : Nat → Int32}
theorem pu_sw {r : Nat → Int32} {i j : Nat} {v w : Int32} (h : i ≠ j) : pu_u (pu_u r i v) j w = pu_u (pu_u r j w) i v := by
  funext k
  unfold pu_u
  by_cases h1 : k = j
  · rw [if_pos h1, if_neg (by omega), if_pos h1]
  · rw [if_neg h1]
    by_cases h2 : k = i
    · rw [if_pos h2, if_pos h2]
    · rw [if_neg h2, if_neg h2, if_neg h1]
theorem pu_tw {r : Nat → Int32} {i : Nat} {v w : Int32} : pu_u (pu_u r i v) i w = pu_u r i w := by
  funext k
  unfold pu_u
  by_cases h : k = i
  · rw [if_pos h, if_pos h]
  · rw [if_neg h, if_neg h, if_neg h]
def cR9 (c : Nat) (p R : Nat → Int32) : Nat → Int32 := match fs9 (ck9 p) c 0 with
  | none => R
  | some k => if p 6 + 1 < (if lo9 p k = 0 then R 7 else R 8) then R else if lo9 p k = 0 then R else pu_u R 6 (R 6 + 1)
theorem em_check (hx : RW9 z x 10 121) (hl : l < 3) (hc : p 0 = nI c) (h6 : c ≤ 6) (hB : pu_B p c) : f_X3_check z x (nI l) (pu_R M x (pu_S R l p)) = some (.inl none, pu_R M x (pu_S (cR9 c p R) l (ct9 c (R 7) (R 8) (R 9) p))) := by
  unfold f_X3_check
  rw [em_checked hx hl hc h6, bi_k]
  unfold cR9 ct9
  cases hf : fs9 (ck9 p) c 0 with
  | none =>
    show (if (-1 : Int32) = -1 then _ else _) = _
    rw [if_pos rfl, em_lay6 hx hl, bv_k]
    rfl
  | some k =>
    obtain ⟨-, hk, -⟩ := fs_some hf
    have hk6 : k < 6 := by omega
    show (if nI k = (-1 : Int32) then _ else _) = _
    rw [if_neg (by intro e; have h := nI_pos (n := k) (by omega); rw [e] at h; exact h (by decide)), em_of6 hx hl, bi_k]
    simp only [nm9]
    rw [em_told2 hx hl hk6, bi_k]
    have e88 : ∀ (lost ends : Int32), b9 lost → f_X3_check_b72 z x (nI l) (nI k) (p 6 + 1) lost ends (pu_R M x (pu_S R l p)) = some (.inl none, pu_R M x (pu_S (if ends = 0 then R else if lost = 0 then R else pu_u R 6 (R 6 + 1)) l (if ends = 0 then pu_u p 6 (p 6 + 1) else pu_u (pu_u (pu_u (pu_u p 6 (p 6 + 1)) (7 + 5 * k + 4) 1) 2 (p 3 / 8 + R 9)) 6 0))) := by
      intro lost ends hlo
      unfold f_X3_check_b72
      by_cases q : ends = 0
      · rw [if_pos q, if_pos q, if_pos q]
        unfold f_X3_check_b88
        rw [em_lay6 hx hl, bv_k, if_pos q]
        rfl
      · rw [if_neg q, if_neg q, if_neg q]
        have ep : pu_u (pu_u (pu_u (pu_u p 6 (p 6 + 1)) (7 + 5 * k + 4) 1) 2 (p 3 / 8 + R 9)) 6 0 = pu_u (pu_u (pu_u p 6 0) (7 + 5 * k + 4) 1) 2 (p 3 / 8 + R 9) := by
          rw [pu_sw (show 2 ≠ 6 by decide), pu_sw (show 7 + 5 * k + 4 ≠ 6 by omega), pu_tw]
        have e3 : pu_u (pu_u p 6 0) (7 + 5 * k + 4) 1 3 = p 3 := by rw [pu_u_ne (by omega), pu_u_ne (by decide)]
        rw [ep]
        unfold f_X3_check_b88
        rw [em_lay6 hx hl, bv_k, if_neg q, em_place4, bi_k, em_lay hx hl (by omega), bv_k, em_of3 hx hl, bi_k, e3]
        simp only [dv9]
        rw [if_neg (by decide), sb_k, show (9 : Int32) = nI 9 from rfl, ld_k hx (by decide) (by decide), sb_k, pr_x, ps_h (by decide), em_lay2 hx hl, bv_k, show (6 : Int32) = nI 6 from rfl, ld_k hx (by decide) (by decide), sb_k, pr_x, ps_h (by decide)]
        by_cases q2 : lost = 0
        · rw [if_pos q2, if_pos q2]
          unfold f_X3_check_b142
          rw [st_k hx (by decide) (by decide), sb_k, pr_w, ps_v (by decide), Int32.add_zero, pu_self]
          rfl
        · rw [if_neg q2, if_neg q2]
          unfold f_X3_check_b142
          rw [st_k hx (by decide) (by decide), sb_k, pr_w, ps_v (by decide)]
          rfl
    have e46 : ∀ (lost : Int32), b9 lost → f_X3_check_b46 z x (nI l) (nI k) (p 6 + 1) lost (pu_R M x (pu_S R l p)) = some (.inl none, pu_R M x (pu_S (if p 6 + 1 < (if lost = 0 then R 7 else R 8) then R else if lost = 0 then R else pu_u R 6 (R 6 + 1)) l (if p 6 + 1 < (if lost = 0 then R 7 else R 8) then pu_u p 6 (p 6 + 1) else pu_u (pu_u (pu_u (pu_u p 6 (p 6 + 1)) (7 + 5 * k + 4) 1) 2 (p 3 / 8 + R 9)) 6 0))) := by
      intro lost hlo
      have e62 : ∀ (s0 : Int32) (i : Nat), (7 : Int32) + s0 = nI i → i < 10 → f_X3_check_b62 z x (nI l) (nI k) (p 6 + 1) lost s0 7 x (p 6 + 1) (pu_R M x (pu_S R l p)) = some (.inl none, pu_R M x (pu_S (if p 6 + 1 < R i then R else if lost = 0 then R else pu_u R 6 (R 6 + 1)) l (if p 6 + 1 < R i then pu_u p 6 (p 6 + 1) else pu_u (pu_u (pu_u (pu_u p 6 (p 6 + 1)) (7 + 5 * k + 4) 1) 2 (p 3 / 8 + R 9)) 6 0))) := by
        intro s0 i hi h10
        unfold f_X3_check_b62
        rw [hi, ld_k hx (by omega) (by decide), sb_k, pr_x, ps_h h10]
        by_cases q : p 6 + 1 < R i
        · rw [if_pos q, e88 lost 0 hlo, if_pos rfl, if_pos rfl, if_pos q, if_pos q]
        · rw [if_neg q, e88 lost 1 hlo, if_neg (show ¬ (1 : Int32) = 0 by decide), if_neg (show ¬ (1 : Int32) = 0 by decide), if_neg q, if_neg q]
      unfold f_X3_check_b46
      rcases hlo with h | h
      · subst h
        rw [if_pos rfl, e62 0 7 rfl (by decide)]
        rfl
      · subst h
        rw [if_neg (by decide), e62 1 8 rfl (by decide)]
        rfl
    obtain ⟨b1, -, -⟩ := hB k (by omega)
    rcases b1 with h | h
    · rw [h, if_neg (show ¬ (0 : Int32) = 1 by decide), e46 0 (Or.inl rfl)]
    · rw [h, if_pos rfl, e46 1 (Or.inr rfl)]
/-- a vehicle isn't shorter than one cell -/
def pu_Q (p : Nat → Int32) (c : Nat) : Prop := ∀ k, k < c → la9' p k ≤ fr9 p k
def pu_rs (c : Nat) (p : Nat → Int32) : Int32 := if (fs9 (lw9 p) c 0).isSome then 1 else if p 4 = 0 ∧ (fs9 (cv9 p) c 0).isSome then 2 else if p 2 ≤ 0 then 0 else 3
theorem i32_lt {a b : Int32} : a < b ↔ a.toInt < b.toInt := Int32.lt_iff_toInt_lt
theorem i32_le {a b : Int32} : a ≤ b ↔ a.toInt ≤ b.toInt := Int32.le_iff_toInt_le
theorem cv_iff {k : Nat} (hq : la9' p k ≤ fr9 p k) : cv9 p k ↔ ((¬ fr9 p k < nI 19 ∧ ¬ nI 19 < la9' p k) ∨ (¬ fr9 p k < nI 20 ∧ ¬ nI 20 < la9' p k) ∨ (¬ fr9 p k < nI 21 ∧ ¬ nI 21 < la9' p k)) ∧ ¬ fr9 p k < 20 := by
  unfold cv9
  rw [show (20 : Int32) = nI 20 from rfl, show (21 : Int32) = nI 21 from rfl]
  simp only [i32_lt, i32_le, nI_toInt (show 19 < 2 ^ 31 by decide), nI_toInt (show 20 < 2 ^ 31 by decide), nI_toInt (show 21 < 2 ^ 31 by decide)] at hq ⊢
  omega
theorem lw_iff {k : Nat} (hb : b9 (le9' p k)) : lw9 p k ↔ le9' p k = 1 ∧ ¬ 20 ≤ fr9 p k := by
  unfold lw9
  have h1 : (¬ le9' p k = 0) ↔ le9' p k = 1 := b9_ne hb
  rw [h1, show (20 : Int32) = nI 20 from rfl, show (19 : Int32) = nI 19 from rfl]
  simp only [i32_lt, i32_le, nI_toInt (show 19 < 2 ^ 31 by decide), nI_toInt (show 20 < 2 ^ 31 by decide)]
  exact and_congr_right (fun _ => by omega)
theorem em_reason (hx : RW9 z x 10 121) (hl : l < 3) (hc : p 0 = nI c) (h6 : c ≤ 6) (hB : pu_B p c) (hQ : pu_Q p c) : f_X3_reason z x (nI l) (pu_R M x (pu_S R l p)) = some (.inl (some (.int (pu_rs c p))), pu_R M x (pu_S R l p)) := by
  have hl2 : ∀ rem k n y, k + rem = c → rem < n → (y = 0 ∨ y = 2) → fx9 (fun _ _ _ _ _ => none) (f_X3_reason_b4 z) n x (nI l) y (nI k) (pu_R M x (pu_S R l p)) = some (.inl (some (.int (if (fs9 (lw9 p) rem k).isSome then 1 else if y = 2 ∨ (p 4 = 0 ∧ (fs9 (cv9 p) rem k).isSome) then 2 else if p 2 ≤ 0 then 0 else 3))), pu_R M x (pu_S R l p)) := by
    intro rem
    induction rem with
    | zero =>
      intro k n y hk hn hy
      obtain ⟨n, rfl⟩ : ∃ m, n = m + 1 := ⟨n - 1, by omega⟩
      rw [show k = c by omega, fx_k]
      unfold f_X3_reason_b4
      rw [em_of0 hx hl, bi_k, hc, if_pos (nI_le (Nat.le_refl _) (by omega))]
      simp only [fs9, Option.isSome_none, Bool.false_eq_true, if_false, and_false, or_false]
      rcases hy with h | h
      · subst h
        rw [if_pos (by decide), em_of2 hx hl, bi_k, if_neg (show ¬ (0 : Int32) = 2 by decide)]
        by_cases q : p 2 ≤ 0
        · rw [if_pos q, if_pos q]
          rfl
        · rw [if_neg q, if_neg q]
          rfl
      · subst h
        rw [if_neg (by decide), if_pos rfl]
        rfl
    | succ rem ih =>
      intro k n y hk hn hy
      obtain ⟨n, rfl⟩ : ∃ m, n = m + 1 := ⟨n - 1, by omega⟩
      have hk6 : k < 6 := by omega
      obtain ⟨-, -, b3⟩ := hB k (by omega)
      have hlw := lw_iff (p := p) b3
      have hcv := cv_iff (p := p) (hQ k (by omega))
      have e109 : ∀ v : Int32, (v = 0 ∨ v = 2) → f_X3_reason_b109 z (fx9 (fun _ _ _ _ _ => none) (f_X3_reason_b4 z) n) x (nI l) (nI k) v (pu_R M x (pu_S R l p)) = some (.inl (some (.int (if (fs9 (lw9 p) rem (k + 1)).isSome then 1 else if v = 2 ∨ (p 4 = 0 ∧ (fs9 (cv9 p) rem (k + 1)).isSome) then 2 else if p 2 ≤ 0 then 0 else 3))), pu_R M x (pu_S R l p)) := by
        intro v hv
        unfold f_X3_reason_b109
        rw [nI_1]
        exact ih (k + 1) n v (by omega) (by omega) hv
      have e43 : ¬ lw9 p k → f_X3_reason_b43 z (fx9 (fun _ _ _ _ _ => none) (f_X3_reason_b4 z) n) x (nI l) y (nI k) (fr9 p k) (pu_R M x (pu_S R l p)) = some (.inl (some (.int (if (fs9 (lw9 p) (rem + 1) k).isSome then 1 else if y = 2 ∨ (p 4 = 0 ∧ (fs9 (cv9 p) (rem + 1) k).isSome) then 2 else if p 2 ≤ 0 then 0 else 3))), pu_R M x (pu_S R l p)) := by
        intro hnl
        have e81 : ∀ s0 : Int32, (s0 = 0 ↔ ¬ ((¬ fr9 p k < nI 19 ∧ ¬ nI 19 < la9' p k) ∨ (¬ fr9 p k < nI 20 ∧ ¬ nI 20 < la9' p k) ∨ (¬ fr9 p k < nI 21 ∧ ¬ nI 21 < la9' p k))) → f_X3_reason_b81 z (fx9 (fun _ _ _ _ _ => none) (f_X3_reason_b4 z) n) x (nI l) y (nI k) (fr9 p k) s0 (pu_R M x (pu_S R l p)) = some (.inl (some (.int (if (fs9 (lw9 p) (rem + 1) k).isSome then 1 else if y = 2 ∨ (p 4 = 0 ∧ (fs9 (cv9 p) (rem + 1) k).isSome) then 2 else if p 2 ≤ 0 then 0 else 3))), pu_R M x (pu_S R l p)) := by
          intro s0 hs
          have hlws : fs9 (lw9 p) (rem + 1) k = fs9 (lw9 p) rem (k + 1) := if_neg hnl
          rw [hlws]
          have hno : ¬ cv9 p k → f_X3_reason_b108 z (fx9 (fun _ _ _ _ _ => none) (f_X3_reason_b4 z) n) x (nI l) y (nI k) (pu_R M x (pu_S R l p)) = some (.inl (some (.int (if (fs9 (lw9 p) rem (k + 1)).isSome then 1 else if y = 2 ∨ (p 4 = 0 ∧ (fs9 (cv9 p) (rem + 1) k).isSome) then 2 else if p 2 ≤ 0 then 0 else 3))), pu_R M x (pu_S R l p)) := by
            intro hn2
            have hcvs : fs9 (cv9 p) (rem + 1) k = fs9 (cv9 p) rem (k + 1) := if_neg hn2
            rw [hcvs]
            exact e109 y hy
          unfold f_X3_reason_b81
          by_cases q : s0 = 0
          · rw [if_pos q]
            exact hno (fun h => (hs.mp q) (hcv.mp h).1)
          · rw [if_neg q]
            by_cases q2 : fr9 p k < 20
            · rw [if_pos q2]
              exact hno (fun h => h.1 q2)
            · rw [if_neg q2, em_of4 hx hl, bi_k]
              have hy2 : cv9 p k := hcv.mpr ⟨Decidable.not_not.mp (fun h => q (hs.mpr h)), q2⟩
              have hcvs : fs9 (cv9 p) (rem + 1) k = some k := if_pos hy2
              by_cases q4 : p 4 = 0
              · rw [if_pos q4, e109 2 (Or.inr rfl), hcvs]
                simp only [true_or, if_true, q4, Option.isSome_some, and_true, or_true]
              · rw [if_neg q4]
                have h5 := e109 y hy
                simp only [q4, false_and, or_false] at h5 ⊢
                exact h5
        have k19 : f_X3_covers z x (nI l) (nI k) (19 : Int32) (pu_R M x (pu_S R l p)) = some (.inl (some (.int (if ¬ fr9 p k < nI 19 ∧ ¬ nI 19 < la9' p k then 1 else 0))), pu_R M x (pu_S R l p)) := em_covers (c := 19) hx hl hk6
        have k20 : f_X3_covers z x (nI l) (nI k) (20 : Int32) (pu_R M x (pu_S R l p)) = some (.inl (some (.int (if ¬ fr9 p k < nI 20 ∧ ¬ nI 20 < la9' p k then 1 else 0))), pu_R M x (pu_S R l p)) := em_covers (c := 20) hx hl hk6
        have k21 : f_X3_covers z x (nI l) (nI k) (21 : Int32) (pu_R M x (pu_S R l p)) = some (.inl (some (.int (if ¬ fr9 p k < nI 21 ∧ ¬ nI 21 < la9' p k then 1 else 0))), pu_R M x (pu_S R l p)) := em_covers (c := 21) hx hl hk6
        unfold f_X3_reason_b43
        rw [k19, bi_k]
        by_cases c1 : ¬ fr9 p k < nI 19 ∧ ¬ nI 19 < la9' p k
        · rw [if_pos c1, if_neg (by decide)]
          exact e81 1 ⟨fun h => absurd h (by decide), fun h => absurd (Or.inl c1) h⟩
        · rw [if_neg c1, if_pos (show (0 : Int32) = 0 from rfl), k20, bi_k]
          by_cases c2 : ¬ fr9 p k < nI 20 ∧ ¬ nI 20 < la9' p k
          · rw [if_pos c2, if_neg (by decide)]
            exact e81 1 ⟨fun h => absurd h (by decide), fun h => absurd (Or.inr (Or.inl c2)) h⟩
          · rw [if_neg c2, if_pos (show (0 : Int32) = 0 from rfl), k21, bi_k]
            by_cases c3 : ¬ fr9 p k < nI 21 ∧ ¬ nI 21 < la9' p k
            · rw [if_pos c3, if_neg (by decide)]
              exact e81 1 ⟨fun h => absurd h (by decide), fun h => absurd (Or.inr (Or.inr c3)) h⟩
            · rw [if_neg c3, if_pos (show (0 : Int32) = 0 from rfl)]
              exact e81 0 ⟨fun _ h => h.elim c1 (fun h => h.elim c2 c3), fun _ => rfl⟩
      rw [fx_k]
      show f_X3_reason_b4 z (fx9 (fun _ _ _ _ _ => none) (f_X3_reason_b4 z) n) x (nI l) y (nI k) _ = _
      generalize hg : fx9 (fun _ _ _ _ _ => none) (f_X3_reason_b4 z) n = g at e43
      unfold f_X3_reason_b4
      rw [em_of0 hx hl, bi_k, hc, if_neg (nI_ge (by omega) (by omega)), em_told1 hx hl hk6, bi_k, em_told4 hx hl hk6, bi_k]
      by_cases q1 : le9' p k = 1
      · rw [if_pos q1]
        by_cases q2 : 20 ≤ fr9 p k
        · rw [if_pos q2]
          exact e43 (fun h => (hlw.mp h).2 q2)
        · have hlws : fs9 (lw9 p) (rem + 1) k = some k := if_pos (hlw.mpr ⟨q1, q2⟩)
          rw [if_neg q2, hlws]
          rfl
      · rw [if_neg q1]
        exact e43 (fun h => q1 (hlw.mp h).1)
  have h := hl2 c 0 FU9 0 (by omega) (fu_lt h6) (Or.inl rfl)
  refine Eq.trans h ?_
  unfold pu_rs
  have e : ((0 : Int32) = 2 ∨ p 4 = 0 ∧ (fs9 (cv9 p) c 0).isSome = true) ↔ (p 4 = 0 ∧ (fs9 (cv9 p) c 0).isSome = true) := ⟨fun h => h.elim (fun e => absurd e (by decide)) id, Or.inr⟩
  simp only [e]
end QA
