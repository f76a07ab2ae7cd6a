section RI
variable {z : Sh9} {M M' M2 : Mem9} {g x y x0 n c B l a : Nat} {Q p r s : Nat → Int32}
/-! where the cells are -/
abbrev og8 (o : Nat) : Prop := o + 20 < 392 ∧ kd9 o = (0, 0) ∧ kd9 (o + 1) = (14, 3) ∧ kd9 (o + 2) = (10, 3) ∧ ∀ l, l < 3 → kd9 (o + 3 + 6 * l) = (1, 0) ∧ kd9 (o + 3 + 6 * l + 1) = (10, 6) ∧ kd9 (o + 3 + 6 * l + 2) = (10, 6) ∧ kd9 (o + 3 + 6 * l + 3) = (11, 6) ∧ kd9 (o + 3 + 6 * l + 4) = (11, 6) ∧ kd9 (o + 3 + 6 * l + 5) = (11, 6)
theorem rw_mk {q i t n : Nat} (hi : i < 392) (hk : kd9 i = (t, n)) (hq : q = a + i) : RW9 (a, 392, kd9) q t n := by
  subst hq
  refine ⟨Nat.le_add_right _ _, Nat.add_lt_add_left hi _, ?_⟩
  show kd9 (a + i - a) = (t, n)
  rw [Nat.add_sub_cancel_left]
  exact hk
theorem g8_mk {o : Nat} (h : og8 o) (hg : g = a + o) : G8 (a, 392, kd9) g := by
  obtain ⟨h0, h1, h2, h3, h4⟩ := h
  subst hg
  refine ⟨rw_mk (by omega) h1 rfl, rw_mk (by omega) h2 (by omega), rw_mk (by omega) h3 (by omega), fun l hl => ?_⟩
  obtain ⟨k0, k1, k2, k3, k4, k5⟩ := h4 l hl
  exact ⟨rw_mk (by omega) k0 (by omega), rw_mk (by omega) k1 (by omega), rw_mk (by omega) k2 (by omega), rw_mk (by omega) k3 (by omega), rw_mk (by omega) k4 (by omega), rw_mk (by omega) k5 (by omega)⟩
theorem og_2 : og8 2 ∧ og8 23 := by decide +kernel
theorem og_r : ∀ i, i < 14 → og8 (47 + 21 * i) := by decide +kernel
theorem og_s : ∀ i, i < 2 → og8 (341 + 21 * i) := by decide +kernel
def HZ8 (z : Sh9) (a : Nat) : Prop := (RW9 z a 2 0 ∧ RW9 z (a + 1) 12 120 ∧ RW9 z (a + 44) 15 14 ∧ RW9 z (a + 45) 16 2 ∧ RW9 z (a + 46) 11 2) ∧ (RW9 z (a + 383) 3 0 ∧ RW9 z (a + 384) 10 120 ∧ RW9 z (a + 385) 10 121 ∧ RW9 z (a + 386) 10 121 ∧ RW9 z (a + 387) 10 1694 ∧ RW9 z (a + 388) 10 242 ∧ RW9 z (a + 389) 11 2 ∧ RW9 z (a + 390) 11 6 ∧ RW9 z (a + 391) 13 1) ∧ G8 z (a + 2) ∧ G8 z (a + 23) ∧ (∀ i, i < 14 → G8 z (a + 47 + 21 * i)) ∧ ∀ i, i < 2 → G8 z (a + 341 + 21 * i)
theorem hz_mk : HZ8 (a, 392, kd9) a := ⟨⟨rw_mk (i := 0) (by omega) (by decide) (by omega), rw_mk (by omega) (by decide +kernel) rfl, rw_mk (by omega) (by decide +kernel) rfl, rw_mk (by omega) (by decide +kernel) rfl, rw_mk (by omega) (by decide +kernel) rfl⟩, ⟨rw_mk (by omega) (by decide +kernel) rfl, rw_mk (by omega) (by decide +kernel) rfl, rw_mk (by omega) (by decide +kernel) rfl, rw_mk (by omega) (by decide +kernel) rfl, rw_mk (by omega) (by decide +kernel) rfl, rw_mk (by omega) (by decide +kernel) rfl, rw_mk (by omega) (by decide +kernel) rfl, rw_mk (by omega) (by decide +kernel) rfl, rw_mk (by omega) (by decide +kernel) rfl⟩, g8_mk og_2.1 rfl, g8_mk og_2.2 rfl, fun i hi => g8_mk (og_r i hi) (by omega), fun i hi => g8_mk (og_s i hi) (by omega)⟩
/-! copies of rows -/
def cp8 (to : Nat) (f g : Nat → Int32) : Nat → Int32 := fun k => if to ≤ k ∧ k < to + 121 then f (k - to) else g k
theorem m_copy {fo to n1 n2 : Nat} (hx : RW9 z x 10 n1) (hy : RW9 z y 10 n2) (hxy : x ≠ y) (h1 : fo + 121 ≤ n1) (h2 : to + 121 ≤ n2) (hn1 : n1 < 2147483648) (hn2 : n2 < 2147483648) : f_X3_copyState z x (nI fo) y (nI to) M = some (.inl none, pu_R M y (cp8 to (fun i => M x (fo + i)) (M y))) := by
  have hl : ∀ rem k m, k + rem = 121 → rem < m → fx9 (fun _ _ _ _ _ _ => none) (f_X3_copyState_b3 z) m x (nI fo) y (nI to) (nI k) (pu_R M y (fun i => if to ≤ i ∧ i < to + k then M x (fo + (i - to)) else M y i)) = some (.inl none, pu_R M y (cp8 to (fun i => M x (fo + i)) (M y))) := by
    intro rem
    induction rem with
    | zero =>
      intro k m hk hm
      obtain ⟨m, rfl⟩ : ∃ q, m = q + 1 := ⟨m - 1, by omega⟩
      rw [fx_k, show k = 121 by omega]
      unfold f_X3_copyState_b3
      rw [if_pos (show (121 : Int32) ≤ nI 121 by decide)]
      rfl
    | succ rem ih =>
      intro k m hk hm
      obtain ⟨m, rfl⟩ : ∃ q, m = q + 1 := ⟨m - 1, by omega⟩
      have e : pu_u (fun i => if to ≤ i ∧ i < to + k then M x (fo + (i - to)) else M y i) (to + k) (M x (fo + k)) = fun i => if to ≤ i ∧ i < to + (k + 1) then M x (fo + (i - to)) else M y i := by
        funext i
        unfold pu_u
        by_cases e : i = to + k
        · rw [if_pos e, if_pos (by omega), show i - to = k by omega]
        · rw [if_neg e]
          show (if to ≤ i ∧ i < to + k then M x (fo + (i - to)) else M y i) = _
          by_cases e2 : to ≤ i ∧ i < to + k
          · rw [if_pos e2, if_pos (by omega)]
          · rw [if_neg e2, if_neg (by omega)]
      rw [fx_k]
      unfold f_X3_copyState_b3
      rw [if_neg (show ¬ (121 : Int32) ≤ nI k from nI_ge (b := 121) (by omega) (by decide)), nI_add, ld_k hx (by omega) hn1, sb_k, pr_o hxy, nI_add, st_k hy (by omega) hn2, sb_k, pr_w, e, nI_1]
      exact ih (k + 1) m (by omega) (by omega)
  have h := hl 121 0 FU9 (by omega) (by unfold FU9; omega)
  have e0 : (fun i => if to ≤ i ∧ i < to + 0 then M x (fo + (i - to)) else M y i) = M y := by
    funext i
    exact if_neg (by omega)
  rw [e0, pr_self] at h
  exact h
/-- the row of a new gate -/
def cl8 (g : Nat → Int32) : Nat → Int32 := pu_u (pu_u (pu_u (fun i => if i < 121 then 0 else g i) 7 3) 8 12) 9 2
theorem m_clear (hx : RW9 z x 10 121) : f_X3_clear z x M = some (.inl none, pu_R M x (cl8 (M x))) := by
  have hl : ∀ rem k m, k + rem = 121 → rem < m → fx9 (fun _ _ _ => none) (f_X3_clear_b2 z) m x (nI k) (pu_R M x (fun i => if i < k then 0 else M x i)) = some (.inl none, pu_R M x (cl8 (M x))) := by
    intro rem
    induction rem with
    | zero =>
      intro k m hk hm
      obtain ⟨m, rfl⟩ : ∃ q, m = q + 1 := ⟨m - 1, by omega⟩
      rw [fx_k, show k = 121 by omega]
      unfold f_X3_clear_b2
      rw [if_pos (show (121 : Int32) ≤ nI 121 by decide), show (7 : Int32) = nI 7 from rfl, st_k hx (by decide) (by decide), sb_k, show (8 : Int32) = nI 8 from rfl, st_k hx (by decide) (by decide), sb_k, show (9 : Int32) = nI 9 from rfl, st_k hx (by decide) (by decide), sb_k, pr_w, pr_w, pr_w]
      rfl
    | succ rem ih =>
      intro k m hk hm
      obtain ⟨m, rfl⟩ : ∃ q, m = q + 1 := ⟨m - 1, by omega⟩
      have e : pu_u (fun i => if i < k then 0 else M x i) k 0 = fun i => if i < k + 1 then 0 else M x i := by
        funext j
        unfold pu_u
        by_cases e : j = k
        · rw [if_pos e, if_pos (by omega)]
        · rw [if_neg e]
          show (if j < k then 0 else M x j) = if j < k + 1 then 0 else M x j
          by_cases e2 : j < k
          · rw [if_pos e2, if_pos (by omega)]
          · rw [if_neg e2, if_neg (by omega)]
      rw [fx_k]
      unfold f_X3_clear_b2
      rw [if_neg (show ¬ (121 : Int32) ≤ nI k from nI_ge (b := 121) (by omega) (by decide)), st_k hx (by omega) (by decide), sb_k, pr_w, e, nI_1]
      exact ih (k + 1) m (by omega) (by omega)
  have h := hl 121 0 FU9 (by omega) (by unfold FU9; omega)
  have e0 : (fun i => if i < 0 then 0 else M x i) = M x := by
    funext i
    exact if_neg (by omega)
  rw [e0, pr_self] at h
  exact h
/-! remembering, on the model's side -/
/-- the blocks behind a new one -/
def rb8 (A : Nat) (D : Nat → Nat → Int32) (Q : Nat → Int32) (j : Nat) : Nat → Int32 := if A = 14 then (if j = 13 then Q else D (j + 1)) else (if j = A then Q else D j)
def ra8 (A : Nat) : Nat := if A = 14 then 14 else A + 1
theorem m_rem49 {A : Nat} (ho : RW9 z x0 3 0) (h2 : RW9 z (x0 + 2) 10 121) (h4 : RW9 z (x0 + 4) 10 1694) (hA : M x0 6 = nI A) (hA14 : A < 14) : f_X3_remember_b49 z x0 M = some (.inl none, wr9 (pu_R M (x0 + 4) (cp8 (121 * A) (fun i => M (x0 + 2) i) (M (x0 + 4)))) x0 6 (nI (A + 1))) := by
  have hc := m_copy (M := M) (fo := 0) (to := 121 * A) h2 h4 (by omega) (by omega) (by omega) (by decide) (by decide)
  have e0 : (fun i => M (x0 + 2) (0 + i)) = fun i => M (x0 + 2) i := by funext i; rw [Nat.zero_add]
  rw [e0] at hc
  unfold f_X3_remember_b49
  rw [rf_k ho, sb_k, rf_k ho, sb_k, gf_k ho, sb_k, hA, show (121 : Int32) = nI 121 from rfl, nI_mul, show (0 : Int32) = nI 0 from rfl, hc, bv_k, gf_k ho, sb_k, pr_o (by omega), hA, pf_k ho, sb_k, nI_1]
  rfl
theorem m_rem11 {A : Nat} (ho : RW9 z x0 3 0) (h2 : RW9 z (x0 + 2) 10 121) (h4 : RW9 z (x0 + 4) 10 1694) (hA : M x0 6 = nI 14) : fx9 (fun _ _ _ => none) (f_X3_remember_b11 z) FU9 x0 0 M = f_X3_remember_b49 z x0 (wr9 (pu_R M (x0 + 4) (fun i => if i < 1573 then M (x0 + 4) (i + 121) else M (x0 + 4) i)) x0 6 (nI 13)) := by
  have hl : ∀ rem k m, k + rem = 1573 → rem < m → fx9 (fun _ _ _ => none) (f_X3_remember_b11 z) m x0 (nI k) (pu_R M (x0 + 4) (fun i => if i < k then M (x0 + 4) (i + 121) else M (x0 + 4) i)) = f_X3_remember_b49 z x0 (wr9 (pu_R M (x0 + 4) (fun i => if i < 1573 then M (x0 + 4) (i + 121) else M (x0 + 4) i)) x0 6 (nI 13)) := by
    intro rem
    induction rem with
    | zero =>
      intro k m hk hm
      obtain ⟨m, rfl⟩ : ∃ q, m = q + 1 := ⟨m - 1, by omega⟩
      rw [fx_k, show k = 1573 by omega]
      unfold f_X3_remember_b11
      rw [if_pos (show (1573 : Int32) ≤ nI 1573 from nI_le (a := 1573) (by omega) (by omega)), gf_k ho, sb_k, pr_o (by omega), hA, pf_k ho, sb_k, show nI 14 - 1 = nI 13 by decide]
    | succ rem ih =>
      intro k m hk hm
      obtain ⟨m, rfl⟩ : ∃ q, m = q + 1 := ⟨m - 1, by omega⟩
      have e1 : ∀ i, i = k + 121 → pu_R M (x0 + 4) (fun i => if i < k then M (x0 + 4) (i + 121) else M (x0 + 4) i) (x0 + 4) i = M (x0 + 4) (k + 121) := fun i hi => by
        rw [pr_x, if_neg (by omega), hi]
      have e : pu_u (fun i => if i < k then M (x0 + 4) (i + 121) else M (x0 + 4) i) k (M (x0 + 4) (k + 121)) = fun i => if i < k + 1 then M (x0 + 4) (i + 121) else M (x0 + 4) i := by
        funext j
        unfold pu_u
        by_cases e : j = k
        · rw [if_pos e, if_pos (by omega), e]
        · rw [if_neg e]
          show (if j < k then M (x0 + 4) (j + 121) else M (x0 + 4) j) = if j < k + 1 then M (x0 + 4) (j + 121) else M (x0 + 4) j
          by_cases e2 : j < k
          · rw [if_pos e2, if_pos (by omega)]
          · rw [if_neg e2, if_neg (by omega)]
      rw [fx_k]
      unfold f_X3_remember_b11
      rw [if_neg (show ¬ (1573 : Int32) ≤ nI k from nI_ge (b := 1573) (by omega) (by omega)), rf_k ho, sb_k, sb_k, show (121 : Int32) = nI 121 from rfl, nI_add, ld_k h4 (by omega) (by decide), sb_k, e1 _ rfl, st_k h4 (by omega) (by decide), sb_k, pr_w, e, nI_1]
      exact ih (k + 1) m (by omega) (by omega)
  have h := hl 1573 0 FU9 (by omega) (by unfold FU9; omega)
  have e0 : (fun i => if i < 0 then M (x0 + 4) (i + 121) else M (x0 + 4) i) = M (x0 + 4) := by
    funext i
    exact if_neg (by omega)
  rw [e0, pr_self] at h
  exact h
theorem m_remember {A : Nat} (ho : RW9 z x0 3 0) (h2 : RW9 z (x0 + 2) 10 121) (h4 : RW9 z (x0 + 4) 10 1694) (hA : M x0 6 = nI A) (hA14 : A ≤ 14) : ∃ M', f_X3_remember z x0 M = some (.inl none, M') ∧ (∀ q k, q ≠ x0 + 4 → (q = x0 → k ≠ 6) → M' q k = M q k) ∧ M' x0 6 = nI (ra8 A) ∧ ∀ j i, j < ra8 A → i < 121 → M' (x0 + 4) (121 * j + i) = rb8 A (fun j i => M (x0 + 4) (121 * j + i)) (M (x0 + 2)) j i := by
  by_cases h14 : A = 14
  · subst h14
    generalize hN : wr9 (pu_R M (x0 + 4) (fun i => if i < 1573 then M (x0 + 4) (i + 121) else M (x0 + 4) i)) x0 6 (nI 13) = N
    have hN6 : N x0 6 = nI 13 := by rw [← hN, wr_eq]
    have hN2 : ∀ i, N (x0 + 2) i = M (x0 + 2) i := fun i => by rw [← hN, wr_na (by omega), pr_o (by omega)]
    have hN4 : ∀ i, N (x0 + 4) i = if i < 1573 then M (x0 + 4) (i + 121) else M (x0 + 4) i := fun i => by rw [← hN, wr_na (by omega), pr_x]
    have t := m_rem49 (M := N) ho h2 h4 hN6 (by omega)
    have t2 : f_X3_remember z x0 M = f_X3_remember_b49 z x0 N := by
      unfold f_X3_remember
      rw [gf_k ho, sb_k, hA, if_pos (by decide), m_rem11 (A := 14) ho h2 h4 hA, hN]
    refine ⟨_, t2.trans t, fun q k h1 h3 => ?_, ?_, fun j i hj hi => ?_⟩
    · have e1 : N q k = M q k := by
        rw [← hN]
        by_cases e : q = x0
        · rw [e, wr_nk (h3 e), pr_o (by omega)]
        · rw [wr_na e, pr_o h1]
      by_cases e : q = x0
      · rw [e, wr_nk (h3 e), pr_o (by omega), ← e]; exact e1
      · rw [wr_na e, pr_o h1]; exact e1
    · rw [wr_eq]; rfl
    · have hj14 : j < 14 := hj
      rw [wr_na (by omega), pr_x]
      unfold cp8 rb8
      rw [if_pos rfl]
      by_cases e : j = 13
      · rw [if_pos e, if_pos (by omega)]
        show N (x0 + 2) (121 * j + i - 121 * 13) = M (x0 + 2) i
        rw [hN2, show 121 * j + i - 121 * 13 = i by omega]
      · rw [if_neg e, if_neg (by omega), hN4, if_pos (by omega), show 121 * j + i + 121 = 121 * (j + 1) + i by omega]
  · have t := m_rem49 (M := M) ho h2 h4 hA (by omega)
    have t2 : f_X3_remember z x0 M = f_X3_remember_b49 z x0 M := by
      unfold f_X3_remember
      rw [gf_k ho, sb_k, hA, if_neg (show ¬ nI A = 14 from fun e => h14 ((nI_eq (b := 14) (by omega) (by omega)).mp e))]
    refine ⟨_, t2.trans t, fun q k h1 h3 => ?_, ?_, fun j i hj hi => ?_⟩
    · by_cases e : q = x0
      · rw [e, wr_nk (h3 e), pr_o (by omega)]
      · rw [wr_na e, pr_o h1]
    · rw [wr_eq]
      unfold ra8
      rw [if_neg h14]
    · have hj14 : j < A + 1 := by unfold ra8 at hj; rw [if_neg h14] at hj; exact hj
      rw [wr_na (by omega), pr_x]
      unfold cp8 rb8
      rw [if_neg h14]
      by_cases e : j = A
      · rw [if_pos e, if_pos (by omega), show 121 * j + i - 121 * A = i by rw [e]; omega]
      · rw [if_neg e, if_neg (by omega)]
end RI
