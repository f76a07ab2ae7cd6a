section PY
variable {z : Sh9} {x l : Nat} {M : Mem9} {R p : Nat → Int32}
/-- a row of 121 numbers in a memory -/
def pu_R (M : Mem9) (x : Nat) (R : Nat → Int32) : Mem9 := fun a k => if a = x then R k else M a k
/-- a lane's 37 numbers in a row -/
def pu_S (R : Nat → Int32) (l : Nat) (p : Nat → Int32) : Nat → Int32 := fun i => if 10 + 37 * l ≤ i ∧ i < 10 + 37 * l + 37 then p (i - (10 + 37 * l)) else R i
theorem pr_x {k : Nat} : pu_R M x R x k = R k := if_pos rfl
theorem pr_o {a k : Nat} (h : a ≠ x) : pu_R M x R a k = M a k := if_neg h
theorem pr_w {k : Nat} {v : Int32} : wr9 (pu_R M x R) x k v = pu_R M x (pu_u R k v) := by
  funext a q
  rw [wr_ap]
  unfold pu_R pu_u
  by_cases h : a = x
  · rw [if_pos h, if_pos h, if_pos h]
  · rw [if_neg h, if_neg h, if_neg h]
theorem pr_wo {a k : Nat} {v : Int32} (h : a ≠ x) : wr9 (pu_R M x R) a k v = pu_R (wr9 M a k v) x R := by
  funext b q
  rw [wr_ap]
  unfold pu_R
  by_cases h1 : b = a
  · subst h1
    rw [if_pos rfl, if_neg h, if_neg h, wr_ap, if_pos rfl]
  · rw [if_neg h1]
    by_cases h2 : b = x
    · rw [if_pos h2, if_pos h2]
    · rw [if_neg h2, if_neg h2, wr_ap, if_neg h1]
theorem ps_i {j : Nat} (h : j < 37) : pu_S R l p (10 + 37 * l + j) = p j := by
  unfold pu_S
  rw [if_pos (by omega), show 10 + 37 * l + j - (10 + 37 * l) = j by omega]
theorem ps_h {j : Nat} (h : j < 10) : pu_S R l p j = R j := if_neg (by omega)
theorem ps_w {j : Nat} {v : Int32} (h : j < 37) : pu_u (pu_S R l p) (10 + 37 * l + j) v = pu_S R l (pu_u p j v) := by
  funext i
  unfold pu_u pu_S
  by_cases h1 : 10 + 37 * l ≤ i ∧ i < 10 + 37 * l + 37
  · rw [if_pos h1, if_pos h1]
    by_cases h2 : i = 10 + 37 * l + j
    · rw [if_pos h2]
      exact (if_pos (show i - (10 + 37 * l) = j by omega)).symm
    · rw [if_neg h2]
      exact (if_neg (show ¬ i - (10 + 37 * l) = j by omega)).symm
  · rw [if_neg h1, if_neg h1, if_neg (by omega)]
theorem ps_v {j : Nat} {v : Int32} (h : j < 10) : pu_u (pu_S R l p) j v = pu_S (pu_u R j v) l p := by
  funext i
  unfold pu_u pu_S
  by_cases h1 : 10 + 37 * l ≤ i ∧ i < 10 + 37 * l + 37
  · rw [if_pos h1, if_pos h1, if_neg (by omega)]
  · rw [if_neg h1, if_neg h1]
theorem nI_mul (a b : Nat) : nI a * nI b = nI (a * b) := (Int32.ofNat_mul a b).symm
theorem ix_k {l j : Nat} : (10 : Int32) + (37 : Int32) * nI l + nI j = nI (10 + 37 * l + j) := by
  rw [show (37 : Int32) = nI 37 from rfl, show (10 : Int32) = nI 10 from rfl, nI_mul, nI_add, nI_add]
theorem iy_k {k j : Nat} : (7 : Int32) + (5 : Int32) * nI k + nI j = nI (7 + 5 * k + j) := by
  rw [show (5 : Int32) = nI 5 from rfl, show (7 : Int32) = nI 7 from rfl, nI_mul, nI_add, nI_add]
theorem em_of {j : Nat} (hx : RW9 z x 10 121) (hl : l < 3) (hj : j < 37) : f_X3_of z x (nI l) (nI j) (pu_R M x (pu_S R l p)) = some (.inl (some (.int (p j))), pu_R M x (pu_S R l p)) := by
  unfold f_X3_of
  rw [ix_k, ld_k hx (by omega) (by decide), sb_k, pr_x, ps_i hj]
  rfl
theorem em_lay {j : Nat} {v : Int32} (hx : RW9 z x 10 121) (hl : l < 3) (hj : j < 37) : f_X3_lay z x (nI l) (nI j) v (pu_R M x (pu_S R l p)) = some (.inl none, pu_R M x (pu_S R l (pu_u p j v))) := by
  unfold f_X3_lay
  rw [ix_k, st_k hx (by omega) (by decide), sb_k, pr_w, ps_w hj]
  rfl
theorem em_place {k j : Nat} : f_X3_place z (nI k) (nI j) M = some (.inl (some (.int (nI (7 + 5 * k + j)))), M) := by
  unfold f_X3_place
  rw [iy_k]
  rfl
theorem em_told {k j : Nat} (hx : RW9 z x 10 121) (hl : l < 3) (hk : k < 6) (hj : j < 5) : f_X3_told z x (nI l) (nI k) (nI j) (pu_R M x (pu_S R l p)) = some (.inl (some (.int (p (7 + 5 * k + j)))), pu_R M x (pu_S R l p)) := by
  unfold f_X3_told
  rw [em_place, bi_k, em_of hx hl (by omega), bi_k]
  rfl
theorem em_of0 (hx : RW9 z x 10 121) (hl : l < 3) : f_X3_of z x (nI l) (0 : Int32) (pu_R M x (pu_S R l p)) = some (.inl (some (.int (p 0))), pu_R M x (pu_S R l p)) := em_of (j := 0) hx hl (by decide)
theorem em_lay0 {v : Int32} (hx : RW9 z x 10 121) (hl : l < 3) : f_X3_lay z x (nI l) (0 : Int32) v (pu_R M x (pu_S R l p)) = some (.inl none, pu_R M x (pu_S R l (pu_u p 0 v))) := em_lay (j := 0) hx hl (by decide)
theorem em_of1 (hx : RW9 z x 10 121) (hl : l < 3) : f_X3_of z x (nI l) (1 : Int32) (pu_R M x (pu_S R l p)) = some (.inl (some (.int (p 1))), pu_R M x (pu_S R l p)) := em_of (j := 1) hx hl (by decide)
theorem em_lay1 {v : Int32} (hx : RW9 z x 10 121) (hl : l < 3) : f_X3_lay z x (nI l) (1 : Int32) v (pu_R M x (pu_S R l p)) = some (.inl none, pu_R M x (pu_S R l (pu_u p 1 v))) := em_lay (j := 1) hx hl (by decide)
theorem em_of2 (hx : RW9 z x 10 121) (hl : l < 3) : f_X3_of z x (nI l) (2 : Int32) (pu_R M x (pu_S R l p)) = some (.inl (some (.int (p 2))), pu_R M x (pu_S R l p)) := em_of (j := 2) hx hl (by decide)
theorem em_lay2 {v : Int32} (hx : RW9 z x 10 121) (hl : l < 3) : f_X3_lay z x (nI l) (2 : Int32) v (pu_R M x (pu_S R l p)) = some (.inl none, pu_R M x (pu_S R l (pu_u p 2 v))) := em_lay (j := 2) hx hl (by decide)
theorem em_of3 (hx : RW9 z x 10 121) (hl : l < 3) : f_X3_of z x (nI l) (3 : Int32) (pu_R M x (pu_S R l p)) = some (.inl (some (.int (p 3))), pu_R M x (pu_S R l p)) := em_of (j := 3) hx hl (by decide)
theorem em_lay3 {v : Int32} (hx : RW9 z x 10 121) (hl : l < 3) : f_X3_lay z x (nI l) (3 : Int32) v (pu_R M x (pu_S R l p)) = some (.inl none, pu_R M x (pu_S R l (pu_u p 3 v))) := em_lay (j := 3) hx hl (by decide)
theorem em_of4 (hx : RW9 z x 10 121) (hl : l < 3) : f_X3_of z x (nI l) (4 : Int32) (pu_R M x (pu_S R l p)) = some (.inl (some (.int (p 4))), pu_R M x (pu_S R l p)) := em_of (j := 4) hx hl (by decide)
theorem em_lay4 {v : Int32} (hx : RW9 z x 10 121) (hl : l < 3) : f_X3_lay z x (nI l) (4 : Int32) v (pu_R M x (pu_S R l p)) = some (.inl none, pu_R M x (pu_S R l (pu_u p 4 v))) := em_lay (j := 4) hx hl (by decide)
theorem em_of5 (hx : RW9 z x 10 121) (hl : l < 3) : f_X3_of z x (nI l) (5 : Int32) (pu_R M x (pu_S R l p)) = some (.inl (some (.int (p 5))), pu_R M x (pu_S R l p)) := em_of (j := 5) hx hl (by decide)
theorem em_lay5 {v : Int32} (hx : RW9 z x 10 121) (hl : l < 3) : f_X3_lay z x (nI l) (5 : Int32) v (pu_R M x (pu_S R l p)) = some (.inl none, pu_R M x (pu_S R l (pu_u p 5 v))) := em_lay (j := 5) hx hl (by decide)
theorem em_of6 (hx : RW9 z x 10 121) (hl : l < 3) : f_X3_of z x (nI l) (6 : Int32) (pu_R M x (pu_S R l p)) = some (.inl (some (.int (p 6))), pu_R M x (pu_S R l p)) := em_of (j := 6) hx hl (by decide)
theorem em_lay6 {v : Int32} (hx : RW9 z x 10 121) (hl : l < 3) : f_X3_lay z x (nI l) (6 : Int32) v (pu_R M x (pu_S R l p)) = some (.inl none, pu_R M x (pu_S R l (pu_u p 6 v))) := em_lay (j := 6) hx hl (by decide)
theorem em_told0 {k : Nat} (hx : RW9 z x 10 121) (hl : l < 3) (hk : k < 6) : f_X3_told z x (nI l) (nI k) (0 : Int32) (pu_R M x (pu_S R l p)) = some (.inl (some (.int (ln9 p k))), pu_R M x (pu_S R l p)) := em_told (j := 0) hx hl hk (by decide)
theorem em_place0 {k : Nat} : f_X3_place z (nI k) (0 : Int32) M = some (.inl (some (.int (nI (7 + 5 * k + 0)))), M) := em_place (j := 0)
theorem em_told1 {k : Nat} (hx : RW9 z x 10 121) (hl : l < 3) (hk : k < 6) : f_X3_told z x (nI l) (nI k) (1 : Int32) (pu_R M x (pu_S R l p)) = some (.inl (some (.int (fr9 p k))), pu_R M x (pu_S R l p)) := em_told (j := 1) hx hl hk (by decide)
theorem em_place1 {k : Nat} : f_X3_place z (nI k) (1 : Int32) M = some (.inl (some (.int (nI (7 + 5 * k + 1)))), M) := em_place (j := 1)
theorem em_told2 {k : Nat} (hx : RW9 z x 10 121) (hl : l < 3) (hk : k < 6) : f_X3_told z x (nI l) (nI k) (2 : Int32) (pu_R M x (pu_S R l p)) = some (.inl (some (.int (lo9 p k))), pu_R M x (pu_S R l p)) := em_told (j := 2) hx hl hk (by decide)
theorem em_place2 {k : Nat} : f_X3_place z (nI k) (2 : Int32) M = some (.inl (some (.int (nI (7 + 5 * k + 2)))), M) := em_place (j := 2)
theorem em_told3 {k : Nat} (hx : RW9 z x 10 121) (hl : l < 3) (hk : k < 6) : f_X3_told z x (nI l) (nI k) (3 : Int32) (pu_R M x (pu_S R l p)) = some (.inl (some (.int (fo9 p k))), pu_R M x (pu_S R l p)) := em_told (j := 3) hx hl hk (by decide)
theorem em_place3 {k : Nat} : f_X3_place z (nI k) (3 : Int32) M = some (.inl (some (.int (nI (7 + 5 * k + 3)))), M) := em_place (j := 3)
theorem em_told4 {k : Nat} (hx : RW9 z x 10 121) (hl : l < 3) (hk : k < 6) : f_X3_told z x (nI l) (nI k) (4 : Int32) (pu_R M x (pu_S R l p)) = some (.inl (some (.int (le9' p k))), pu_R M x (pu_S R l p)) := em_told (j := 4) hx hl hk (by decide)
theorem em_place4 {k : Nat} : f_X3_place z (nI k) (4 : Int32) M = some (.inl (some (.int (nI (7 + 5 * k + 4)))), M) := em_place (j := 4)
theorem em_last {k : Nat} (hx : RW9 z x 10 121) (hl : l < 3) (hk : k < 6) : f_X3_last z x (nI l) (nI k) (pu_R M x (pu_S R l p)) = some (.inl (some (.int (la9' p k))), pu_R M x (pu_S R l p)) := by
  unfold f_X3_last
  rw [em_told1 hx hl hk, bi_k, em_told0 hx hl hk, bi_k]
  rfl
theorem em_canMove {k : Nat} (hx : RW9 z x 10 121) (hl : l < 3) (hk : k < 6) : f_X3_canMove z x (nI l) (nI k) (pu_R M x (pu_S R l p)) = some (.inl (some (.int (if cm9 p k then 1 else 0))), pu_R M x (pu_S R l p)) := by
  have e28 : f_X3_canMove_b28 z x (nI l) (nI k) (fr9 p k) (pu_R M x (pu_S R l p)) = some (.inl (some (.int (if (fr9 p k = 19 → p 1 = 4 ∧ (le9' p k = 1 ∨ fo9 p k = 1)) then 1 else 0))), pu_R M x (pu_S R l p)) := by
    unfold f_X3_canMove_b28
    by_cases q1 : fr9 p k = 19
    · rw [if_pos q1, em_of1 hx hl, bi_k]
      by_cases q2 : p 1 = 4
      · rw [if_pos q2, em_told4 hx hl hk, bi_k]
        by_cases q3 : le9' p k = 1
        · rw [if_pos q3, rz_1, if_pos (fun _ => ⟨q2, Or.inl q3⟩)]
        · rw [if_neg q3, em_told3 hx hl hk, bi_k]
          by_cases q4 : fo9 p k = 1
          · rw [if_pos q4, rz_1, if_pos (fun _ => ⟨q2, Or.inr q4⟩)]
          · rw [if_neg q4, rz_0, if_neg (fun h => (h q1).2.elim q3 q4)]
      · rw [if_neg q2, rz_0, if_neg (fun h => q2 (h q1).1)]
    · rw [if_neg q1, rz_1, if_pos (fun h => absurd h q1)]
  unfold f_X3_canMove
  rw [em_told1 hx hl hk, bi_k]
  rcases Nat.eq_zero_or_pos k with hk0 | hk0
  · subst hk0
    rw [if_pos (by decide), e28]
    unfold cm9
    simp only [true_or, true_and]
  · obtain ⟨j, rfl⟩ : ∃ j, k = j + 1 := ⟨k - 1, by omega⟩
    rw [if_neg (nI_nle (by omega) (by omega)), nI_pred, em_last hx hl (by omega), bi_k]
    unfold cm9
    by_cases q : fr9 p (j + 1) + 2 ≤ la9' p j
    · rw [if_pos q, e28]
      simp only [Nat.add_sub_cancel, q, or_true, true_and]
    · rw [if_neg q, rz_0, if_neg (fun h => h.1.elim (fun h1 => by omega) (fun h1 => q h1))]
theorem em_covers {k c : Nat} (hx : RW9 z x 10 121) (hl : l < 3) (hk : k < 6) : f_X3_covers z x (nI l) (nI k) (nI c) (pu_R M x (pu_S R l p)) = some (.inl (some (.int (if ¬ fr9 p k < nI c ∧ ¬ nI c < la9' p k then 1 else 0))), pu_R M x (pu_S R l p)) := by
  unfold f_X3_covers
  rw [em_told1 hx hl hk, bi_k]
  by_cases q1 : fr9 p k < nI c
  · rw [if_pos q1, rz_0, if_neg (fun h => h.1 q1)]
  · rw [if_neg q1, em_last hx hl hk, bi_k]
    by_cases q2 : nI c < la9' p k
    · rw [if_pos q2, rz_0, if_neg (fun h => h.2 q2)]
    · rw [if_neg q2, rz_1, if_pos ⟨q1, q2⟩]
/-- the model's search for a place -/
theorem fy_find {c : Nat} {bot : Nat → Int32 → Int32 → Mem9 → Re9} {F : (Nat → Int32 → Int32 → Mem9 → Re9) → Nat → Int32 → Int32 → Mem9 → Re9} {P : Nat → Prop} [DecidablePred P] {E : Re9} {O : Nat → Re9} {y : Int32} (h1 : ∀ g k, k < c → P k → F g x y (nI k) M = O k) (h2 : ∀ g k, k < c → ¬ P k → F g x y (nI k) M = g x y (nI k + 1) M) (h3 : ∀ g, F g x y (nI c) M = E) :
    ∀ r k n, k + r = c → r < n → fx9 bot F n x y (nI k) M = match fs9 P r k with | none => E | some j => O j := by
  intro r
  induction r with
  | zero =>
    intro k n hk hn
    obtain ⟨n, rfl⟩ : ∃ m, n = m + 1 := ⟨n - 1, by omega⟩
    rw [fx_k, show k = c by omega, h3]
    rfl
  | succ r ih =>
    intro k n hk hn
    obtain ⟨n, rfl⟩ : ∃ m, n = m + 1 := ⟨n - 1, by omega⟩
    rw [fx_k]
    unfold fs9
    by_cases hp : P k
    · rw [if_pos hp, h1 _ _ (by omega) hp]
    · rw [if_neg hp, h2 _ _ (by omega) hp, nI_1, ih (k + 1) n (by omega) (by omega)]
abbrev cm9k (r : Nat → Int32) (k : Nat) : Prop := le9' r k = 0 ∧ fr9 r k = 19
theorem em_checked {c : Nat} (hx : RW9 z x 10 121) (hl : l < 3) (hc : p 0 = nI c) (h6 : c ≤ 6) : f_X3_checked z x (nI l) (pu_R M x (pu_S R l p)) = some (.inl (some (.int (match fs9 (ck9 p) c 0 with | none => -1 | some k => nI k))), pu_R M x (pu_S R l p)) := by
  refine Eq.trans (fy_find (c := c) (P := ck9 p) (E := some (.inl (some (.int (-1))), pu_R M x (pu_S R l p))) (O := fun k => some (.inl (some (.int (nI k))), pu_R M x (pu_S R l p))) (fun g k hk hp => ?_) (fun g k hk hp => ?_) (fun g => ?_) c 0 FU9 (by omega) (fu_lt h6)) ?_
  · have hk6 : k < 6 := by omega
    unfold f_X3_checked_b2
    rw [em_of0 hx hl, bi_k, hc, if_neg (nI_ge (by omega) (by omega)), em_told4 hx hl hk6, bi_k, if_pos hp.2, em_told1 hx hl hk6, bi_k, if_pos hp.1]
    rfl
  · have hk6 : k < 6 := by omega
    unfold f_X3_checked_b2
    rw [em_of0 hx hl, bi_k, hc, if_neg (nI_ge (by omega) (by omega)), em_told4 hx hl hk6, bi_k]
    by_cases q : le9' p k = 0
    · rw [if_pos q, em_told1 hx hl hk6, bi_k, if_neg (fun e => hp ⟨e, q⟩)]
    · rw [if_neg q]
  · unfold f_X3_checked_b2
    rw [em_of0 hx hl, bi_k, hc, if_pos (nI_le (Nat.le_refl _) (by omega))]
    rfl
  · cases fs9 (ck9 p) c 0 <;> rfl
theorem em_isCovered {c : Nat} (hx : RW9 z x 10 121) (hl : l < 3) (hc : p 0 = nI c) (h6 : c ≤ 6) : f_X3_isCovered z x (nI l) (pu_R M x (pu_S R l p)) = some (.inl (some (.int (if (fs9 (ua9 p) c 0).isSome then 1 else 0))), pu_R M x (pu_S R l p)) := by
  refine Eq.trans (fy_find (c := c) (P := ua9 p) (E := some (.inl (some (.int 0)), pu_R M x (pu_S R l p))) (O := fun k => some (.inl (some (.int 1)), pu_R M x (pu_S R l p))) (fun g k hk hp => ?_) (fun g k hk hp => ?_) (fun g => ?_) c 0 FU9 (by omega) (fu_lt h6)) ?_
  · have hk6 : k < 6 := by omega
    unfold f_X3_isCovered_b2
    rw [em_of0 hx hl, bi_k, hc, if_neg (nI_ge (by omega) (by omega)), show (20 : Int32) = nI 20 from rfl, em_covers hx hl hk6, bi_k, if_pos (show ¬ fr9 p k < nI 20 ∧ ¬ nI 20 < la9' p k from hp), if_neg (by decide), rz_1]
  · have hk6 : k < 6 := by omega
    unfold f_X3_isCovered_b2
    rw [em_of0 hx hl, bi_k, hc, if_neg (nI_ge (by omega) (by omega)), show (20 : Int32) = nI 20 from rfl, em_covers hx hl hk6, bi_k, if_neg (show ¬ (¬ fr9 p k < nI 20 ∧ ¬ nI 20 < la9' p k) from hp), if_pos rfl]
  · unfold f_X3_isCovered_b2
    rw [em_of0 hx hl, bi_k, hc, if_pos (nI_le (Nat.le_refl _) (by omega)), rz_0]
  · cases fs9 (ua9 p) c 0 <;> rfl
end PY
