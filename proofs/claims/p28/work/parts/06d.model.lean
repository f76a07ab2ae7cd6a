section PY
variable {z : Sh9} {x l : Nat} {M : Mem9} {R p : Nat → Int32}
/-- a row of 121 numbers in a memory -/
def pu_R (M : Mem9) (x : Nat) (R : Nat → Int32) : Mem9 := fun a k => if a = x then R k else M a k
/-- a lane's 37 numbers in a row -/
def pu_S (R : Nat → Int32) (l : Nat) (p : Nat → Int32) : Nat → Int32 := fun i => if 10 + 37 * l ≤ i ∧ i < 10 + 37 * l + 37 then p (i - (10 + 37 * l)) else R i
theorem pr_x {k : Nat} : pu_R M x R x k = R k := if_pos rfl
theorem pr_o {a k : Nat} (h : a ≠ x) : pu_R M x R a k = M a k := if_neg h
theorem pr_w {k : Nat} {v : Int32} : wr9 (pu_R M x R) x k v = pu_R M x (pu_u R k v) := by
  funext a q
  rw [wr_ap]
  unfold pu_R pu_u
  by_cases h : a = x
  · rw [if_pos h, if_pos h, if_pos h]
  · rw [if_neg h, if_neg h, if_neg h]
theorem pr_wo {a k : Nat} {v : Int32} (h : a ≠ x) : wr9 (pu_R M x R) a k v = pu_R (wr9 M a k v) x R := by
  funext b q
  rw [wr_ap]
  unfold pu_R
  by_cases h1 : b = a
  · subst h1
    rw [if_pos rfl, if_neg h, if_neg h, wr_ap, if_pos rfl]
  · rw [if_neg h1]
    by_cases h2 : b = x
    · rw [if_pos h2, if_pos h2]
    · rw [if_neg h2, if_neg h2, wr_ap, if_neg h1]
theorem ps_i {j : Nat} (h : j < 37) : pu_S R l p (10 + 37 * l + j) = p j := by
  unfold pu_S
  rw [if_pos (by omega), show 10 + 37 * l + j - (10 + 37 * l) = j by omega]
theorem ps_h {j : Nat} (h : j < 10) : pu_S R l p j = R j := if_neg (by omega)
theorem ps_w {j : Nat} {v : Int32} (h : j < 37) : pu_u (pu_S R l p) (10 + 37 * l + j) v = pu_S R l (pu_u p j v) := by
  funext i
  unfold pu_u pu_S
  by_cases h1 : 10 + 37 * l ≤ i ∧ i < 10 + 37 * l + 37
  · rw [if_pos h1, if_pos h1]
    by_cases h2 : i = 10 + 37 * l + j
    · rw [if_pos h2]
      exact (if_pos (show i - (10 + 37 * l) = j by omega)).symm
    · rw [if_neg h2]
      exact (if_neg (show ¬ i - (10 + 37 * l) = j by omega)).symm
  · rw [if_neg h1, if_neg h1, if_neg (by omega)]
theorem ps_v {j : Nat} {v : Int32} (h : j < 10) : pu_u (pu_S R l p) j v = pu_S (pu_u R j v) l p := by
  funext i
  unfold pu_u pu_S
  by_cases h1 : 10 + 37 * l ≤ i ∧ i < 10 + 37 * l + 37
  · rw [if_pos h1, if_pos h1, if_neg (by omega)]
  · rw [if_neg h1, if_neg h1]
theorem nI_mul (a b : Nat) : nI a * nI b = nI (a * b) := (Int32.ofNat_mul a b).symm
theorem ix_k {l j : Nat} : (10 : Int32) + (37 : Int32) * nI l + nI j = nI (10 + 37 * l + j) := by
  rw [show (37 : Int32) = nI 37 from rfl, show (10 : Int32) = nI 10 from rfl, nI_mul, nI_add, nI_add]
theorem iy_k {k j : Nat} : (7 : Int32) + (5 : Int32) * nI k + nI j = nI (7 + 5 * k + j) := by
  rw [show (5 : Int32) = nI 5 from rfl, show (7 : Int32) = nI 7 from rfl, nI_mul, nI_add, nI_add]
/-- the model's search for a place -/
theorem fy_find {c : Nat} {bot : Nat → Int32 → Int32 → Mem9 → Re9} {F : (Nat → Int32 → Int32 → Mem9 → Re9) → Nat → Int32 → Int32 → Mem9 → Re9} {P : Nat → Prop} [DecidablePred P] {E : Re9} {O : Nat → Re9} {y : Int32} (h1 : ∀ g k, k < c → P k → F g x y (nI k) M = O k) (h2 : ∀ g k, k < c → ¬ P k → F g x y (nI k) M = g x y (nI k + 1) M) (h3 : ∀ g, F g x y (nI c) M = E) :
    ∀ r k n, k + r = c → r < n → fx9 bot F n x y (nI k) M = match fs9 P r k with | none => E | some j => O j := by
  intro r
  induction r with
  | zero =>
    intro k n hk hn
    obtain ⟨n, rfl⟩ : ∃ m, n = m + 1 := ⟨n - 1, by omega⟩
    rw [fx_k, show k = c by omega, h3]
    rfl
  | succ r ih =>
    intro k n hk hn
    obtain ⟨n, rfl⟩ : ∃ m, n = m + 1 := ⟨n - 1, by omega⟩
    rw [fx_k]
    unfold fs9
    by_cases hp : P k
    · rw [if_pos hp, h1 _ _ (by omega) hp]
    · rw [if_neg hp, h2 _ _ (by omega) hp, nI_1, ih (k + 1) n (by omega) (by omega)]
abbrev cm9k (r : Nat → Int32) (k : Nat) : Prop := le9' r k = 0 ∧ fr9 r k = 19
end PY
