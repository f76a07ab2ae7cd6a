section QH
variable {z : Sh9} {x : Nat} {M : Mem9}
/-- lane l of a row -/
def pu_s (Q : Nat → Int32) (l : Nat) : Nat → Int32 := fun j => Q (10 + 37 * l + j)
theorem pS_s {Q : Nat → Int32} {l : Nat} : pu_S Q l (pu_s Q l) = Q := by
  funext i
  unfold pu_S pu_s
  by_cases h : 10 + 37 * l ≤ i ∧ i < 10 + 37 * l + 37
  · rw [if_pos h, show 10 + 37 * l + (i - (10 + 37 * l)) = i by omega]
  · rw [if_neg h]
theorem pI_cong {p q : Nat → Int32} {c : Nat} (h : ∀ j, j < 37 → q j = p j) (hI : pu_I p c) : pu_I q c := by
  obtain ⟨i0, i6, ⟨h', h1, h2⟩, ⟨q', q1, q2⟩, ⟨w, w1, w2⟩, i4, i5, iB, iV, iZ⟩ := hI
  have hf : ∀ k, k < c → fr9 q k = fr9 p k ∧ ln9 q k = ln9 p k := fun k hk => ⟨h _ (by omega), h _ (by omega)⟩
  refine ⟨(h 0 (by omega)).trans i0, i6, ⟨h', h1, (h 1 (by omega)).trans h2⟩, ⟨q', q1, (h 2 (by omega)).trans q2⟩, ⟨w, w1, (h 3 (by omega)).trans w2⟩, ?_, ?_, fun k hk => ?_, pV_cong hf iV, pZ_cong hf iZ⟩
  · rw [h 4 (by omega)]; exact i4
  · rw [h 5 (by omega)]; exact i5
  · have e1 : lo9 q k = lo9 p k := h _ (by omega)
    have e2 : fo9 q k = fo9 p k := h _ (by omega)
    have e3 : le9' q k = le9' p k := h _ (by omega)
    rw [e1, e2, e3]
    exact iB k hk
/-- lane l's tick in a row -/
def tl9 (c l : Nat) (Q : Nat → Int32) : Nat → Int32 := pu_S (pR9 c (pu_s Q l) Q) l (tk9 c (Q 7) (Q 8) (Q 9) (pu_s Q l))
theorem tl_h {c l j : Nat} {Q : Nat → Int32} (h : j < 2 ∨ (6 < j ∧ j < 10)) : tl9 c l Q j = Q j := by
  unfold tl9
  rw [ps_h (by omega), pR_o (by omega)]
theorem tl_o {c l l' j : Nat} {Q : Nat → Int32} (h : l' ≠ l) (hj : j < 37) : pu_s (tl9 c l Q) l' j = pu_s Q l' j := by
  unfold tl9
  show pu_S _ l _ (10 + 37 * l' + j) = Q (10 + 37 * l' + j)
  unfold pu_S
  rw [if_neg (by omega), pR_o (by omega)]
theorem tl_l {c l j : Nat} {Q : Nat → Int32} (hj : j < 37) : pu_s (tl9 c l Q) l j = tk9 c (Q 7) (Q 8) (Q 9) (pu_s Q l) j := by
  unfold tl9
  exact ps_i hj
/-- the lanes from l on, of r lanes -/
def tF9 (cs : Nat → Nat) : Nat → Nat → (Nat → Int32) → Nat → Int32
  | 0, _, Q => Q
  | r + 1, l, Q => tF9 cs r (l + 1) (tl9 (cs l) l Q)
def uF9 (cs : Nat → Nat) : Nat → Nat → (Nat → Int32) → Int32 → Int32
  | 0, _, _, v => v
  | r + 1, l, Q, v => uF9 cs r (l + 1) (tl9 (cs l) l Q) (v + up9 (cs l) (pu_s Q l) Q)
theorem wr_self {a k : Nat} : wr9 M a k (M a k) = M := by
  funext b j
  rw [wr_ap]
  by_cases h : b = a
  · rw [if_pos h]
    by_cases h2 : j = k
    · rw [if_pos h2, h, h2]
    · rw [if_neg h2]
  · rw [if_neg h]
theorem wr_tw {a k : Nat} {v w : Int32} : wr9 (wr9 M a k v) a k w = wr9 M a k w := by
  funext b j
  rw [wr_ap, wr_ap, wr_ap]
  by_cases h : b = a
  · rw [if_pos h, if_pos h, if_pos h]
    by_cases h2 : j = k
    · rw [if_pos h2, if_pos h2]
    · rw [if_neg h2, if_neg h2, if_neg h2]
  · rw [if_neg h, if_neg h, if_neg h]
end QH
