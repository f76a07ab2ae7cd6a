section QH
variable {z : Sh9} {x : Nat} {M : Mem9}
/-- lane l of a row -/
def pu_s (Q : Nat → Int32) (l : Nat) : Nat → Int32 := fun j => Q (10 + 37 * l + j)
theorem pS_s {Q : Nat → Int32} {l : Nat} : pu_S Q l (pu_s Q l) = Q := by
  funext i
  unfold pu_S pu_s
  by_cases h : 10 + 37 * l ≤ i ∧ i < 10 + 37 * l + 37
  · rw [if_pos h, show 10 + 37 * l + (i - (10 + 37 * l)) = i by omega]
  · rw [if_neg h]
theorem pI_cong {p q : Nat → Int32} {c : Nat} (h : ∀ j, j < 37 → q j = p j) (hI : pu_I p c) : pu_I q c := by
  obtain ⟨i0, i6, ⟨h', h1, h2⟩, ⟨q', q1, q2⟩, ⟨w, w1, w2⟩, i4, i5, iB, iV, iZ⟩ := hI
  have hf : ∀ k, k < c → fr9 q k = fr9 p k ∧ ln9 q k = ln9 p k := fun k hk => ⟨h _ (by omega), h _ (by omega)⟩
  refine ⟨(h 0 (by omega)).trans i0, i6, ⟨h', h1, (h 1 (by omega)).trans h2⟩, ⟨q', q1, (h 2 (by omega)).trans q2⟩, ⟨w, w1, (h 3 (by omega)).trans w2⟩, ?_, ?_, fun k hk => ?_, pV_cong hf iV, pZ_cong hf iZ⟩
  · rw [h 4 (by omega)]; exact i4
  · rw [h 5 (by omega)]; exact i5
  · have e1 : lo9 q k = lo9 p k := h _ (by omega)
    have e2 : fo9 q k = fo9 p k := h _ (by omega)
    have e3 : le9' q k = le9' p k := h _ (by omega)
    rw [e1, e2, e3]
    exact iB k hk
/-- lane l's tick in a row -/
def tl9 (c l : Nat) (Q : Nat → Int32) : Nat → Int32 := pu_S (pR9 c (pu_s Q l) Q) l (tk9 c (Q 7) (Q 8) (Q 9) (pu_s Q l))
theorem tl_h {c l j : Nat} {Q : Nat → Int32} (h : j < 2 ∨ (6 < j ∧ j < 10)) : tl9 c l Q j = Q j := by
  unfold tl9
  rw [ps_h (by omega), pR_o (by omega)]
theorem tl_o {c l l' j : Nat} {Q : Nat → Int32} (h : l' ≠ l) (hj : j < 37) : pu_s (tl9 c l Q) l' j = pu_s Q l' j := by
  unfold tl9
  show pu_S _ l _ (10 + 37 * l' + j) = Q (10 + 37 * l' + j)
  unfold pu_S
  rw [if_neg (by omega), pR_o (by omega)]
theorem tl_l {c l j : Nat} {Q : Nat → Int32} (hj : j < 37) : pu_s (tl9 c l Q) l j = tk9 c (Q 7) (Q 8) (Q 9) (pu_s Q l) j := by
  unfold tl9
  exact ps_i hj
/-- the lanes from l on, of r lanes -/
def tF9 (cs : Nat → Nat) : Nat → Nat → (Nat → Int32) → Nat → Int32
  | 0, _, Q => Q
  | r + 1, l, Q => tF9 cs r (l + 1) (tl9 (cs l) l Q)
def uF9 (cs : Nat → Nat) : Nat → Nat → (Nat → Int32) → Int32 → Int32
  | 0, _, _, v => v
  | r + 1, l, Q, v => uF9 cs r (l + 1) (tl9 (cs l) l Q) (v + up9 (cs l) (pu_s Q l) Q)
theorem wr_self {a k : Nat} : wr9 M a k (M a k) = M := by
  funext b j
  rw [wr_ap]
  by_cases h : b = a
  · rw [if_pos h]
    by_cases h2 : j = k
    · rw [if_pos h2, h, h2]
    · rw [if_neg h2]
  · rw [if_neg h]
theorem wr_tw {a k : Nat} {v w : Int32} : wr9 (wr9 M a k v) a k w = wr9 M a k w := by
  funext b j
  rw [wr_ap, wr_ap, wr_ap]
  by_cases h : b = a
  · rw [if_pos h, if_pos h, if_pos h]
    by_cases h2 : j = k
    · rw [if_pos h2, if_pos h2]
    · rw [if_neg h2, if_neg h2, if_neg h2]
  · rw [if_neg h, if_neg h, if_neg h]
theorem em_tickOn {x0 n g : Nat} {u Q : Nat → Int32} {cs : Nat → Nat} (ho : RW9 z x0 3 0) (hm : RW9 z (x0 + 7) 11 6) (hx : RW9 z x 10 121) (hne : x0 + 7 ≠ x) (hne2 : x0 ≠ x) (hn : n ≤ 3) (hg : g ≤ 20) (h0 : Q 0 = nI n) (h9 : Q 9 = nI g) (hI : ∀ l, l < n → pu_I (pu_s Q l) (cs l)) :
    ∃ u', f_X3_tickOn z x0 x (pu_R (pu_R M (x0 + 7) u) x Q) = some (.inl none, pu_R (pu_R (wr9 M x0 10 (uF9 cs n 0 Q (M x0 10))) (x0 + 7) u') x (pu_u (tF9 cs n 0 Q) 1 (Q 1 + 1))) := by
  have hl : ∀ rem l m Q u M, l + rem = n → rem < m → Q 0 = nI n → Q 9 = nI g → (∀ l', l ≤ l' → l' < n → pu_I (pu_s Q l') (cs l')) → ∃ u', fx9 (fun _ _ _ _ => none) (f_X3_tickOn_b2 z) m x0 x (nI l) (pu_R (pu_R M (x0 + 7) u) x Q) = some (.inl none, pu_R (pu_R (wr9 M x0 10 (uF9 cs rem l Q (M x0 10))) (x0 + 7) u') x (pu_u (tF9 cs rem l Q) 1 (Q 1 + 1))) := by
    intro rem
    induction rem with
    | zero =>
      intro l m Q u M hlr hm1 h0 h9 hI
      obtain ⟨m, rfl⟩ : ∃ q, m = q + 1 := ⟨m - 1, by omega⟩
      refine ⟨u, ?_⟩
      have e0 : ∀ N, ld9 z (pu_R N x Q) 10 x (0 : Int32) = some (Q 0) := fun N => (ld_k (k := 0) hx (by decide) (by decide)).trans (by rw [pr_x])
      have e1 : ∀ N, ld9 z (pu_R N x Q) 10 x (1 : Int32) = some (Q 1) := fun N => (ld_k (k := 1) hx (by decide) (by decide)).trans (by rw [pr_x])
      have e2 : ∀ N v, st9 z (pu_R N x Q) x (1 : Int32) v = some (pu_R N x (pu_u Q 1 v)) := fun N v => (st_k (k := 1) hx (by decide) (by decide)).trans (by rw [pr_w])
      rw [fx_k]
      unfold f_X3_tickOn_b2
      rw [e0, sb_k, h0, if_pos (nI_le (by omega) (by omega)), e1, sb_k, e2, sb_k]
      unfold uF9 tF9
      rw [wr_self]
      rfl
    | succ rem ih =>
      intro l m Q u M hlr hm1 h0 h9 hI
      obtain ⟨m, rfl⟩ : ∃ q, m = q + 1 := ⟨m - 1, by omega⟩
      have h := em_step (M := M) (u := u) (R := Q) (p := pu_s Q l) (G := fx9 (fun _ _ _ _ => none) (f_X3_tickOn_b2 z) m) ho hm hx hne hne2 h0 (show l < n by omega) hn hg h9 (hI l (Nat.le_refl _) (by omega))
      rw [pS_s] at h
      obtain ⟨u', hu⟩ := ih (l + 1) m (tl9 (cs l) l Q) (mu9 (cs l) (pu_s Q l) u) (wr9 M x0 10 (M x0 10 + up9 (cs l) (pu_s Q l) Q)) (by omega) (by omega) (by rw [tl_h (by omega)]; exact h0) (by rw [tl_h (by omega)]; exact h9) (fun l' h1 h2 => pI_cong (fun j hj => tl_o (by omega) hj) (hI l' (by omega) h2))
      refine ⟨u', ?_⟩
      rw [fx_k, h, nI_1]
      refine Eq.trans hu ?_
      rw [wr_tw, wr_eq, tl_h (by omega)]
      rfl
  exact hl n 0 FU9 Q u M (by omega) (by unfold FU9; omega) h0 h9 (fun l' _ h => hI l' h)
end QH
