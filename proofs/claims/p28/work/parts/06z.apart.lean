section RG
variable {z : Sh9} {M M' : Mem9} {g x x0 n c B l : Nat} {Q p r s : Nat → Int32}
/-! rows: what holds is kept -/
theorem pI_A {p q : Nat → Int32} (h : pu_A q p c) (hI : pu_I p c) : pu_I q c := by
  obtain ⟨i0, i6, ⟨h', h1, h2⟩, ⟨q', q1, q2⟩, ⟨w, w1, w2⟩, i4, i5, iB, iV, iZ⟩ := hI
  have hf : ∀ k, k < c → fr9 q k = fr9 p k ∧ ln9 q k = ln9 p k := fun k hk => ⟨A_fr h hk, A_ln h hk⟩
  refine ⟨(h 0 (by omega)).trans i0, i6, ⟨h', h1, (h 1 (by omega)).trans h2⟩, ⟨q', q1, (h 2 (by omega)).trans q2⟩, ⟨w, w1, (h 3 (by omega)).trans w2⟩, ?_, ?_, fun k hk => ?_, pV_cong hf iV, pZ_cong hf iZ⟩
  · rw [h 4 (by omega)]; exact i4
  · rw [h 5 (by omega)]; exact i5
  · rw [A_lo h hk, A_fo h hk, A_le h hk]
    exact iB k hk
theorem pA_trans {p q : Nat → Int32} (h1 : pu_A p q c) (h2 : pu_A q r c) : pu_A p r c := fun j hj => (h1 j hj).trans (h2 j hj)
theorem pA_37 {p q : Nat → Int32} (h6 : c ≤ 6) (h : ∀ j, j < 37 → p j = q j) : pu_A p q c := fun j hj => h j (by omega)
theorem ri_S {c' : Nat} (h : RI8 Q) (hl : l < kn8 Q) (hI : pu_I p c') : RI8 (pu_S Q l p) ∧ kn8 (pu_S Q l p) = kn8 Q := by
  obtain ⟨h0, hn, h9, hIs⟩ := h
  have e0 : pu_S Q l p 0 = nI (kn8 Q) := (ps_h (by omega)).trans h0
  refine ⟨ri_mk (cs := fun l' => if l' = l then c' else kc8 Q l') e0 hn (by rw [ps_h (by omega)]; exact h9) (fun l' h' => ?_), kn_of e0 hn⟩
  by_cases e : l' = l
  · rw [if_pos e, e]
    exact pI_cong (fun j hj => ps_l hj) hI
  · rw [if_neg e]
    exact pI_cong (fun j hj => ps_n e hj) (hIs l' h')
theorem ri_ql (h : RI8 Q) (hn : kn8 Q < 3) : RI8 (ql8 Q) ∧ kn8 (ql8 Q) = kn8 Q + 1 := by
  obtain ⟨h0, -, h9, hIs⟩ := h
  have e0 : ql8 Q 0 = nI (kn8 Q + 1) := by
    unfold ql8
    rw [pu_u_eq, h0, nI_1]
  refine ⟨ri_mk (cs := fun l' => if l' = kn8 Q then 0 else kc8 Q l') e0 (by omega) ?_ (fun l' h' => ?_), kn_of e0 (by omega)⟩
  · unfold ql8
    rw [pu_u_ne (by omega), ps_h (by omega)]
    exact h9
  · by_cases e : l' = kn8 Q
    · rw [if_pos e, e]
      refine pI_cong (fun j hj => ?_) nl_I
      unfold ql8 pu_s
      rw [pu_u_ne (by omega), ps_i hj]
    · rw [if_neg e]
      refine pI_cong (fun j hj => ?_) (hIs l' (by omega))
      unfold ql8 pu_s
      rw [pu_u_ne (by omega)]
      exact if_neg (by omega)
theorem ri_tl (h : RI8 Q) (hl : l < kn8 Q) : RI8 (tl9 (kc8 Q l) l Q) := by
  obtain ⟨h0, hn, ⟨gg, hg, h9⟩, hIs⟩ := h
  have e0 : tl9 (kc8 Q l) l Q 0 = nI (kn8 Q) := (tl_h (by omega)).trans h0
  have hI2 := pI_tick (g0 := Q 7) (g1 := Q 8) hg (hIs l hl)
  rw [← h9] at hI2
  refine ri_mk (cs := fun l' => if l' = l then cc9 (kc8 Q l) (pu_s Q l) else kc8 Q l') e0 hn ⟨gg, hg, (tl_h (by omega)).trans h9⟩ (fun l' h' => ?_)
  by_cases e : l' = l
  · rw [if_pos e, e]
    exact pI_cong (fun j hj => tl_l hj) hI2
  · rw [if_neg e]
    exact pI_cong (fun j hj => tl_o e hj) (hIs l' h')
theorem ri_tF {cs : Nat → Nat} : ∀ rem l Q, l + rem = kn8 Q → RI8 Q → (∀ l', l ≤ l' → l' < kn8 Q → kc8 Q l' = cs l') → RI8 (tF9 cs rem l Q) := by
  intro rem
  induction rem with
  | zero => intro l Q _ h _; exact h
  | succ rem ih =>
    intro l Q hl h hc
    have h1 := ri_tl h (show l < kn8 Q by omega)
    rw [hc l (Nat.le_refl _) (by omega)] at h1
    exact ih (l + 1) _ (by rw [tl_kn]; omega) h1 (fun l' h1 h2 => by rw [tl_kn] at h2; rw [tl_kc (by omega)]; exact hc l' (by omega) h2)
theorem tF_kn {cs : Nat → Nat} {rem : Nat} : kn8 (tF9 cs rem l Q) = kn8 Q := by
  unfold kn8
  rw [tF_h (by omega)]
theorem tq_kn : kn8 (tq8 Q) = kn8 Q := by
  unfold kn8 tq8
  rw [pu_u_ne (by decide), tF_h (by omega)]
theorem tq_h {j : Nat} (h : j = 0 ∨ (6 < j ∧ j < 10)) : tq8 Q j = Q j := by
  unfold tq8
  rw [pu_u_ne (by omega), tF_h (by omega)]
theorem ri_tq (h : RI8 Q) : RI8 (tq8 Q) := (ri_row (ri_tF (kn8 Q) 0 Q (by omega) h (fun _ _ _ => rfl)) (fun i _ h1 => pu_u_ne h1)).1
theorem ri_rn {k : Nat} (h : RI8 Q) : RI8 (rn8 k Q) := by
  induction k generalizing Q with
  | zero => exact h
  | succ k ih => exact ih (ri_tq h)
theorem rn_kn {k : Nat} : kn8 (rn8 k Q) = kn8 Q := by
  induction k generalizing Q with
  | zero => rfl
  | succ k ih =>
    show kn8 (rn8 k (tq8 Q)) = kn8 Q
    rw [ih, tq_kn]
/-! the lanes tick apart -/
theorem tF_o {cs : Nat → Nat} {rem l' j : Nat} (h : l' < l) (hj : j < 37) : pu_s (tF9 cs rem l Q) l' j = pu_s Q l' j := by
  induction rem generalizing l Q with
  | zero => rfl
  | succ rem ih =>
    show pu_s (tF9 cs rem (l + 1) (tl9 (cs l) l Q)) l' j = pu_s Q l' j
    rw [ih (by omega), tl_o (by omega) hj]
theorem tF_lane {cs : Nat → Nat} : ∀ rem l Q l', l ≤ l' → l' < l + rem → pu_I (pu_s Q l') (cs l') → pu_A (pu_s (tF9 cs rem l Q) l') (tk9 (cs l') (Q 7) (Q 8) (Q 9) (pu_s Q l')) (cc9 (cs l') (pu_s Q l')) := by
  intro rem
  induction rem with
  | zero => intro l Q l' h1 h2; omega
  | succ rem ih =>
    intro l Q l' h1 h2 hI
    have h6 := hI.2.1
    by_cases e : l' = l
    · subst e
      intro j hj
      have hd : cc9 (cs l') (pu_s Q l') ≤ cs l' := cc_le
      show pu_s (tF9 cs rem (l' + 1) (tl9 (cs l') l' Q)) l' j = _
      rw [tF_o (by omega) (by omega), tl_l (by omega)]
    · have hA : pu_A (pu_s (tl9 (cs l) l Q) l') (pu_s Q l') (cs l') := pA_37 h6 (fun j hj => tl_o e hj)
      have h3 := ih (l + 1) (tl9 (cs l) l Q) l' (by omega) (by omega) (pI_A hA hI)
      rw [tl_h (by omega), tl_h (by omega), tl_h (by omega), (A_mo hA).1] at h3
      have h4 := A_tk (g0 := Q 7) (g1 := Q 8) (g2 := Q 9) hA
      rw [(A_mo hA).1] at h4
      exact pA_trans h3 h4
/-- a lane of a row that ticks -/
theorem tq_lane (h : RI8 Q) (hl : l < kn8 Q) : pu_A (pu_s (tq8 Q) l) (tk9 (kc8 Q l) (Q 7) (Q 8) (Q 9) (pu_s Q l)) (cc9 (kc8 Q l) (pu_s Q l)) ∧ kc8 (tq8 Q) l = cc9 (kc8 Q l) (pu_s Q l) := by
  have hI := h.2.2.2 l hl
  have hA := tF_lane (cs := kc8 Q) (kn8 Q) 0 Q l (by omega) (by omega) hI
  obtain ⟨gg, hg, h9⟩ := h.2.2.1
  have hI2 := pI_tick (g0 := Q 7) (g1 := Q 8) hg hI
  rw [← h9] at hI2
  have hA2 : pu_A (pu_s (tq8 Q) l) (tk9 (kc8 Q l) (Q 7) (Q 8) (Q 9) (pu_s Q l)) (cc9 (kc8 Q l) (pu_s Q l)) := fun j hj => by
    rw [← hA j hj]
    exact pu_u_ne (by omega)
  exact ⟨hA2, kc_of (pI_A hA2 hI2)⟩
/-! the arms that are up -/
theorem tk_1 {g0 g1 g2 : Int32} : tk9 c g0 g1 g2 r 1 = t3 (cc9 c r) (ct9 (cc9 c r) g0 g1 g2 (mo9 c r)) 1 := by
  unfold tk9
  rw [th_o (by decide), hi_o (by decide)]
theorem up_eq : up9 c p Q = if tk9 c (Q 7) (Q 8) (Q 9) p 1 = 4 then 1 else 0 := by
  unfold up9
  rw [tk_1]
def au8 (Q : Nat → Int32) : Int32 := SM8 (fun l => if pu_s Q l 1 = 4 then 1 else 0) (kn8 Q)
theorem sm_shift {f : Nat → Int32} {v : Int32} : v + SM8 f (n + 1) = v + f 0 + SM8 (fun l => f (l + 1)) n := by
  induction n generalizing v with
  | zero =>
    show v + (0 + f 0) = v + f 0 + 0
    rw [Int32.zero_add, Int32.add_zero]
  | succ n ih =>
    rw [sm_s, ← Int32.add_assoc, ih, sm_s, Int32.add_assoc]
theorem uF_eq {cs : Nat → Nat} : ∀ rem l Q v, (∀ l', l ≤ l' → l' < l + rem → pu_I (pu_s Q l') (cs l')) → uF9 cs rem l Q v = v + SM8 (fun i => if pu_s (tF9 cs rem l Q) (l + i) 1 = 4 then 1 else 0) rem := by
  intro rem
  induction rem with
  | zero => intro l Q v _; exact (Int32.add_zero v).symm
  | succ rem ih =>
    intro l Q v hI
    show uF9 cs rem (l + 1) (tl9 (cs l) l Q) (v + up9 (cs l) (pu_s Q l) Q) = _
    rw [ih (l + 1) (tl9 (cs l) l Q) _ (fun l' h1 h2 => pI_cong (fun j hj => tl_o (by omega) hj) (hI l' (by omega) (by omega))), sm_shift]
    have e : (if pu_s (tF9 cs (rem + 1) l Q) (l + 0) 1 = 4 then (1 : Int32) else 0) = up9 (cs l) (pu_s Q l) Q := by
      have e1 : pu_s (tF9 cs (rem + 1) l Q) (l + 0) 1 = tk9 (cs l) (Q 7) (Q 8) (Q 9) (pu_s Q l) 1 := by
        show pu_s (tF9 cs rem (l + 1) (tl9 (cs l) l Q)) l 1 = _
        rw [tF_o (by omega) (by omega), tl_l (by omega)]
      rw [e1, up_eq]
    rw [e]
    refine congrArg (fun w => v + up9 (cs l) (pu_s Q l) Q + w) (sm_cong (fun i _ => ?_))
    rw [show l + (i + 1) = l + 1 + i by omega]
    rfl
theorem uq_eq {v : Int32} (h : RI8 Q) : uF9 (kc8 Q) (kn8 Q) 0 Q v = v + au8 (tq8 Q) := by
  rw [uF_eq (kn8 Q) 0 Q v (fun l' _ h2 => h.2.2.2 l' (by omega))]
  unfold au8
  rw [tq_kn]
  refine congrArg (fun w => v + w) (sm_cong (fun i hi => ?_))
  have e : pu_s (tq8 Q) i 1 = pu_s (tF9 (kc8 Q) (kn8 Q) 0 Q) (0 + i) 1 := by
    unfold tq8 pu_s
    rw [pu_u_ne (by omega), Nat.zero_add]
  rw [e]
end RG
