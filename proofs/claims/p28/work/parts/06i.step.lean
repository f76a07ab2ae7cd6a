section QD
variable {c : Nat} {p : Nat → Int32}
theorem i32_ex {x : Int32} {n : Nat} (hn : n < 2 ^ 31) (h0 : 0 ≤ x.toInt) (h1 : x.toInt ≤ (n : Int)) : ∃ w, w ≤ n ∧ x = nI w := by
  refine ⟨x.toInt.toNat, by omega, ?_⟩
  apply Int32.toInt_inj.mp
  rw [nI_toInt (by omega)]
  omega
/-- what holds of a lane between ticks -/
def pu_I (p : Nat → Int32) (c : Nat) : Prop := p 0 = nI c ∧ c ≤ 6 ∧ (∃ h, h ≤ 4 ∧ p 1 = nI h) ∧ (∃ q, q ≤ 40 ∧ p 2 = nI q) ∧ (∃ w, w ≤ 96 ∧ p 3 = nI w) ∧ b9 (p 4) ∧ b9 (p 5) ∧ pu_B p c ∧ pu_V p c 50 ∧ pu_Z p c
theorem pV_cong {q : Nat → Int32} {T : Int} (h : ∀ k, k < c → fr9 q k = fr9 p k ∧ ln9 q k = ln9 p k) (hV : pu_V p c T) : pu_V q c T := by
  intro k hk
  obtain ⟨e1, e2⟩ := h k hk
  rw [e1, e2]
  obtain ⟨a1, a2, a3, a4, a5⟩ := hV k hk
  refine ⟨a1, a2, a3, a4, fun h0 => ?_⟩
  obtain ⟨e3, e4⟩ := h (k - 1) (by omega)
  have e : la9' q (k - 1) = la9' p (k - 1) := by unfold la9'; rw [e3, e4]
  rw [e]
  exact a5 h0
theorem pZ_cong {q : Nat → Int32} (h : ∀ k, k < c → fr9 q k = fr9 p k ∧ ln9 q k = ln9 p k) (hZ : pu_Z p c) : pu_Z q c := by
  intro h0
  obtain ⟨e3, e4⟩ := h 0 h0
  have e : la9' q 0 = la9' p 0 := by unfold la9'; rw [e3, e4]
  rw [e]
  exact hZ h0
theorem mo_sm {j : Nat} (h1 : 1 ≤ j) (h : j < 7) : mo9 c p j = p j := by
  unfold mo9
  by_cases q : ps9 c (mv9 p c)
  · rw [if_pos q]
    unfold dr9
    rw [pu_u_ne (by omega)]
    exact (if_neg (by omega)).trans (mv_sm h)
  · rw [if_neg q]
    exact mv_sm h
theorem mo_B (hB : pu_B p c) : pu_B (mo9 c p) (cc9 c p) := by
  unfold mo9 cc9
  have hm : pu_B (mv9 p c) c := fun k hk => by rw [mv_lo, mv_fo, mv_le]; exact hB k hk
  by_cases q : ps9 c (mv9 p c)
  · rw [if_pos q, if_pos q]
    intro k hk
    have hc0 := q.1
    have h := hm (k + 1) (by omega)
    have e2 : lo9 (dr9 c (mv9 p c)) k = lo9 (mv9 p c) (k + 1) := dr_at (by omega) (by omega)
    have e3 : fo9 (dr9 c (mv9 p c)) k = fo9 (mv9 p c) (k + 1) := dr_at (by omega) (by omega)
    have e4 : le9' (dr9 c (mv9 p c)) k = le9' (mv9 p c) (k + 1) := dr_at (by omega) (by omega)
    rw [e2, e3, e4]
    exact h
  · rw [if_neg q, if_neg q]
    exact hm
theorem div_8 : ∀ w, w < 97 → nI w / 8 = nI (w / 8) := by decide +kernel
theorem hgt_u : ∀ h, h < 5 → (if nI h + 1 < (4 : Int32) then nI h + 1 else 4) = nI (if h < 4 then h + 1 else 4) := by decide +kernel
theorem hgt_d : ∀ h, h < 5 → (if (0 : Int32) < nI h - 1 then nI h - 1 else 0) = nI (h - 1) := by decide +kernel
theorem hold_d : ∀ q, q < 41 → (if (0 : Int32) < nI q - 1 then nI q - 1 else 0) = nI (q - 1) := by decide +kernel
theorem learn_in : ∀ w, w < 97 → ∀ n, n < 13 → 2 ≤ n → 0 ≤ (nI w + (8 * nI n - nI w) / 4).toInt ∧ (nI w + (8 * nI n - nI w) / 4).toInt ≤ 96 := by decide +kernel
/-- step 2 keeps -/
theorem ct_far {g0 g1 g2 : Int32} {j : Nat} (h2 : j ≠ 2) (h6 : j ≠ 6) (hj : ∀ k, j ≠ 7 + 5 * k + 4) : ct9 c g0 g1 g2 p j = p j := by
  unfold ct9
  cases fs9 (ck9 p) c 0 with
  | none => exact pu_u_ne h6
  | some k =>
    show (if p 6 + 1 < (if lo9 p k = 0 then g0 else g1) then pu_u p 6 (p 6 + 1) else pu_u (pu_u (pu_u (pu_u p 6 (p 6 + 1)) (7 + 5 * k + 4) 1) 2 (p 3 / 8 + g2)) 6 0) j = p j
    generalize (if lo9 p k = 0 then g0 else g1) = th
    by_cases q : p 6 + 1 < th
    · rw [if_pos q]
      exact pu_u_ne h6
    · rw [if_neg q, pu_u_ne h6, pu_u_ne h2, pu_u_ne (hj k), pu_u_ne h6]
theorem ct_le {g0 g1 g2 : Int32} {k : Nat} (hb : b9 (le9' p k)) : b9 (le9' (ct9 c g0 g1 g2 p) k) := by
  unfold ct9
  cases fs9 (ck9 p) c 0 with
  | none =>
    show b9 (pu_u p 6 0 (7 + 5 * k + 4))
    rw [pu_u_ne (by omega)]
    exact hb
  | some k' =>
    show b9 ((if p 6 + 1 < (if lo9 p k' = 0 then g0 else g1) then pu_u p 6 (p 6 + 1) else pu_u (pu_u (pu_u (pu_u p 6 (p 6 + 1)) (7 + 5 * k' + 4) 1) 2 (p 3 / 8 + g2)) 6 0) (7 + 5 * k + 4))
    generalize (if lo9 p k' = 0 then g0 else g1) = th
    by_cases q : p 6 + 1 < th
    · rw [if_pos q, pu_u_ne (by omega)]
      exact hb
    · rw [if_neg q, pu_u_ne (by omega), pu_u_ne (by omega)]
      by_cases e : k = k'
      · subst e
        rw [pu_u_eq]
        exact Or.inr rfl
      · rw [pu_u_ne (by omega), pu_u_ne (by omega)]
        exact hb
theorem ct_2 {g0 g1 : Int32} {g w q : Nat} (hg : g ≤ 20) (hw : w ≤ 96) (h3 : p 3 = nI w) (hq : q ≤ 40) (h2 : p 2 = nI q) : ∃ q', q' ≤ 40 ∧ ct9 c g0 g1 (nI g) p 2 = nI q' := by
  unfold ct9
  cases fs9 (ck9 p) c 0 with
  | none => exact ⟨q, hq, (pu_u_ne (show 2 ≠ 6 by decide)).trans h2⟩
  | some k =>
    show ∃ q', q' ≤ 40 ∧ (if p 6 + 1 < (if lo9 p k = 0 then g0 else g1) then pu_u p 6 (p 6 + 1) else pu_u (pu_u (pu_u (pu_u p 6 (p 6 + 1)) (7 + 5 * k + 4) 1) 2 (p 3 / 8 + nI g)) 6 0) 2 = nI q'
    generalize (if lo9 p k = 0 then g0 else g1) = th
    by_cases e : p 6 + 1 < th
    · rw [if_pos e]
      exact ⟨q, hq, (pu_u_ne (show 2 ≠ 6 by decide)).trans h2⟩
    · rw [if_neg e, pu_u_ne (show 2 ≠ 6 by decide), pu_u_eq, h3, div_8 w (by omega), nI_add]
      exact ⟨w / 8 + g, by omega, rfl⟩
theorem t3_12 {h q : Nat} (hh : h ≤ 4) (h1 : p 1 = nI h) (hq : q ≤ 40) (h2 : p 2 = nI q) : (∃ h', h' ≤ 4 ∧ t3 c p 1 = nI h') ∧ (∃ q', q' ≤ 40 ∧ t3 c p 2 = nI q') := by
  unfold t3
  by_cases q5 : p 5 = 0
  · rw [if_pos q5]
    have ha : ∃ h', h' ≤ 4 ∧ ah9 (¬ rs9 c p = 0) p = nI h' := by
      unfold ah9
      rw [h1]
      by_cases u : ¬ rs9 c p = 0
      · rw [if_pos u, hgt_u h (by omega)]
        exact ⟨_, by split <;> omega, rfl⟩
      · rw [if_neg u, hgt_d h (by omega)]
        exact ⟨h - 1, by omega, rfl⟩
    obtain ⟨h', l1, l2⟩ := ha
    unfold ar9
    by_cases e : ah9 (¬ rs9 c p = 0) p = 4
    · rw [if_pos e, pu_u_ne (show 1 ≠ 2 by decide), pu_u_eq, pu_u_eq, h2, hold_d q (by omega)]
      exact ⟨⟨h', l1, l2⟩, q - 1, by omega, rfl⟩
    · rw [if_neg e, pu_u_eq, pu_u_ne (show 2 ≠ 1 by decide)]
      exact ⟨⟨h', l1, l2⟩, q, hq, h2⟩
  · rw [if_neg q5]
    exact ⟨⟨h, hh, h1⟩, q, hq, h2⟩
theorem hi_5 (h : b9 (p 5)) : b9 (hi9 c p 5) := by
  unfold hi9
  split
  · rw [pu_u_eq]; exact Or.inr rfl
  · exact h
theorem th_3 {w n : Nat} (hl : ∀ k, k < n → 2 ≤ (ln9 p k).toInt ∧ (ln9 p k).toInt ≤ 12) (hw : w ≤ 96) (h3 : p 3 = nI w) : ∃ w', w' ≤ 96 ∧ th9 p n 3 = nI w' := by
  induction n with
  | zero => exact ⟨w, hw, h3⟩
  | succ n ih =>
    obtain ⟨v, v1, v2⟩ := ih (fun k hk => hl k (by omega))
    rw [th_s]
    split
    · rw [pu_u_eq, v2]
      have e : ln9 (th9 p n) n = ln9 p n := th_o (by omega)
      rw [e]
      obtain ⟨a1, a2⟩ := hl n (by omega)
      obtain ⟨m, m1, m2⟩ := i32_ex (x := ln9 p n) (n := 12) (by omega) (by omega) (by omega)
      rw [m2] at a1 ⊢
      rw [nI_toInt (by omega)] at a1
      obtain ⟨b1, b2⟩ := learn_in v (by omega) m (by omega) (by omega)
      exact i32_ex (by omega) b1 b2
    · exact ⟨v, v1, v2⟩
/-- what holds before steps 3, 4, 5 -/
theorem pI_ct {g0 g1 : Int32} {g : Nat} (hg : g ≤ 20) (hI : pu_I p c) : pu_I (ct9 (cc9 c p) g0 g1 (nI g) (mo9 c p)) (cc9 c p) := by
  obtain ⟨i0, i6, ⟨h, h1, h2⟩, ⟨q, q1, q2⟩, ⟨w, w1, w2⟩, i4, i5, iB, iV, iZ⟩ := hI
  obtain ⟨mV, mZ⟩ := pV_mo i6 iV iZ
  have mB := mo_B iB
  have m0 : mo9 c p 0 = nI (cc9 c p) := mo_0 i0
  have hd : cc9 c p ≤ 6 := Nat.le_trans cc_le i6
  have s1 := mo_sm (c := c) (p := p) (j := 1) (by omega) (by omega)
  have s2 := mo_sm (c := c) (p := p) (j := 2) (by omega) (by omega)
  have s3 := mo_sm (c := c) (p := p) (j := 3) (by omega) (by omega)
  have s4 := mo_sm (c := c) (p := p) (j := 4) (by omega) (by omega)
  have s5 := mo_sm (c := c) (p := p) (j := 5) (by omega) (by omega)
  generalize cc9 c p = d at mV mZ mB m0 hd ⊢
  generalize mo9 c p = m at mV mZ mB m0 s1 s2 s3 s4 s5 ⊢
  have hf : ∀ k, k < d → fr9 (ct9 d g0 g1 (nI g) m) k = fr9 m k ∧ ln9 (ct9 d g0 g1 (nI g) m) k = ln9 m k := fun k hk => ⟨ct_far (by omega) (by omega) (fun _ => by omega), ct_far (by omega) (by omega) (fun _ => by omega)⟩
  refine ⟨ct_0.trans m0, hd, ⟨h, h1, ?_⟩, ct_2 hg w1 (s3.trans w2) q1 (s2.trans q2), ⟨w, w1, ?_⟩, ?_, ?_, fun k hk => ⟨?_, ?_, ct_le (mB k hk).2.2⟩, pV_cong hf mV, pZ_cong hf mZ⟩
  · rw [ct_far (by omega) (by omega) (fun _ => by omega), s1, h2]
  · rw [ct_far (by omega) (by omega) (fun _ => by omega), s3, w2]
  · rw [ct_far (by omega) (by omega) (fun _ => by omega), s4]; exact i4
  · rw [ct_far (by omega) (by omega) (fun _ => by omega), s5]; exact i5
  · have e : lo9 (ct9 d g0 g1 (nI g) m) k = lo9 m k := ct_far (by omega) (by omega) (fun _ => by omega)
    rw [e]; exact (mB k hk).1
  · have e : fo9 (ct9 d g0 g1 (nI g) m) k = fo9 m k := ct_far (by omega) (by omega) (fun _ => by omega)
    rw [e]; exact (mB k hk).2.1
/-- steps 3 to 5 keep -/
theorem pI_end (hI : pu_I p c) : pu_I (th9 (hi9 c (t3 c p)) c) c := by
  obtain ⟨i0, i6, ⟨h, h1, h2⟩, ⟨q, q1, q2⟩, ⟨w, w1, w2⟩, i4, i5, iB, iV, iZ⟩ := hI
  obtain ⟨⟨h', x1, x2⟩, q', y1, y2⟩ := t3_12 (c := c) h1 h2 q1 q2
  have far : ∀ j, 6 ≤ j → th9 (hi9 c (t3 c p)) c j = p j := fun j hj => by rw [th_o (by omega), hi_o (by omega), t3_o (by omega) (by omega)]
  have hf : ∀ k, k < c → fr9 (th9 (hi9 c (t3 c p)) c) k = fr9 p k ∧ ln9 (th9 (hi9 c (t3 c p)) c) k = ln9 p k := fun k hk => ⟨far _ (by omega), far _ (by omega)⟩
  have hl3 : hi9 c (t3 c p) 3 = nI w := by rw [hi_o (by decide), t3_o (by decide) (by decide), w2]
  refine ⟨?_, i6, ⟨h', x1, ?_⟩, ⟨q', y1, ?_⟩, th_3 (fun k hk => ?_) w1 hl3, ?_, ?_, fun k hk => ?_, pV_cong hf iV, pZ_cong hf iZ⟩
  · rw [th_o (by decide), hi_o (by decide), t3_o (by decide) (by decide), i0]
  · rw [th_o (by decide), hi_o (by decide), x2]
  · rw [th_o (by decide), hi_o (by decide), y2]
  · have e : ln9 (hi9 c (t3 c p)) k = ln9 p k := by
      unfold ln9
      rw [hi_o (by omega), t3_o (by omega) (by omega)]
    rw [e]
    exact ⟨(iV k hk).1, (iV k hk).2.1⟩
  · rw [th_o (by decide), hi_o (by decide), t3_o (by decide) (by decide)]; exact i4
  · rw [th_o (by decide)]
    exact hi_5 (by rw [t3_o (by decide) (by decide)]; exact i5)
  · have e1 : lo9 (th9 (hi9 c (t3 c p)) c) k = lo9 p k := far _ (by omega)
    have e2 : fo9 (th9 (hi9 c (t3 c p)) c) k = fo9 p k := far _ (by omega)
    have e3 : le9' (th9 (hi9 c (t3 c p)) c) k = le9' p k := far _ (by omega)
    rw [e1, e2, e3]
    exact iB k hk
theorem pI_tick {g0 g1 : Int32} {g : Nat} (hg : g ≤ 20) (hI : pu_I p c) : pu_I (tk9 c g0 g1 (nI g) p) (cc9 c p) := pI_end (pI_ct hg hI)
end QD
