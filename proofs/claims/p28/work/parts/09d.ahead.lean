section TE
variable {c d k n l i T T' : Nat} {p q r Q Q' : Nat → Int32} {s : St8} {v g0 g1 g2 : Int32}
theorem rn_s : rn8 (n + 1) Q = rn8 n (tq8 Q) := rfl
theorem rn_last : rn8 (n + 1) Q = tq8 (rn8 n Q) := by
  induction n generalizing Q with
  | zero => rfl
  | succ n ih =>
    rw [rn_s, ih]
    rfl
theorem nI_m1 {k : Nat} (hk : k < 2 ^ 31) : ¬ nI k = -1 := fun e => by
  have h := congrArg Int32.toInt e
  rw [nI_toInt hk, show (-1 : Int32).toInt = -1 by decide] at h
  omega
/-! a lane is empty -/
theorem le_s {rem t : Nat} : le8 g0 g1 g2 (rem + 1) t c p = if c = 0 then nI t else le8 g0 g1 g2 rem (t + 1) (cc9 c p) (tk9 c g0 g1 g2 p) := rfl
theorem le_ge : ∀ rem t c (p : Nat → Int32), le8 g0 g1 g2 rem t c p = -1 ∨ ∃ k, t ≤ k ∧ k < t + rem ∧ le8 g0 g1 g2 rem t c p = nI k := by
  intro rem
  induction rem with
  | zero => intro t c p; exact Or.inl rfl
  | succ rem ih =>
    intro t c p
    unfold le8
    by_cases q : c = 0
    · rw [if_pos q]
      exact Or.inr ⟨t, by omega, by omega, rfl⟩
    · rw [if_neg q]
      rcases ih (t + 1) (cc9 c p) (tk9 c g0 g1 g2 p) with h | ⟨k, h1, h2, h3⟩
      · exact Or.inl h
      · exact Or.inr ⟨k, by omega, by omega, h3⟩
theorem em_iff : ∀ n rem t Q, RI8 Q → l < kn8 Q → n < rem → t + rem ≤ 401 → (kc8 (rn8 n Q) l = 0 ↔ ∃ k, k ≤ n ∧ le8 (Q 7) (Q 8) (Q 9) rem t (kc8 Q l) (pu_s Q l) = nI (t + k)) := by
  intro n
  induction n with
  | zero =>
    intro rem t Q hR hl hn ht
    obtain ⟨rem, rfl⟩ : ∃ r, rem = r + 1 := ⟨rem - 1, by omega⟩
    show kc8 Q l = 0 ↔ _
    by_cases q : kc8 Q l = 0
    · exact ⟨fun _ => ⟨0, by omega, by unfold le8; rw [if_pos q]; rfl⟩, fun _ => q⟩
    · refine ⟨fun h => absurd h q, ?_⟩
      rintro ⟨k, h1, h2⟩
      unfold le8 at h2
      rw [if_neg q] at h2
      rcases le_ge (g0 := Q 7) (g1 := Q 8) (g2 := Q 9) rem (t + 1) (cc9 (kc8 Q l) (pu_s Q l)) (tk9 (kc8 Q l) (Q 7) (Q 8) (Q 9) (pu_s Q l)) with h | ⟨k', h3, h4, h5⟩
      · rw [h2] at h
        exact absurd h (nI_m1 (by omega))
      · rw [h2] at h5
        have := (nI_eq (by omega) (by omega)).mp h5
        omega
  | succ n ih =>
    intro rem t Q hR hl hn ht
    obtain ⟨rem, rfl⟩ : ∃ r, rem = r + 1 := ⟨rem - 1, by omega⟩
    obtain ⟨hA, hk⟩ := tq_lane hR hl
    have hIH := ih rem (t + 1) (tq8 Q) (ri_tq hR) (by rw [tq_kn]; exact hl) (by omega) (by omega)
    rw [tq_h (by omega), tq_h (by omega), tq_h (by omega), hk, le_cong _ _ _ _ _ hA] at hIH
    rw [rn_s, hIH, le_s (rem := rem) (t := t)]
    by_cases q : kc8 Q l = 0
    · rw [if_pos q]
      have hc0 : cc9 (kc8 Q l) (pu_s Q l) = 0 := by
        have : cc9 (kc8 Q l) (pu_s Q l) ≤ kc8 Q l := cc_le
        omega
      refine ⟨fun _ => ⟨0, by omega, rfl⟩, fun _ => ⟨0, by omega, ?_⟩⟩
      obtain ⟨rem, rfl⟩ : ∃ r, rem = r + 1 := ⟨rem - 1, by omega⟩
      rw [le_s, if_pos hc0]
    · rw [if_neg q]
      constructor
      · rintro ⟨k, h1, h2⟩
        exact ⟨k + 1, by omega, by rw [h2]; congr 1; omega⟩
      · rintro ⟨k, h1, h2⟩
        rcases le_ge (g0 := Q 7) (g1 := Q 8) (g2 := Q 9) rem (t + 1) (cc9 (kc8 Q l) (pu_s Q l)) (tk9 (kc8 Q l) (Q 7) (Q 8) (Q 9) (pu_s Q l)) with h | ⟨k', h3, h4, h5⟩
        · rw [h2] at h
          exact absurd h (nI_m1 (by omega))
        · rw [h2] at h5
          have h6 := (nI_eq (by omega) (by omega)).mp h5
          exact ⟨k - 1, by omega, by rw [h2]; congr 1; omega⟩
/-! an arm hits -/
theorem lh_ge : ∀ rem t c (p : Nat → Int32), lh8 g0 g1 g2 rem t c p = -1 ∨ ∃ k, t ≤ k ∧ k < t + rem ∧ lh8 g0 g1 g2 rem t c p = nI k := by
  intro rem
  induction rem with
  | zero => intro t c p; exact Or.inl rfl
  | succ rem ih =>
    intro t c p
    unfold lh8
    by_cases q : hp9 (cc9 c p) (t3 (cc9 c p) (ct9 (cc9 c p) g0 g1 g2 (mo9 c p)))
    · rw [if_pos q]
      exact Or.inr ⟨t, by omega, by omega, rfl⟩
    · rw [if_neg q]
      rcases ih (t + 1) (cc9 c p) (tk9 c g0 g1 g2 p) with h | ⟨k, h1, h2, h3⟩
      · exact Or.inl h
      · exact Or.inr ⟨k, by omega, by omega, h3⟩
theorem hit_at : ∀ n rem t Q, RI8 Q → l < kn8 Q → n < rem → t + rem ≤ 401 → pu_s Q l 5 = 0 → lh8 (Q 7) (Q 8) (Q 9) rem t (kc8 Q l) (pu_s Q l) = nI (t + n) → (∀ m, m ≤ n → pu_s (rn8 m Q) l 5 = 0) ∧ pu_s (rn8 (n + 1) Q) l 5 = 1 := by
  intro n
  induction n with
  | zero =>
    intro rem t Q hR hl hn ht h5 hh
    obtain ⟨rem, rfl⟩ : ∃ r, rem = r + 1 := ⟨rem - 1, by omega⟩
    obtain ⟨hA, hk⟩ := tq_lane hR hl
    refine ⟨fun m hm => by rw [show m = 0 by omega]; exact h5, ?_⟩
    show pu_s (tq8 Q) l 5 = 1
    rw [hA 5 (by omega), tk_5h]
    unfold lh8 at hh
    by_cases q : hp9 (cc9 (kc8 Q l) (pu_s Q l)) (t3 (cc9 (kc8 Q l) (pu_s Q l)) (ct9 (cc9 (kc8 Q l) (pu_s Q l)) (Q 7) (Q 8) (Q 9) (mo9 (kc8 Q l) (pu_s Q l))))
    · rw [if_pos q]
    · rw [if_neg q] at hh
      rcases lh_ge (g0 := Q 7) (g1 := Q 8) (g2 := Q 9) rem (t + 1) (cc9 (kc8 Q l) (pu_s Q l)) (tk9 (kc8 Q l) (Q 7) (Q 8) (Q 9) (pu_s Q l)) with h | ⟨k', h3, h4, h6⟩
      · rw [hh] at h
        exact absurd h (nI_m1 (by omega))
      · rw [hh] at h6
        have := (nI_eq (by omega) (by omega)).mp h6
        omega
  | succ n ih =>
    intro rem t Q hR hl hn ht h5 hh
    obtain ⟨rem, rfl⟩ : ∃ r, rem = r + 1 := ⟨rem - 1, by omega⟩
    obtain ⟨hA, hk⟩ := tq_lane hR hl
    unfold lh8 at hh
    by_cases q : hp9 (cc9 (kc8 Q l) (pu_s Q l)) (t3 (cc9 (kc8 Q l) (pu_s Q l)) (ct9 (cc9 (kc8 Q l) (pu_s Q l)) (Q 7) (Q 8) (Q 9) (mo9 (kc8 Q l) (pu_s Q l))))
    · rw [if_pos q] at hh
      have := (nI_eq (by omega) (by omega)).mp hh
      omega
    · rw [if_neg q] at hh
      have e5 : pu_s (tq8 Q) l 5 = 0 := by
        rw [hA 5 (by omega), tk_5h, if_neg q]
        exact h5
      have hIH := ih rem (t + 1) (tq8 Q) (ri_tq hR) (by rw [tq_kn]; exact hl) (by omega) (by omega) e5 (by
        rw [tq_h (by omega), tq_h (by omega), tq_h (by omega), hk, lh_cong _ _ _ _ _ hA, hh]
        congr 1
        omega)
      refine ⟨fun m hm => ?_, hIH.2⟩
      rcases Nat.eq_zero_or_pos m with e | e
      · rw [e]; exact h5
      · obtain ⟨m', rfl⟩ : ∃ m', m = m' + 1 := ⟨m - 1, by omega⟩
        exact hIH.1 m' (by omega)
/-! a vehicle goes through -/
theorem lt_ge : ∀ rem t j c (p : Nat → Int32), lt8 g0 g1 g2 rem t j c p = -1 ∨ ∃ k, t ≤ k ∧ k < t + rem ∧ lt8 g0 g1 g2 rem t j c p = nI k := by
  intro rem
  induction rem with
  | zero => intro t j c p; exact Or.inl rfl
  | succ rem ih =>
    intro t j c p
    unfold lt8
    by_cases q : la9' p j ≤ 20
    · rw [if_pos q]
      rcases ih (t + 1) (if ps9 c (mv9 p c) then j - 1 else j) (cc9 c p) (tk9 c g0 g1 g2 p) with h | ⟨k, h1, h2, h3⟩
      · exact Or.inl h
      · exact Or.inr ⟨k, by omega, by omega, h3⟩
    · rw [if_neg q]
      exact Or.inr ⟨t, by omega, by omega, rfl⟩
/-- how many go through in the next tick of lane l -/
def ct8 (Q : Nat → Int32) (l : Nat) : Nat := cn8 (tn8 (mo9 (kc8 Q l) (pu_s Q l))) (cc9 (kc8 Q l) (pu_s Q l))
theorem thr_at : ∀ n rem t j Q, RI8 Q → l < kn8 Q → j < kc8 Q l → n < rem → t + rem ≤ 401 → la9' (pu_s Q l) j ≤ 20 → lt8 (Q 7) (Q 8) (Q 9) rem t j (kc8 Q l) (pu_s Q l) = nI (t + n) → 1 ≤ n ∧ 1 ≤ ct8 (rn8 (n - 1) Q) l ∧ ∃ j', j' < kc8 (rn8 n Q) l ∧ j + kc8 (rn8 n Q) l = j' + kc8 Q l ∧ (la9' (pu_s (rn8 n Q) l) j').toInt = 21 := by
  intro n
  induction n with
  | zero =>
    intro rem t j Q hR hl hj hn ht hla hh
    exfalso
    obtain ⟨rem, rfl⟩ : ∃ r, rem = r + 1 := ⟨rem - 1, by omega⟩
    unfold lt8 at hh
    rw [if_pos hla] at hh
    rcases lt_ge (g0 := Q 7) (g1 := Q 8) (g2 := Q 9) rem (t + 1) (if ps9 (kc8 Q l) (mv9 (pu_s Q l) (kc8 Q l)) then j - 1 else j) (cc9 (kc8 Q l) (pu_s Q l)) (tk9 (kc8 Q l) (Q 7) (Q 8) (Q 9) (pu_s Q l)) with h | ⟨k', h3, h4, h6⟩
    · rw [hh] at h
      exact absurd h (nI_m1 (by omega))
    · rw [hh] at h6
      have := (nI_eq (by omega) (by omega)).mp h6
      omega
  | succ n ih =>
    intro rem t j Q hR hl hj hn ht hla hh
    obtain ⟨rem, rfl⟩ : ∃ r, rem = r + 1 := ⟨rem - 1, by omega⟩
    obtain ⟨hA, hk⟩ := tq_lane hR hl
    have hI := hR.2.2.2 l hl
    have hR1 := ri_tq hR
    have hl1 : l < kn8 (tq8 Q) := by rw [tq_kn]; exact hl
    obtain ⟨v1, v2⟩ := th_inv hI hj hla
    unfold lt8 at hh
    rw [if_pos hla] at hh
    generalize hj1 : (if ps9 (kc8 Q l) (mv9 (pu_s Q l) (kc8 Q l)) then j - 1 else j) = j1 at hh v1
    have hj1k : j1 < kc8 (tq8 Q) l := by rw [hk]; exact v1
    have hjk : j + kc8 (tq8 Q) l = j1 + kc8 Q l := by
      rw [hk, ← hj1]
      unfold cc9
      by_cases q : ps9 (kc8 Q l) (mv9 (pu_s Q l) (kc8 Q l))
      · have := v2 q
        rw [if_pos q, if_pos q]
        omega
      · rw [if_neg q, if_neg q]
    have hgg : ∃ gg, gg ≤ 20 ∧ Q 9 = nI gg := hR.2.2.1
    have hA' : pu_A (pu_s (tq8 Q) l) (tk9 (kc8 Q l) (Q 7) (Q 8) (Q 9) (pu_s Q l)) (kc8 (tq8 Q) l) := by rw [hk]; exact hA
    have hI1 := hR1.2.2.2 l hl1
    have hh2 : lt8 (tq8 Q 7) (tq8 Q 8) (tq8 Q 9) rem (t + 1) j1 (kc8 (tq8 Q) l) (pu_s (tq8 Q) l) = nI (t + 1 + n) := by
      rw [tq_h (by omega), tq_h (by omega), tq_h (by omega), lt_cong hgg _ _ _ _ _ _ hA' hI1 hj1k, hk, hh]
      congr 1
      omega
    have ela : la9' (pu_s (tq8 Q) l) j1 = la9' (mo9 (kc8 Q l) (pu_s Q l)) j1 := by rw [A_la hA' hj1k, tk_la]
    by_cases q : la9' (pu_s (tq8 Q) l) j1 ≤ 20
    · obtain ⟨w1, w2, j', w3, w4, w5⟩ := ih rem (t + 1) j1 (tq8 Q) hR1 hl1 hj1k (by omega) (by omega) q hh2
      refine ⟨by omega, ?_, j', w3, by rw [rn_s]; omega, w5⟩
      obtain ⟨n', rfl⟩ : ∃ n', n = n' + 1 := ⟨n - 1, by omega⟩
      exact w2
    · obtain ⟨rem, rfl⟩ : ∃ r, rem = r + 1 := ⟨rem - 1, by omega⟩
      unfold lt8 at hh2
      rw [if_neg q] at hh2
      have hn0 := (nI_eq (by omega) (by omega)).mp hh2
      have hn0 : n = 0 := by omega
      subst hn0
      have h21 : (la9' (mo9 (kc8 Q l) (pu_s Q l)) j1).toInt = 21 := by
        obtain ⟨k', h1, h2, h3⟩ := mo_at (c := kc8 Q l) (p := pu_s Q l) (k := j1) v1
        have hkj : k' = j := by
          rw [h2, ← hj1]
          by_cases q2 : ps9 (kc8 Q l) (mv9 (pu_s Q l) (kc8 Q l))
          · have := v2 q2
            rw [if_pos q2, if_pos q2]
            omega
          · rw [if_neg q2, if_neg q2]
        have e1 : la9' (mo9 (kc8 Q l) (pu_s Q l)) j1 = la9' (mv9 (pu_s Q l) (kc8 Q l)) k' := by
          unfold la9' fr9 ln9
          rw [h3 1 (by omega), h3 0 (by omega)]
        rw [ela, e1, hkj] at q
        rw [e1, hkj]
        rw [i32_le, i32_20] at q hla
        obtain ⟨b1, b2⟩ := mv_tail hI hj
        by_cases q3 : (la9' (pu_s Q l) j).toInt ≤ 19
        · have := b2 q3; omega
        · have := b1 (by omega); omega
      refine ⟨by omega, cn_pos (k := j1) v1 h21, j1, hj1k, hjk, ?_⟩
      show (la9' (pu_s (tq8 Q) l) j1).toInt = 21
      rw [ela]
      exact h21
/-! the totals in a run -/
theorem rn_T {u e s h : Nat} (hR : RI8 Q) (hT : T9 Q u e s h) : ∃ u' e' s' h', T9 (rn8 n Q) u' e' s' h' ∧ u' ≤ u + 3 * n ∧ h' ≤ h + 3 * n ∧ e ≤ e' ∧ s ≤ s' := by
  induction n generalizing Q u e s h with
  | zero => exact ⟨u, e, s, h, hT, by omega, by omega, by omega, by omega⟩
  | succ n ih =>
    obtain ⟨u1, e1, s1, h1, hT1, b1, b2, b3, b4, -⟩ := tq_T hR hT
    obtain ⟨u2, e2, s2, h2, hT2, c1, c2, c3, c4⟩ := ih (ri_tq hR) hT1
    exact ⟨u2, e2, s2, h2, hT2, by omega, by omega, by omega, by omega⟩
theorem rn_T1 {u e s h : Nat} (hR : RI8 Q) (hT : T9 Q u e s h) (hl : l < kn8 Q) (hn : 1 ≤ n) (hc : 1 ≤ ct8 (rn8 (n - 1) Q) l) : ∃ u' e' s' h', T9 (rn8 n Q) u' e' s' h' ∧ u' ≤ u + 3 * n ∧ h' ≤ h + 3 * n ∧ e ≤ e' ∧ s ≤ s' ∧ e + s + 1 ≤ e' + s' := by
  obtain ⟨n', rfl⟩ : ∃ n', n = n' + 1 := ⟨n - 1, by omega⟩
  obtain ⟨u1, e1, s1, h1, hT1, b1, b2, b3, b4⟩ := rn_T (n := n') hR hT
  obtain ⟨u2, e2, s2, h2, hT2, c1, c2, c3, c4, c5⟩ := tq_T (ri_rn (k := n') hR) hT1
  have hc2 : e1 + s1 + ct8 (rn8 n' Q) l ≤ e2 + s2 := c5 l (by rw [rn_kn]; exact hl)
  have hc : 1 ≤ ct8 (rn8 n' Q) l := hc
  rw [rn_last]
  exact ⟨u2, e2, s2, h2, hT2, by omega, by omega, by omega, by omega, by omega⟩
theorem TH_le (hR : RI8 Q) : TH8 Q ≤ 18 := by
  have h := sn_le (f := fun l => cn8 (tu8 (pu_s Q l)) (kc8 Q l)) (n := kn8 Q) (b := 6) (fun l hl => Nat.le_trans cn_le (hR.2.2.2 l hl).2.1)
  have h3 := hR.2.1
  have : TH8 Q ≤ 6 * kn8 Q := h
  omega
theorem nI_sb {i j : Nat} (h : j ≤ i) : nI i - nI j = nI (i - j) := nI_sub h
/-- what a run answers -/
theorem rv_nat (h : RG8 Q T) (hT : T + n ≤ 100000000) : ∃ w, w < 1000000000 ∧ rv8 Q n = nI w ∧ rv8 Q n = (rn8 n Q 3 - Q 3) + (rn8 n Q 4 - Q 4) := by
  obtain ⟨hR, -, -, t, u, e, s, w, t1, t2, t3', t4, t5⟩ := h
  obtain ⟨u', e', s', w', hT', b1, b2, b3, b4⟩ := rn_T (n := n) hR t3'
  have hth := TH_le (ri_rn (k := n) hR)
  obtain ⟨a1, a2, a3, a4, a5, a6⟩ := t3'
  obtain ⟨c1, c2, c3, c4, c5, c6⟩ := hT'
  refine ⟨e' + s' - (e + s), by omega, ?_, ?_⟩
  · unfold rv8
    rw [a2, a3, c2, c3, nI_add, nI_add, nI_sb (by omega)]
  · unfold rv8
    rw [a2, a3, c2, c3, nI_add, nI_add, nI_sb (by omega), nI_sb b3, nI_sb b4, nI_add]
    congr 1
    omega
theorem rv_pos (h : RG8 Q T) (hT : T + n ≤ 100000000) (hl : l < kn8 Q) (hn : 1 ≤ n) (hc : 1 ≤ ct8 (rn8 (n - 1) Q) l) : ∃ w, 1 ≤ w ∧ w < 1000000000 ∧ rv8 Q n = nI w := by
  obtain ⟨hR, -, -, t, u, e, s, w, t1, t2, t3', t4, t5⟩ := h
  obtain ⟨u', e', s', w', hT', b1, b2, b3, b4, b5⟩ := rn_T1 (n := n) hR t3' hl hn hc
  have hth := TH_le (ri_rn (k := n) hR)
  obtain ⟨a1, a2, a3, a4, a5, a6⟩ := t3'
  obtain ⟨c1, c2, c3, c4, c5, c6⟩ := hT'
  refine ⟨e' + s' - (e + s), by omega, by omega, ?_⟩
  unfold rv8
  rw [a2, a3, c2, c3, nI_add, nI_add, nI_sb (by omega)]
end TE
