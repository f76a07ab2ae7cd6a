section TD
variable {c d k n l i T T' : Nat} {p q r Q Q' : Nat → Int32} {s : St8} {v : Int32}
/-! rows that are good: T bounds the ticks -/
def SE8 (Q : Nat → Int32) : Prop := (∃ g, g ≤ 60 ∧ Q 7 = nI g) ∧ ∃ g, g ≤ 60 ∧ Q 8 = nI g
def TT8 (Q : Nat → Int32) (T : Nat) : Prop := ∃ t u e s h, t ≤ T ∧ Q 1 = nI t ∧ T9 Q u e s h ∧ u ≤ 3 * t ∧ h ≤ 3 * t
def RG8 (Q : Nat → Int32) (T : Nat) : Prop := RI8 Q ∧ (∀ l, l < kn8 Q → J8 (pu_s Q l) (kc8 Q l)) ∧ SE8 Q ∧ TT8 Q T
theorem rg_mono (h : RG8 Q T) (hT : T ≤ T') : RG8 Q T' := by
  obtain ⟨h1, h2, h3, t, u, e, s, w, t1, t2⟩ := h
  exact ⟨h1, h2, h3, t, u, e, s, w, by omega, t2⟩
theorem rg_tq (h : RG8 Q T) : RG8 (tq8 Q) (T + 1) := by
  obtain ⟨hR, hJ, ⟨⟨G0, g1, g2⟩, G1, g3, g4⟩, t, u, e, s, w, t1, t2, t3', t4, t5⟩ := h
  obtain ⟨G2, g5, g6⟩ := hR.2.2.1
  refine ⟨ri_tq hR, fun l hl => ?_, ⟨⟨G0, g1, (tq_h (by omega)).trans g2⟩, G1, g3, (tq_h (by omega)).trans g4⟩, ?_⟩
  · rw [tq_kn] at hl
    obtain ⟨hA, hk⟩ := tq_lane hR hl
    rw [hk]
    rw [g2, g4, g6] at hA
    exact j8_A hA (tick_J (hR.2.2.2 l hl) (hJ l hl) g1 g3 g5)
  · obtain ⟨u', e', s', w', hT, b1, b2, -⟩ := tq_T hR t3'
    refine ⟨t + 1, u', e', s', w', by omega, ?_, hT, by omega, by omega⟩
    unfold tq8
    rw [pu_u_eq, t2, nI_1]
theorem rg_rn (h : RG8 Q T) : RG8 (rn8 n Q) (T + n) := by
  induction n generalizing Q T with
  | zero => exact h
  | succ n ih =>
    have h2 := ih (rg_tq h)
    rw [show T + 1 + n = T + (n + 1) by omega] at h2
    exact h2
theorem rg_S {c' : Nat} (h : RG8 Q T) (hl : l < kn8 Q) (hI : pu_I p c') (hJp : J8 p c') (ht : cn8 (tu8 p) c' = cn8 (tu8 (pu_s Q l)) (kc8 Q l)) (hb : br8 (p 5) ≤ br8 (pu_s Q l 5)) : RG8 (pu_S Q l p) T ∧ kn8 (pu_S Q l p) = kn8 Q := by
  obtain ⟨hR, hJ, ⟨⟨G0, g1, g2⟩, G1, g3, g4⟩, t, u, e, s, w, t1, t2, t3', t4, t5⟩ := h
  obtain ⟨hR', hn⟩ := ri_S hR hl hI
  refine ⟨⟨hR', fun l' hl' => ?_, ⟨⟨G0, g1, (ps_h (by decide)).trans g2⟩, G1, g3, (ps_h (by decide)).trans g4⟩, t, u, e, s, w, t1, (ps_h (by decide)).trans t2, T9_S hR hl hI ht hb t3', t4, t5⟩, hn⟩
  rw [hn] at hl'
  by_cases q : l' = l
  · subst q
    rw [kc_of (pI_cong (fun j hj => ps_l hj) hI)]
    exact j8_A (pA_37 hI.2.1 (fun j hj => ps_l hj)) hJp
  · have hI' := hR.2.2.2 l' hl'
    rw [kc_of (pI_cong (fun j hj => ps_n q hj) hI')]
    exact j8_A (pA_37 hI'.2.1 (fun j hj => ps_n q hj)) (hJ l' hl')
theorem rg_qa {len lost fol : Int32} (h : RG8 Q T) (hl : l < kn8 Q) (hc : kc8 Q l < 6) (h2 : 2 ≤ len.toInt) (h12 : len.toInt ≤ 12) (hlo : b9 lost) (hfo : b9 fol) : RG8 (qa8 l len lost fol Q) T ∧ kn8 (qa8 l len lost fol Q) = kn8 Q := by
  have hI := h.1.2.2.2 l hl
  have hIa := pI_ad (len := len) (lost := lost) (fol := fol) hI hc h2 h12 hlo hfo
  refine rg_S h hl hIa (ad_J (h.2.1 l hl)) ?_ ?_
  · have e1 : ∀ k, k < kc8 Q l → la9' (ad9' (kc8 Q l) len lost fol (pu_s Q l)) k = la9' (pu_s Q l) k := fun k hk => by
      unfold la9' fr9 ln9
      rw [ad_old hk (by omega), ad_old hk (by omega)]
    have e2 : (la9' (ad9' (kc8 Q l) len lost fol (pu_s Q l)) (kc8 Q l)).toInt ≤ 20 := by
      have hV := hIa.2.2.2.2.2.2.2.2.1
      have e3 := pV_la hIa.2.1 (T := 50) (by omega) hV (show kc8 Q l < kc8 Q l + 1 by omega)
      rw [ad_fr, ad_ln] at e3
      have := nf_neg (c := kc8 Q l) (p := pu_s Q l)
      omega
    rw [cn_s, if_neg (show ¬ tu8 (ad9' (kc8 Q l) len lost fol (pu_s Q l)) (kc8 Q l) by show ¬ 21 ≤ (la9' (ad9' (kc8 Q l) len lost fol (pu_s Q l)) (kc8 Q l)).toInt; omega), Nat.add_zero]
    exact cn_cong (fun k hk => by
      show (21 ≤ (la9' (ad9' (kc8 Q l) len lost fol (pu_s Q l)) k).toInt) ↔ (21 ≤ (la9' (pu_s Q l) k).toInt)
      rw [e1 k hk])
  · rw [ad_sm (by omega) (by omega)]
    exact Nat.le_refl _
theorem la_u {j : Nat} (hj : j < 7) : la9' (pu_u p j v) k = la9' p k := by
  unfold la9' fr9 ln9
  rw [pu_u_ne (by omega), pu_u_ne (by omega)]
theorem rg_qb (h : RG8 Q T) (hl : l < kn8 Q) (hv : b9 v) : RG8 (qb8 l v Q) T ∧ kn8 (qb8 l v Q) = kn8 Q := by
  refine rg_S h hl (pI_4 hv (h.1.2.2.2 l hl)) (u_J (Or.inl rfl) (h.2.1 l hl)) (cn_cong (fun k hk => ?_)) ?_
  · show (21 ≤ (la9' (pu_u (pu_s Q l) 4 v) k).toInt) ↔ (21 ≤ (la9' (pu_s Q l) k).toInt)
    rw [la_u (by omega)]
  · rw [pu_u_ne (by decide)]
    exact Nat.le_refl _
theorem rg_qm (h : RG8 Q T) (hl : l < kn8 Q) : RG8 (qm8 l Q) T ∧ kn8 (qm8 l Q) = kn8 Q := by
  refine rg_S h hl (pI_5 (Or.inl rfl) (h.1.2.2.2 l hl)) (u_J (Or.inr rfl) (h.2.1 l hl)) (cn_cong (fun k hk => ?_)) ?_
  · show (21 ≤ (la9' (pu_u (pu_s Q l) 5 0) k).toInt) ↔ (21 ≤ (la9' (pu_s Q l) k).toInt)
    rw [la_u (by omega)]
  · rw [pu_u_eq]
    exact Nat.zero_le _
theorem rg_ql (h : RG8 Q T) (hn : kn8 Q < 3) : RG8 (ql8 Q) T ∧ kn8 (ql8 Q) = kn8 Q + 1 := by
  obtain ⟨hR, hJ, ⟨⟨G0, g1, g2⟩, G1, g3, g4⟩, t, u, e, s, w, t1, t2, t3', t4, t5⟩ := h
  obtain ⟨hR', hk⟩ := ri_ql hR hn
  have ej : ∀ j, 1 ≤ j → j < 10 → ql8 Q j = Q j := fun j h1 hj => by
    unfold ql8
    rw [pu_u_ne (by omega), ps_h hj]
  refine ⟨⟨hR', fun l' hl' => ?_, ⟨⟨G0, g1, (ej 7 (by omega) (by omega)).trans g2⟩, G1, g3, (ej 8 (by omega) (by omega)).trans g4⟩, t, u, e, s, w, t1, (ej 1 (by omega) (by omega)).trans t2, T9_ql hR hn t3', t4, t5⟩, hk⟩
  rw [hk] at hl'
  by_cases q : l' = kn8 Q
  · subst q
    have e0 : ∀ j, j < 37 → pu_s (ql8 Q) (kn8 Q) j = nl8 j := fun j hj => by
      unfold ql8 pu_s
      rw [pu_u_ne (by omega), ps_i hj]
    rw [kc_of (pI_cong e0 nl_I)]
    exact j8_A (pA_37 (by omega) e0) nl_J
  · have hI' := hR.2.2.2 l' (by omega)
    have e1 : ∀ j, j < 37 → pu_s (ql8 Q) l' j = pu_s Q l' j := fun j hj => by
      unfold ql8 pu_s
      rw [pu_u_ne (by omega)]
      exact if_neg (by omega)
    rw [kc_of (pI_cong e1 hI')]
    exact j8_A (pA_37 hI'.2.1 e1) (hJ l' (by omega))
theorem rg_qs (h : RG8 Q T) (hs : se8 (nI i) v) (hi : i < 3) : RG8 (qs8 i v Q) T ∧ kn8 (qs8 i v Q) = kn8 Q := by
  obtain ⟨hR, hJ, ⟨⟨G0, g1, g2⟩, G1, g3, g4⟩, t, u, e, s, w, t1, t2, t3', t4, t5⟩ := h
  obtain ⟨i', hi', ei, hv⟩ := se_nat hs
  have e0 : i' = i := ((nI_eq (by omega) (by omega)).mp ei).symm
  subst e0
  obtain ⟨hR', hn, hc⟩ := ri_set hR hi hv
  have es : ∀ l, pu_s (qs8 i' v Q) l = pu_s Q l := fun l => by
    funext j
    unfold qs8 pu_s
    exact pu_u_ne (by omega)
  have ej : ∀ j, j < 7 → qs8 i' v Q j = Q j := fun j hj => pu_u_ne (by omega)
  have hv60 : i' < 2 → ∃ g, g ≤ 60 ∧ v = nI g := fun h2 => by
    rcases hs with ⟨-, a1, a2⟩ | ⟨-, a1, a2⟩ | ⟨a0, -⟩
    · obtain ⟨g, b1, b2⟩ := i32_ex (x := v) (n := 20) (by omega) (by omega) (by omega)
      exact ⟨g, by omega, b2⟩
    · exact i32_ex (x := v) (n := 60) (by omega) (by omega) (by omega)
    · have := (nI_eq (a := i') (b := 2) (by omega) (by omega)).mp a0
      omega
  refine ⟨⟨hR', fun l hl => ?_, ⟨?_, ?_⟩, t, u, e, s, w, t1, (ej 1 (by omega)).trans t2, ?_, t4, t5⟩, hn⟩
  · rw [hn] at hl
    rw [es, hc]
    exact hJ l hl
  · by_cases q : i' = 0
    · subst q
      obtain ⟨g, b1, b2⟩ := hv60 (by omega)
      exact ⟨g, b1, pu_u_eq.trans b2⟩
    · exact ⟨G0, g1, (pu_u_ne (by omega)).trans g2⟩
  · by_cases q : i' = 1
    · subst q
      obtain ⟨g, b1, b2⟩ := hv60 (by omega)
      exact ⟨g, b1, pu_u_eq.trans b2⟩
    · exact ⟨G1, g3, (pu_u_ne (by omega)).trans g4⟩
  · obtain ⟨a1, a2, a3, a4, a5, a6⟩ := t3'
    have eT : TH8 (qs8 i' v Q) = TH8 Q := by
      unfold TH8
      rw [hn]
      exact sn_cong (fun l _ => by rw [es, hc])
    have eB : BR8 (qs8 i' v Q) = BR8 Q := by
      unfold BR8
      rw [hn]
      exact sn_cong (fun l _ => by rw [es])
    exact ⟨(ej 2 (by omega)).trans a1, (ej 3 (by omega)).trans a2, (ej 4 (by omega)).trans a3, (ej 5 (by omega)).trans a4, by rw [eT]; exact a5, by rw [eB]; exact a6⟩
/-! states that are good -/
def SG8 (s : St8) (T : Nat) : Prop := RG8 s.1 T ∧ 1 ≤ kn8 s.1 ∧ s.2.1 ≤ 14 ∧ (∀ j, j < s.2.1 → RG8 (s.2.2.1 j) T ∧ kn8 (if j + 1 = s.2.1 then s.1 else s.2.2.1 (j + 1)) ≤ kn8 (s.2.2.1 j) + 1) ∧ ∀ j, j < 2 → b9 (s.2.2.2.1 j) ∧ (s.2.2.2.1 j = 1 → RG8 (s.2.2.2.2 j) T ∧ 1 ≤ kn8 (s.2.2.2.2 j))
theorem sg_mono (h : SG8 s T) (hT : T ≤ T') : SG8 s T' := by
  obtain ⟨h1, h2, h3, h4, h5⟩ := h
  exact ⟨rg_mono h1 hT, h2, h3, fun j hj => ⟨rg_mono (h4 j hj).1 hT, (h4 j hj).2⟩, fun j hj => ⟨(h5 j hj).1, fun e => ⟨rg_mono ((h5 j hj).2 e).1 hT, ((h5 j hj).2 e).2⟩⟩⟩
theorem sg_push (h : SG8 s T) (hQ : RG8 Q' T') (hT : T ≤ T') (h1 : kn8 s.1 ≤ kn8 Q') (h2 : kn8 Q' ≤ kn8 s.1 + 1) : SG8 (pus8 s Q') T' := by
  obtain ⟨a1, a2, a3, a4, a5⟩ := sg_mono h hT
  obtain ⟨Q, A, D, V, K⟩ := s
  refine ⟨hQ, by show 1 ≤ kn8 Q'; have : 1 ≤ kn8 Q := a2; have : kn8 Q ≤ kn8 Q' := h1; omega, ra_14 a3, fun j hj => ?_, a5⟩
  have a4 : ∀ j, j < A → RG8 (D j) T' ∧ kn8 (if j + 1 = A then Q else D (j + 1)) ≤ kn8 (D j) + 1 := a4
  have h2 : kn8 Q' ≤ kn8 Q + 1 := h2
  have a1 : RG8 Q T' := a1
  show RG8 (rb8 A D Q j) T' ∧ kn8 (if j + 1 = ra8 A then Q' else rb8 A D Q (j + 1)) ≤ kn8 (rb8 A D Q j) + 1
  have hj : j < ra8 A := hj
  unfold rb8
  unfold ra8 at hj ⊢
  by_cases q : A = 14
  · rw [if_pos q] at hj ⊢
    rw [if_pos q, if_pos q]
    by_cases q1 : j = 13
    · rw [if_pos q1, if_pos (by omega)]
      exact ⟨a1, h2⟩
    · rw [if_neg q1, if_neg (by omega)]
      obtain ⟨b1, b2⟩ := a4 (j + 1) (by omega)
      refine ⟨b1, ?_⟩
      by_cases q2 : j + 1 = 13
      · rw [if_pos q2]
        rw [if_pos (by omega)] at b2
        exact b2
      · rw [if_neg q2]
        rw [if_neg (by omega)] at b2
        exact b2
  · rw [if_neg q] at hj ⊢
    rw [if_neg q, if_neg q]
    by_cases q1 : j = A
    · rw [if_pos q1, if_pos (by omega)]
      exact ⟨a1, h2⟩
    · rw [if_neg q1, if_neg (by omega)]
      exact a4 j (by omega)
theorem sg_pop (h : SG8 s T) (hA : 1 ≤ s.2.1) (hk : 1 ≤ kn8 (s.2.2.1 (s.2.1 - 1))) : SG8 (pop8 s) T := by
  obtain ⟨a1, a2, a3, a4, a5⟩ := h
  obtain ⟨Q, A, D, V, K⟩ := s
  have hA : 1 ≤ A := hA
  refine ⟨(a4 (A - 1) (by show A - 1 < A; omega)).1, hk, by show A - 1 ≤ 14; have : A ≤ 14 := a3; omega, fun j hj => ?_, a5⟩
  have hj : j < A - 1 := hj
  have a4 : ∀ j, j < A → RG8 (D j) T ∧ kn8 (if j + 1 = A then Q else D (j + 1)) ≤ kn8 (D j) + 1 := a4
  obtain ⟨b1, b2⟩ := a4 j (by omega)
  refine ⟨b1, ?_⟩
  show kn8 (if j + 1 = A - 1 then D (A - 1) else D (j + 1)) ≤ kn8 (D j) + 1
  rw [if_neg (by omega)] at b2
  by_cases q : j + 1 = A - 1
  · rw [if_pos q, ← q]
    exact b2
  · rw [if_neg q]
    exact b2
theorem sg_pop2 (h : SG8 s T) (hA : 1 ≤ s.2.1) (hk : 2 ≤ kn8 s.1) : SG8 (pop8 s) T := by
  refine sg_pop h hA ?_
  have h4 := (h.2.2.2.1 (s.2.1 - 1) (by omega)).2
  rw [if_pos (by omega)] at h4
  omega
theorem ra_1 {A : Nat} : 1 ≤ ra8 A := by unfold ra8; split <;> omega
/-- what was remembered last is the state before -/
theorem pp_1 (hA : s.2.1 ≤ 14) : (pop8 (pus8 s Q')).1 = s.1 := by
  obtain ⟨Q, A, D, V, K⟩ := s
  have hA : A ≤ 14 := hA
  show rb8 A D Q (ra8 A - 1) = Q
  unfold rb8 ra8
  by_cases q : A = 14
  · rw [if_pos q, if_pos q, if_pos (by omega)]
  · rw [if_neg q, if_neg q, if_pos (by omega)]
theorem sg_pp (h : SG8 s T) : SG8 (pop8 (pus8 s Q')) T := by
  have h1 : SG8 (pus8 s s.1) T := sg_push h h.1 (Nat.le_refl _) (Nat.le_refl _) (Nat.le_succ _)
  have h2 : SG8 (pop8 (pus8 s s.1)) T := sg_pop h1 ra_1 (by
    have e := pp_1 (s := s) (Q' := s.1) h.2.2.1
    have e2 : (pus8 s s.1).2.2.1 ((pus8 s s.1).2.1 - 1) = s.1 := e
    rw [e2]
    exact h.2.1)
  exact h2
theorem sg_keep (h : SG8 s T) : SG8 (kee8 s i) T := by
  obtain ⟨a1, a2, a3, a4, a5⟩ := h
  refine ⟨a1, a2, a3, a4, fun j hj => ?_⟩
  show b9 (if j = i then 1 else s.2.2.2.1 j) ∧ ((if j = i then 1 else s.2.2.2.1 j) = 1 → RG8 (if j = i then s.1 else s.2.2.2.2 j) T ∧ 1 ≤ kn8 (if j = i then s.1 else s.2.2.2.2 j))
  by_cases q : j = i
  · rw [if_pos q, if_pos q]
    exact ⟨Or.inr rfl, fun _ => ⟨a1, a2⟩⟩
  · rw [if_neg q, if_neg q]
    exact a5 j hj
theorem sg_back (h : SG8 s T) (hi : i < 2) (hv : s.2.2.2.1 i = 1) : SG8 (bak8 s i) T := by
  obtain ⟨a1, a2, a3, a4, a5⟩ := h
  obtain ⟨b1, b2⟩ := a5 i hi
  exact ⟨(b2 hv).1, (b2 hv).2, Nat.zero_le _, fun j hj => absurd hj (Nat.not_lt_zero j), a5⟩
end TD
