section TA
variable {c d k n : Nat} {p q r m : Nat → Int32} {g0 g1 g2 : Int32}
theorem fs_iff {P : Nat → Prop} [DecidablePred P] : ∀ r k, (fs9 P r k).isSome = true ↔ ∃ j, k ≤ j ∧ j < k + r ∧ P j := by
  intro r
  induction r with
  | zero =>
    intro k
    constructor
    · intro h; cases h
    · rintro ⟨j, h1, h2, -⟩; omega
  | succ r ih =>
    intro k
    unfold fs9
    by_cases h : P k
    · rw [if_pos h]
      exact ⟨fun _ => ⟨k, by omega, by omega, h⟩, fun _ => rfl⟩
    · rw [if_neg h, ih]
      constructor
      · rintro ⟨j, h1, h2, h3⟩; exact ⟨j, by omega, by omega, h3⟩
      · rintro ⟨j, h1, h2, h3⟩
        refine ⟨j, ?_, by omega, h3⟩
        rcases Nat.eq_or_lt_of_le h1 with e | e
        · subst e; exact absurd h3 h
        · exact e
theorem fs_0 {P : Nat → Prop} [DecidablePred P] : (fs9 P c 0).isSome = true ↔ ∃ j, j < c ∧ P j := by
  rw [fs_iff]
  constructor
  · rintro ⟨j, -, h2, h3⟩; exact ⟨j, by omega, h3⟩
  · rintro ⟨j, h2, h3⟩; exact ⟨j, by omega, by omega, h3⟩
theorem fs_no {P : Nat → Prop} [DecidablePred P] (h : fs9 P c 0 = none) : ∀ j, j < c → ¬ P j := fun j hj hP => by
  have h2 := (fs_0 (c := c) (P := P)).mpr ⟨j, hj, hP⟩
  rw [h] at h2
  cases h2
theorem i32_19 : (19 : Int32).toInt = 19 := by decide
theorem i32_21 : (21 : Int32).toInt = 21 := by decide
theorem i32_eq {a b : Int32} : a = b ↔ a.toInt = b.toInt := Int32.toInt_inj.symm
/-- fronts fall from one vehicle to the next -/
theorem pV_dec {T : Int} (h6 : c ≤ 6) (hT : T ≤ 400) (hV : pu_V p c T) : ∀ j i, i < j → j < c → (fr9 p j).toInt < (fr9 p i).toInt := by
  intro j
  induction j with
  | zero => intro i h; omega
  | succ j ih =>
    intro i hi hj
    have h1 := (hV (j + 1) hj).2.2.2.2 (by omega)
    rw [Nat.add_sub_cancel] at h1
    have h2 := pV_la h6 hT hV (show j < c by omega)
    have h3 := (hV j (by omega)).1
    by_cases e : i = j
    · subst e; omega
    · have h4 := ih i (by omega) (by omega)
      omega
/-- what holds of a lane between ticks, besides pu_I -/
def J8 (p : Nat → Int32) (c : Nat) : Prop := (∃ w, 16 ≤ w ∧ w ≤ 96 ∧ p 3 = nI w) ∧ (∃ q, q ≤ 60 ∧ p 6 = nI q ∧ (q ≠ 0 ↔ ∃ k, k < c ∧ ck9 p k)) ∧ ∀ k, k < c → (le9' p k = 1 → 19 ≤ (fr9 p k).toInt) ∧ (20 ≤ (fr9 p k).toInt → le9' p k = 1 ∨ fo9 p k = 1)
theorem ck_A (h : pu_A q p c) : (∃ k, k < c ∧ ck9 q k) ↔ ∃ k, k < c ∧ ck9 p k := by
  constructor
  · rintro ⟨k, hk, h1, h2⟩
    exact ⟨k, hk, by rw [← A_fr h hk]; exact h1, by rw [← A_le h hk]; exact h2⟩
  · rintro ⟨k, hk, h1, h2⟩
    exact ⟨k, hk, by rw [A_fr h hk]; exact h1, by rw [A_le h hk]; exact h2⟩
theorem j8_A (h : pu_A q p c) (hJ : J8 p c) : J8 q c := by
  obtain ⟨⟨w, w1, w2, w3⟩, ⟨u, u1, u2, u3⟩, h3⟩ := hJ
  refine ⟨⟨w, w1, w2, (h 3 (by omega)).trans w3⟩, ⟨u, u1, (h 6 (by omega)).trans u2, u3.trans (ck_A h).symm⟩, fun k hk => ?_⟩
  rw [A_fr h hk, A_le h hk, A_fo h hk]
  exact h3 k hk
/-! step 1 -/
theorem mo_at (hk : k < cc9 c p) : ∃ k', k' < c ∧ k' = (if ps9 c (mv9 p c) then k + 1 else k) ∧ ∀ i, i < 5 → mo9 c p (7 + 5 * k + i) = mv9 p c (7 + 5 * k' + i) := by
  unfold mo9
  unfold cc9 at hk
  by_cases q : ps9 c (mv9 p c)
  · have hc0 := q.1
    rw [if_pos q] at hk
    rw [if_pos q, if_pos q]
    exact ⟨k + 1, by omega, rfl, fun i hi => dr_at (by omega) hi⟩
  · rw [if_neg q] at hk
    rw [if_neg q, if_neg q]
    exact ⟨k, hk, rfl, fun i hi => rfl⟩
theorem mo_J (hI : pu_I p c) (hJ : J8 p c) : ∀ k, k < cc9 c p → (le9' (mo9 c p) k = 1 → 19 ≤ (fr9 (mo9 c p) k).toInt) ∧ (20 ≤ (fr9 (mo9 c p) k).toInt → le9' (mo9 c p) k = 1 ∨ fo9 (mo9 c p) k = 1) := by
  obtain ⟨i0, i6, -, -, -, -, -, iB, iV, iZ⟩ := hI
  intro k hk
  obtain ⟨k', h1, -, h2⟩ := mo_at hk
  have ef : fr9 (mo9 c p) k = fr9 (mv9 p c) k' := h2 1 (by omega)
  have el : le9' (mo9 c p) k = le9' p k' := (h2 4 (by omega)).trans mv_le
  have eo : fo9 (mo9 c p) k = fo9 p k' := (h2 3 (by omega)).trans mv_fo
  obtain ⟨a1, a2⟩ := mv_two i6 (T := 50) (by omega) iV h1
  obtain ⟨b1, b2⟩ := hJ.2.2 k' h1
  rw [ef, el, eo]
  refine ⟨fun h => ?_, fun h => ?_⟩
  · have := b1 h; omega
  · by_cases e : (fr9 (mv9 p c) k').toInt = (fr9 p k').toInt + 1
    · by_cases e2 : 20 ≤ (fr9 p k').toInt
      · exact b2 e2
      · have e3 : fr9 p k' = 19 := i32_eq.mpr (by rw [i32_19]; omega)
        exact ((a2.mp e).2 e3).2
    · exact b2 (by omega)
/-! step 2 -/
theorem ct_J {G0 G1 u : Nat} (h6 : d ≤ 6) (mV : pu_V m d 50) (hm : ∀ k, k < d → (le9' m k = 1 → 19 ≤ (fr9 m k).toInt) ∧ (20 ≤ (fr9 m k).toInt → le9' m k = 1 ∨ fo9 m k = 1)) (hu : u ≤ 60) (h6u : m 6 = nI u) (hG0 : G0 ≤ 60) (hG1 : G1 ≤ 60) : (∃ q, q ≤ 60 ∧ ct9 d (nI G0) (nI G1) g2 m 6 = nI q ∧ (q ≠ 0 ↔ ∃ k, k < d ∧ ck9 (ct9 d (nI G0) (nI G1) g2 m) k)) ∧ ∀ k, k < d → (le9' (ct9 d (nI G0) (nI G1) g2 m) k = 1 → 19 ≤ (fr9 (ct9 d (nI G0) (nI G1) g2 m) k).toInt) ∧ (20 ≤ (fr9 (ct9 d (nI G0) (nI G1) g2 m) k).toInt → le9' (ct9 d (nI G0) (nI G1) g2 m) k = 1 ∨ fo9 (ct9 d (nI G0) (nI G1) g2 m) k = 1) := by
  have ef : ∀ k, fr9 (ct9 d (nI G0) (nI G1) g2 m) k = fr9 m k := fun k => ct_far (by omega) (by omega) (fun _ => by omega)
  have eo : ∀ k, fo9 (ct9 d (nI G0) (nI G1) g2 m) k = fo9 m k := fun k => ct_far (by omega) (by omega) (fun _ => by omega)
  cases hf : fs9 (ck9 m) d 0 with
  | none =>
    have ex : ct9 d (nI G0) (nI G1) g2 m = pu_u m 6 0 := by unfold ct9; rw [hf]
    have el : ∀ k, le9' (ct9 d (nI G0) (nI G1) g2 m) k = le9' m k := fun k => by rw [ex]; exact pu_u_ne (by omega)
    refine ⟨⟨0, by omega, by rw [ex, pu_u_eq]; rfl, fun h => absurd rfl h, ?_⟩, fun k hk => by rw [ef, el, eo]; exact hm k hk⟩
    rintro ⟨k, hk, h1, h2⟩
    rw [ef] at h1
    rw [el] at h2
    exact absurd ⟨h1, h2⟩ (fs_no hf k hk)
  | some j =>
    obtain ⟨-, hj, hj1, hj2⟩ := fs_some hf
    rw [Nat.zero_add] at hj
    have ex : ct9 d (nI G0) (nI G1) g2 m = if m 6 + 1 < (if lo9 m j = 0 then nI G0 else nI G1) then pu_u m 6 (m 6 + 1) else pu_u (pu_u (pu_u (pu_u m 6 (m 6 + 1)) (7 + 5 * j + 4) 1) 2 (m 3 / 8 + g2)) 6 0 := by unfold ct9; rw [hf]
    obtain ⟨G, hG, eG⟩ : ∃ G, G ≤ 60 ∧ (if lo9 m j = 0 then nI G0 else nI G1) = nI G := by
      by_cases e : lo9 m j = 0
      · exact ⟨G0, hG0, if_pos e⟩
      · exact ⟨G1, hG1, if_neg e⟩
    rw [eG, h6u, nI_1] at ex
    by_cases q : nI (u + 1) < nI G
    · rw [if_pos q] at ex
      have q2 : u + 1 < G := by
        rw [i32_lt, nI_toInt (by omega), nI_toInt (by omega)] at q
        omega
      have el : ∀ k, le9' (ct9 d (nI G0) (nI G1) g2 m) k = le9' m k := fun k => by rw [ex]; exact pu_u_ne (by omega)
      refine ⟨⟨u + 1, by omega, by rw [ex, pu_u_eq], fun _ => ⟨j, hj, ?_, ?_⟩, fun _ => by omega⟩, fun k hk => by rw [ef, el, eo]; exact hm k hk⟩
      · rw [ef]; exact hj1
      · rw [el]; exact hj2
    · rw [if_neg q] at ex
      have elj : le9' (ct9 d (nI G0) (nI G1) g2 m) j = 1 := by
        rw [ex]
        show pu_u (pu_u (pu_u (pu_u m 6 (nI (u + 1))) (7 + 5 * j + 4) 1) 2 (m 3 / 8 + g2)) 6 0 (7 + 5 * j + 4) = 1
        rw [pu_u_ne (by omega), pu_u_ne (by omega), pu_u_eq]
      have el : ∀ k, k ≠ j → le9' (ct9 d (nI G0) (nI G1) g2 m) k = le9' m k := fun k hk => by
        rw [ex]
        show pu_u (pu_u (pu_u (pu_u m 6 (nI (u + 1))) (7 + 5 * j + 4) 1) 2 (m 3 / 8 + g2)) 6 0 (7 + 5 * k + 4) = _
        rw [pu_u_ne (by omega), pu_u_ne (by omega), pu_u_ne (by omega), pu_u_ne (by omega)]
        rfl
      refine ⟨⟨0, by omega, by rw [ex, pu_u_eq]; rfl, fun h => absurd rfl h, ?_⟩, fun k hk => ?_⟩
      · rintro ⟨k, hk, h1, h2⟩
        rw [ef] at h1
        by_cases e : k = j
        · subst e
          rw [elj] at h2
          exact absurd h2 (by decide)
        · exfalso
          have e1 : (fr9 m k).toInt = 19 := by rw [h1]; decide
          have e2 : (fr9 m j).toInt = 19 := by rw [hj1]; decide
          rcases Nat.lt_or_gt_of_ne e with e3 | e3
          · have := pV_dec h6 (T := 50) (by omega) mV j k e3 hj
            omega
          · have := pV_dec h6 (T := 50) (by omega) mV k j e3 hk
            omega
      · rw [ef, eo]
        by_cases e : k = j
        · subst e
          exact ⟨fun _ => by rw [hj1]; decide, fun _ => Or.inl elj⟩
        · rw [el k e]
          exact hm k hk
/-! steps 3 to 5 -/
theorem learn_16 : ∀ w, w < 97 → 16 ≤ w → ∀ n, n < 13 → 2 ≤ n → 16 ≤ (nI w + (8 * nI n - nI w) / 4).toInt ∧ (nI w + (8 * nI n - nI w) / 4).toInt ≤ 96 := by decide +kernel
theorem th_16 {w : Nat} (hl : ∀ k, k < n → 2 ≤ (ln9 p k).toInt ∧ (ln9 p k).toInt ≤ 12) (h16 : 16 ≤ w) (hw : w ≤ 96) (h3 : p 3 = nI w) : ∃ w', 16 ≤ w' ∧ w' ≤ 96 ∧ th9 p n 3 = nI w' := by
  induction n with
  | zero => exact ⟨w, h16, hw, h3⟩
  | succ n ih =>
    obtain ⟨v, v0, v1, v2⟩ := ih (fun k hk => hl k (by omega))
    rw [th_s]
    split
    · rw [pu_u_eq, v2]
      have e : ln9 (th9 p n) n = ln9 p n := th_o (by omega)
      rw [e]
      obtain ⟨a1, a2⟩ := hl n (by omega)
      obtain ⟨m, m1, m2⟩ := i32_ex (x := ln9 p n) (n := 12) (by omega) (by omega) (by omega)
      rw [m2] at a1 ⊢
      rw [nI_toInt (by omega)] at a1
      obtain ⟨b1, b2⟩ := learn_16 v (by omega) v0 m (by omega) (by omega)
      obtain ⟨w', e1, e2⟩ := i32_ex (x := nI v + (8 * nI m - nI v) / 4) (n := 96) (by omega) (by omega) b2
      refine ⟨w', ?_, e1, e2⟩
      rw [e2, nI_toInt (by omega)] at b1
      omega
    · exact ⟨v, v0, v1, v2⟩
theorem end_J (hI : pu_I p c) (hJ : J8 p c) : J8 (th9 (hi9 c (t3 c p)) c) c := by
  obtain ⟨⟨w, w1, w2, w3⟩, ⟨u, u1, u2, u3⟩, h3⟩ := hJ
  have far : ∀ j, 6 ≤ j → th9 (hi9 c (t3 c p)) c j = p j := fun j hj => by rw [th_o (by omega), hi_o (by omega), t3_o (by omega) (by omega)]
  have hl3 : hi9 c (t3 c p) 3 = nI w := by rw [hi_o (by decide), t3_o (by decide) (by decide), w3]
  have ef : ∀ k, fr9 (th9 (hi9 c (t3 c p)) c) k = fr9 p k := fun k => far _ (by omega)
  have el : ∀ k, le9' (th9 (hi9 c (t3 c p)) c) k = le9' p k := fun k => far _ (by omega)
  have eo : ∀ k, fo9 (th9 (hi9 c (t3 c p)) c) k = fo9 p k := fun k => far _ (by omega)
  refine ⟨th_16 (fun k hk => ?_) w1 w2 hl3, ⟨u, u1, (far 6 (by omega)).trans u2, u3.trans ?_⟩, fun k hk => ?_⟩
  · have e : ln9 (hi9 c (t3 c p)) k = ln9 p k := by
      unfold ln9
      rw [hi_o (by omega), t3_o (by omega) (by omega)]
    rw [e]
    have hV := hI.2.2.2.2.2.2.2.2.1
    exact ⟨(hV k hk).1, (hV k hk).2.1⟩
  · constructor
    · rintro ⟨k, hk, a, b⟩; exact ⟨k, hk, (ef k).trans a, (el k).trans b⟩
    · rintro ⟨k, hk, a, b⟩; exact ⟨k, hk, (ef k).symm.trans a, (el k).symm.trans b⟩
  · rw [ef, el, eo]
    exact h3 k hk
theorem tick_J {G0 G1 G2 : Nat} (hI : pu_I p c) (hJ : J8 p c) (h0 : G0 ≤ 60) (h1 : G1 ≤ 60) (h2 : G2 ≤ 20) : J8 (tk9 c (nI G0) (nI G1) (nI G2) p) (cc9 c p) := by
  have hm := mo_J hI hJ
  have hI2 := pI_ct (g0 := nI G0) (g1 := nI G1) h2 hI
  obtain ⟨⟨w, w1, w2, w3⟩, ⟨u, u1, u2, -⟩, -⟩ := hJ
  obtain ⟨i0, i6, -, -, -, -, -, iB, iV, iZ⟩ := hI
  obtain ⟨mV, mZ⟩ := pV_mo i6 iV iZ
  obtain ⟨a1, a2⟩ := ct_J (g2 := nI G2) (Nat.le_trans cc_le i6) mV hm u1 ((mo_sm (by omega) (by omega)).trans u2) h0 h1
  exact end_J hI2 ⟨⟨w, w1, w2, by rw [ct_far (by omega) (by omega) (fun _ => by omega), mo_sm (by omega) (by omega), w3]⟩, a1, a2⟩
/-! changes -/
theorem nf_neg : (nf9 c p).toInt ≤ -1 := by
  have e1 : (-1 : Int32).toInt = -1 := by decide
  unfold nf9
  by_cases h : c = 0
  · rw [if_pos h, e1]
    omega
  · rw [if_neg h]
    by_cases q : la9' p (c - 1) - 2 < -1
    · rw [if_pos q]
      rw [i32_lt, e1] at q
      omega
    · rw [if_neg q, e1]
      omega
theorem ad_J {len lost fol : Int32} (hJ : J8 p c) : J8 (ad9' c len lost fol p) (c + 1) := by
  obtain ⟨⟨w, w1, w2, w3⟩, ⟨u, u1, u2, u3⟩, h3⟩ := hJ
  have ef : ∀ k, k < c → fr9 (ad9' c len lost fol p) k = fr9 p k := fun k hk => ad_old hk (by omega)
  have el : ∀ k, k < c → le9' (ad9' c len lost fol p) k = le9' p k := fun k hk => ad_old hk (by omega)
  have eo : ∀ k, k < c → fo9 (ad9' c len lost fol p) k = fo9 p k := fun k hk => ad_old hk (by omega)
  have hn := nf_neg (c := c) (p := p)
  refine ⟨⟨w, w1, w2, (ad_sm (by omega) (by omega)).trans w3⟩, ⟨u, u1, (ad_sm (by omega) (by omega)).trans u2, u3.trans ?_⟩, fun k hk => ?_⟩
  · constructor
    · rintro ⟨k, hk, a, b⟩; exact ⟨k, by omega, (ef k hk).trans a, (el k hk).trans b⟩
    · rintro ⟨k, hk, a, b⟩
      by_cases e : k = c
      · subst e
        rw [ad_fr] at a
        rw [a, i32_19] at hn
        omega
      · exact ⟨k, by omega, (ef k (by omega)).symm.trans a, (el k (by omega)).symm.trans b⟩
  · by_cases e : k = c
    · subst e
      rw [ad_le, ad_fr]
      exact ⟨fun h => absurd h (by decide), fun h => by omega⟩
    · rw [ef k (by omega), el k (by omega), eo k (by omega)]
      exact h3 k (by omega)
theorem u_J {j : Nat} {v : Int32} (hj : j = 4 ∨ j = 5) (hJ : J8 p c) : J8 (pu_u p j v) c := by
  obtain ⟨⟨w, w1, w2, w3⟩, ⟨u, u1, u2, u3⟩, h3⟩ := hJ
  have ef : ∀ k, fr9 (pu_u p j v) k = fr9 p k := fun k => pu_u_ne (by omega)
  have el : ∀ k, le9' (pu_u p j v) k = le9' p k := fun k => pu_u_ne (by omega)
  have eo : ∀ k, fo9 (pu_u p j v) k = fo9 p k := fun k => pu_u_ne (by omega)
  refine ⟨⟨w, w1, w2, (pu_u_ne (by omega)).trans w3⟩, ⟨u, u1, (pu_u_ne (by omega)).trans u2, u3.trans ?_⟩, fun k hk => ?_⟩
  · constructor
    · rintro ⟨k, hk, a, b⟩; exact ⟨k, hk, (ef k).trans a, (el k).trans b⟩
    · rintro ⟨k, hk, a, b⟩; exact ⟨k, hk, (ef k).symm.trans a, (el k).symm.trans b⟩
  · rw [ef, el, eo]
    exact h3 k hk
theorem nl_J : J8 nl8 0 := ⟨⟨48, by omega, by omega, rfl⟩, ⟨0, by omega, rfl, fun h => absurd rfl h, fun ⟨k, hk, _⟩ => absurd hk (Nat.not_lt_zero k)⟩, fun k hk => absurd hk (Nat.not_lt_zero k)⟩
end TA
