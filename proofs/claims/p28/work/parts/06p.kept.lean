section QK
variable {c : Nat} {p r : Nat → Int32}
theorem ad_old {len lost fol : Int32} {k i : Nat} (hk : k < c) (hi : i < 5) : ad9' c len lost fol p (7 + 5 * k + i) = p (7 + 5 * k + i) := by
  unfold ad9'
  rw [pu_u_ne (by omega), pu_u_ne (by omega), pu_u_ne (by omega), pu_u_ne (by omega), pu_u_ne (by omega), pu_u_ne (by omega)]
theorem ad_sm {len lost fol : Int32} {j : Nat} (h1 : 1 ≤ j) (h7 : j < 7) : ad9' c len lost fol p j = p j := by
  unfold ad9'
  rw [pu_u_ne (by omega), pu_u_ne (by omega), pu_u_ne (by omega), pu_u_ne (by omega), pu_u_ne (by omega), pu_u_ne (by omega)]
theorem ad_ln {len lost fol : Int32} : ln9 (ad9' c len lost fol p) c = len := by
  unfold ln9 ad9'
  rw [pu_u_ne (by omega), pu_u_ne (by omega), pu_u_ne (by omega), pu_u_ne (by omega), pu_u_ne (by omega), pu_u_eq]
theorem ad_fr {len lost fol : Int32} : fr9 (ad9' c len lost fol p) c = nf9 c p := by
  unfold fr9 ad9'
  rw [pu_u_ne (by omega), pu_u_ne (by omega), pu_u_ne (by omega), pu_u_ne (by omega), pu_u_eq]
theorem ad_lo {len lost fol : Int32} : lo9 (ad9' c len lost fol p) c = lost := by
  unfold lo9 ad9'
  rw [pu_u_ne (by omega), pu_u_ne (by omega), pu_u_ne (by omega), pu_u_eq]
theorem ad_fo {len lost fol : Int32} : fo9 (ad9' c len lost fol p) c = fol := by
  unfold fo9 ad9'
  rw [pu_u_ne (by omega), pu_u_ne (by omega), pu_u_eq]
theorem ad_le {len lost fol : Int32} : le9' (ad9' c len lost fol p) c = 0 := by
  unfold le9' ad9'
  rw [pu_u_ne (by omega), pu_u_eq]
theorem ad_B {len lost fol : Int32} {d : Nat} (hB : pu_B p d) (hc : c ≤ d) (hlo : b9 lost) (hfo : b9 fol) : ∀ k, k < d → b9 (lo9 (ad9' c len lost fol p) k) ∧ b9 (fo9 (ad9' c len lost fol p) k) ∧ b9 (le9' (ad9' c len lost fol p) k) := by
  intro k hk
  by_cases e : k = c
  · subst e
    rw [ad_lo, ad_fo, ad_le]
    exact ⟨hlo, hfo, Or.inl rfl⟩
  · have q : ∀ i, i < 5 → ad9' c len lost fol p (7 + 5 * k + i) = p (7 + 5 * k + i) := by
      intro i hi
      unfold ad9'
      rw [pu_u_ne (by omega), pu_u_ne (by omega), pu_u_ne (by omega), pu_u_ne (by omega), pu_u_ne (by omega), pu_u_ne (by omega)]
    have e2 : lo9 (ad9' c len lost fol p) k = lo9 p k := q 2 (by omega)
    have e3 : fo9 (ad9' c len lost fol p) k = fo9 p k := q 3 (by omega)
    have e4 : le9' (ad9' c len lost fol p) k = le9' p k := q 4 (by omega)
    rw [e2, e3, e4]
    exact hB k hk
/-- a new vehicle keeps what holds -/
theorem pI_ad {len lost fol : Int32} (hI : pu_I p c) (h6 : c < 6) (h2 : 2 ≤ len.toInt) (h12 : len.toInt ≤ 12) (hlo : b9 lost) (hfo : b9 fol) : pu_I (ad9' c len lost fol p) (c + 1) := by
  obtain ⟨i0, i6, ⟨h', a1, a2⟩, ⟨q', q1, q2⟩, ⟨w, w1, w2⟩, i4, i5, iB, iV, iZ⟩ := hI
  have hm1 : (-1 : Int32).toInt = -1 := by decide
  have hf : ∀ k, k < c → fr9 (ad9' c len lost fol p) k = fr9 p k ∧ ln9 (ad9' c len lost fol p) k = ln9 p k := fun k hk => ⟨ad_old hk (by omega), ad_old hk (by omega)⟩
  have hla : ∀ k, k < c → la9' (ad9' c len lost fol p) k = la9' p k := fun k hk => by
    unfold la9'
    rw [(hf k hk).1, (hf k hk).2]
  have hn : (c = 0 ∧ (nf9 c p).toInt = -1) ∨ (0 < c ∧ (nf9 c p).toInt ≤ -1 ∧ (nf9 c p).toInt ≤ (la9' p (c - 1)).toInt - 2 ∧ ((nf9 c p).toInt = -1 ∨ (nf9 c p).toInt = (la9' p (c - 1)).toInt - 2)) := by
    by_cases q : c = 0
    · left
      refine ⟨q, ?_⟩
      unfold nf9
      rw [if_pos q]
      exact hm1
    · right
      have hk : c - 1 < c := by omega
      obtain ⟨v1, v2, v3, v4, -⟩ := iV (c - 1) hk
      have l0 := pV_la i6 (by omega) iV hk
      have e : (la9' p (c - 1) - 2).toInt = (la9' p (c - 1)).toInt - 2 := by
        rw [i32_sub (by rw [i32_2]; omega) (by rw [i32_2]; omega), i32_2]
      refine ⟨by omega, ?_⟩
      unfold nf9
      rw [if_neg q]
      by_cases w : la9' p (c - 1) - 2 < -1
      · rw [if_pos w, e]
        rw [i32_lt, e, hm1] at w
        omega
      · rw [if_neg w, hm1]
        rw [i32_lt, e, hm1] at w
        omega
  refine ⟨?_, by omega, ⟨h', a1, (ad_sm (by omega) (by omega)).trans a2⟩, ⟨q', q1, (ad_sm (by omega) (by omega)).trans q2⟩, ⟨w, w1, (ad_sm (by omega) (by omega)).trans w2⟩, ?_, ?_, fun k hk => ?_, pV_mk (by omega) (fun _ => ?_) (fun k hk => ?_), fun _ => ?_⟩
  · unfold ad9'
    rw [pu_u_eq, i0, nI_1]
  · rw [ad_sm (by omega) (by omega)]; exact i4
  · rw [ad_sm (by omega) (by omega)]; exact i5
  · by_cases e : k = c
    · subst e
      rw [ad_lo, ad_fo, ad_le]
      exact ⟨hlo, hfo, Or.inl rfl⟩
    · have e2 : lo9 (ad9' c len lost fol p) k = lo9 p k := ad_old (by omega) (by omega)
      have e3 : fo9 (ad9' c len lost fol p) k = fo9 p k := ad_old (by omega) (by omega)
      have e4 : le9' (ad9' c len lost fol p) k = le9' p k := ad_old (by omega) (by omega)
      rw [e2, e3, e4]
      exact iB k (by omega)
  · by_cases e : c = 0
    · subst e
      rw [ad_fr]
      rcases hn with ⟨-, hn⟩ | ⟨hn, -⟩
      · omega
      · omega
    · obtain ⟨v1, v2, v3, v4, -⟩ := iV 0 (by omega)
      rw [(hf 0 (by omega)).1]
      constructor <;> omega
  · by_cases e : k = c
    · subst e
      rw [ad_ln, ad_fr]
      rcases hn with ⟨z0, hn⟩ | ⟨z0, hn1, hn2, hn3⟩
      · exact ⟨h2, h12, by omega, by omega, fun h => by omega⟩
      · have hk1 : k - 1 < k := by omega
        obtain ⟨v1, v2, v3, v4, -⟩ := iV (k - 1) hk1
        have l0 := pV_la i6 (by omega) iV hk1
        rw [hla (k - 1) hk1]
        exact ⟨h2, h12, by omega, by omega, fun _ => ⟨by omega, by omega⟩⟩
    · have hk1 : k < c := by omega
      obtain ⟨v1, v2, v3, v4, v5⟩ := iV k hk1
      rw [(hf k hk1).1, (hf k hk1).2]
      refine ⟨v1, v2, by omega, by omega, fun h => ?_⟩
      rw [hla (k - 1) (by omega)]
      exact v5 h
  · by_cases e : c = 0
    · subst e
      have e2 := la_int (p := ad9' 0 len lost fol p) (k := 0) (by rw [ad_fr]; rcases hn with ⟨-, hn⟩ | ⟨hn, -⟩ <;> omega) (by rw [ad_fr]; rcases hn with ⟨-, hn⟩ | ⟨hn, -⟩ <;> omega) (by rw [ad_ln]; exact h2) (by rw [ad_ln]; exact h12)
      rw [e2, ad_fr, ad_ln]
      rcases hn with ⟨-, hn⟩ | ⟨hn, -⟩ <;> omega
    · rw [hla 0 (by omega)]
      exact iZ (by omega)
end QK
