section RJ
variable {z : Sh9} {M M' M1 M2 M4 M5 M6 : Mem9} {g x y x0 n c B B' l a A o : Nat} {Q Q' p r s : Nat → Int32} {D : Nat → Nat → Int32}
def DC8 (M : Mem9) (a : Nat) (A : Nat) (D : Nat → Nat → Int32) (B : Nat) : Prop := ∃ o, o < 14 ∧ M a 5 = nI o ∧ M a 6 = nI A ∧ ∀ j, j < A → GR8 M (a + 47 + 21 * ((o + j) % 14)) (D j) B
theorem g8_same {M : Mem9} (h : GR8 M g Q B) (f : ∀ q k, g ≤ q → q < g + 21 → M' q k = M q k) : GR8 M' g Q B := g8_cong h (v8_f f)
/-! remembering, on the class's side -/
theorem rm_14 : ∀ s, s < 28 → rm9 (nI s) 14 = some (nI (s % 14)) := by decide +kernel
theorem hz_la15 {i : Nat} (hz : HZ8 z a) (hi : i < 14) : la9 z 15 (a + 44) (nI i) = some (a + 47 + 21 * i) := by
  rw [la_k hz.1.2.2.1 hi (by decide)]
  unfold el9
  rw [if_neg (by decide), if_pos rfl]
theorem hz_la16 {i : Nat} (hz : HZ8 z a) (hi : i < 2) : la9 z 16 (a + 45) (nI i) = some (a + 341 + 21 * i) := by
  rw [la_k hz.1.2.2.2.1 hi (by decide)]
  unfold el9
  rw [if_neg (by decide), if_neg (by decide), show a + 45 + 296 + 21 * i = a + 341 + 21 * i by omega]
/-- the class's cells but for the ring -/
def RC8 (a : Nat) (M M1 : Mem9) : Prop := ∀ q k, (q < a + 47 ∨ a + 341 ≤ q) → (q = a → k ≠ 5 ∧ k ≠ 6) → M1 q k = M q k
theorem x2_remember (hz : HZ8 z a) (hP : GR8 M (a + 2) Q B) (hA14 : A ≤ 14) (hD : DC8 M a A D B) : ∃ M1, f_X2_remember z a M = some (.inl none, M1) ∧ RC8 a M M1 ∧ DC8 M1 a (ra8 A) (rb8 A D Q) B := by
  obtain ⟨o, h1, h2, h3, h4⟩ := hD
  have ho := hz.1.1
  obtain ⟨i, hi, hi14⟩ : ∃ i, i = (o + A) % 14 ∧ i < 14 := ⟨_, rfl, by omega⟩
  have hrm : rm9 (nI o + nI A) 14 = some (nI i) := by rw [nI_add, rm_14 _ (by omega), hi]
  have hGi := hz.2.2.2.2.1 i hi14
  obtain ⟨M7, t7, f7, g7⟩ := x0_copy (M := M) hGi hz.2.2.1 (by omega) hP
  have e7 : ∀ k, M7 a k = M a k := fun k => f7 a k (by omega)
  have hw : ∀ k v, F8 M7 (wr9 M7 a k v) a 1 := fun k v => f8_w
  have hkeep : ∀ j, j < 14 → j ≠ i → ∀ q, GR8 M (a + 47 + 21 * j) q B → ∀ k v, GR8 (wr9 M7 a k v) (a + 47 + 21 * j) q B := fun j hj hn q h k v => g8_out (g8_out h f7 (by omega)) (hw k v) (by omega)
  have hnew : ∀ k v, GR8 (wr9 M7 a k v) (a + 47 + 21 * i) Q B := fun k v => g8_out g7 (hw k v) (by omega)
  by_cases h14 : A = 14
  · subst h14
    have hio : i = o := by omega
    refine ⟨wr9 M7 a 5 (nI ((o + 1) % 14)), ?_, fun q k hq hk => ?_, (o + 1) % 14, by omega, wr_eq, ?_, fun j hj => ?_⟩
    · unfold f_X2_remember
      rw [rf_k ho, sb_k, gf_k ho, sb_k, gf_k ho, sb_k, h2, h3, hrm, sb_k, hz_la15 hz hi14, sb_k, rf_k ho, sb_k, iv_k hGi.1, t7, bv_k, gf_k ho, sb_k, e7, h3, if_pos (show (14 : Int32) ≤ nI 14 by decide), gf_k ho, sb_k, e7, h2, nI_1, rm_14 _ (by omega), sb_k, pf_k ho, sb_k]
      rfl
    · by_cases e : q = a
      · rw [e, wr_nk (hk e).1, e7]
      · rw [wr_na e, f7 q k (by omega)]
    · rw [wr_nk (by decide), e7]; exact h3
    · have hj14 : j < 14 := hj
      unfold rb8
      rw [if_pos rfl]
      by_cases e : j = 13
      · rw [if_pos e, show ((o + 1) % 14 + j) % 14 = i by omega]
        exact hnew _ _
      · rw [if_neg e, show ((o + 1) % 14 + j) % 14 = (o + (j + 1)) % 14 by omega]
        exact hkeep _ (by omega) (by omega) _ (h4 (j + 1) (by omega)) _ _
  · refine ⟨wr9 M7 a 6 (nI A + 1), ?_, fun q k hq hk => ?_, o, h1, ?_, ?_, fun j hj => ?_⟩
    · unfold f_X2_remember
      rw [rf_k ho, sb_k, gf_k ho, sb_k, gf_k ho, sb_k, h2, h3, hrm, sb_k, hz_la15 hz hi14, sb_k, rf_k ho, sb_k, iv_k hGi.1, t7, bv_k, gf_k ho, sb_k, e7, h3, if_neg (show ¬ (14 : Int32) ≤ nI A from nI_ge (b := 14) (by omega) (by decide)), sb_k, pf_k ho, sb_k]
      rfl
    · by_cases e : q = a
      · rw [e, wr_nk (hk e).2, e7]
      · rw [wr_na e, f7 q k (by omega)]
    · rw [wr_nk (by decide), e7]; exact h2
    · rw [wr_eq, nI_1]
      unfold ra8
      rw [if_neg h14]
    · have hj14 : j < A + 1 := by unfold ra8 at hj; rw [if_neg h14] at hj; exact hj
      unfold rb8
      rw [if_neg h14]
      by_cases e : j = A
      · rw [if_pos e, show (o + j) % 14 = i by rw [e]; omega]
        exact hnew _ _
      · rw [if_neg e]
        exact hkeep _ (by omega) (by omega) _ (h4 j (by omega)) _ _
end RJ
