section RJ
variable {z : Sh9} {M M' M1 M2 M4 M5 M6 : Mem9} {g x y x0 n c B B' l a A o : Nat} {Q Q' p r s : Nat → Int32} {D : Nat → Nat → Int32}
/-! what the class and the model have in common: text, the present gate, what is remembered, what is saved -/
def dy8 (M : Mem9) (a j : Nat) : Nat → Int32 := fun i => M (a + 387) (121 * j + i)
def kp8 (M : Mem9) (a j : Nat) : Nat → Int32 := fun i => M (a + 388) (121 * j + i)
def TX8 (M : Mem9) (a : Nat) : Prop := ∃ T, T ≤ 120 ∧ M a 1 = nI T ∧ M (a + 383) 2 = nI T ∧ ∀ i, i < T → M (a + 1) i = M (a + 384) i ∧ 0 ≤ (M (a + 384) i).toInt ∧ (M (a + 384) i).toInt ≤ 255
def DC8 (M : Mem9) (a : Nat) (A : Nat) (D : Nat → Nat → Int32) (B : Nat) : Prop := ∃ o, o < 14 ∧ M a 5 = nI o ∧ M a 6 = nI A ∧ ∀ j, j < A → GR8 M (a + 47 + 21 * ((o + j) % 14)) (D j) B
def DI8 (M : Mem9) (a B : Nat) : Prop := ∃ A, A ≤ 14 ∧ M (a + 383) 6 = nI A ∧ DC8 M a A (dy8 M a) B
def KE8 (M : Mem9) (a B : Nat) : Prop := ∀ j, j < 2 → M (a + 46) j = M (a + 389) j ∧ b9 (M (a + 46) j) ∧ (M (a + 46) j = 1 → GR8 M (a + 341 + 21 * j) (kp8 M a j) B)
def SR8 (M : Mem9) (a B : Nat) : Prop := TX8 M a ∧ GR8 M (a + 2) (M (a + 385)) B ∧ DI8 M a B ∧ KE8 M a B
theorem g8_same {M : Mem9} (h : GR8 M g Q B) (f : ∀ q k, g ≤ q → q < g + 21 → M' q k = M q k) : GR8 M' g Q B := g8_cong h (v8_f f)
/-- none of what counts is another -/
def Z8 (a : Nat) (M M' : Mem9) : Prop := ∀ q k, (q < a + 23 ∨ a + 44 ≤ q) → q ≠ a + 386 → q ≠ a + 390 → q ≠ a + 391 → (q = a + 383 → k ≠ 0 ∧ k ≠ 10 ∧ k ≠ 11 ∧ k ≠ 12) → M' q k = M q k
theorem z8_refl : Z8 a M M := fun _ _ _ _ _ _ _ => rfl
theorem z8_trans (h1 : Z8 a M M') (h2 : Z8 a M' M2) : Z8 a M M2 := fun q k a1 a2 a3 a4 a5 => (h2 q k a1 a2 a3 a4 a5).trans (h1 q k a1 a2 a3 a4 a5)
theorem sr_Z (h : SR8 M a B) (hz : Z8 a M M') : SR8 M' a B := by
  obtain ⟨⟨T, t1, t2, t3, t4⟩, hP, ⟨A, d1, d2, o, d3, d4, d5, d6⟩, hK⟩ := h
  have e1 : ∀ q k, q < a + 23 ∨ a + 44 ≤ q → q < a + 383 → M' q k = M q k := fun q k h1 h2 => hz q k h1 (by omega) (by omega) (by omega) (fun _ => by omega)
  have e2 : ∀ q k, (q = a + 384 ∨ q = a + 385 ∨ q = a + 387 ∨ q = a + 388 ∨ q = a + 389) → M' q k = M q k := fun q k h1 => hz q k (by omega) (by omega) (by omega) (by omega) (fun _ => by omega)
  refine ⟨⟨T, t1, ?_, ?_, fun i hi => ?_⟩, ?_, ⟨A, d1, ?_, o, d3, ?_, ?_, fun j hj => ?_⟩, fun j hj => ?_⟩
  · rw [e1 _ _ (by omega) (by omega)]; exact t2
  · rw [hz (a + 383) 2 (by omega) (by omega) (by omega) (by omega) (fun _ => by omega)]; exact t3
  · rw [e1 _ _ (by omega) (by omega), e2 _ _ (by omega)]; exact t4 i hi
  · rw [show M' (a + 385) = M (a + 385) from funext fun k => e2 _ _ (by omega)]
    exact g8_same hP (fun q k h1 h2 => e1 q k (by omega) (by omega))
  · rw [hz (a + 383) 6 (by omega) (by omega) (by omega) (by omega) (fun _ => by omega)]; exact d2
  · rw [e1 _ _ (by omega) (by omega)]; exact d4
  · rw [e1 _ _ (by omega) (by omega)]; exact d5
  · rw [show dy8 M' a j = dy8 M a j from funext fun i => e2 _ _ (by omega)]
    exact g8_same (d6 j hj) (fun q k h1 h2 => e1 q k (by omega) (by omega))
  · obtain ⟨k1, k2, k3⟩ := hK j hj
    rw [e1 _ _ (by omega) (by omega), e2 _ _ (by omega), show kp8 M' a j = kp8 M a j from funext fun i => e2 _ _ (by omega)]
    exact ⟨k1, k2, fun h => g8_same (k3 h) (fun q k h1 h2 => e1 q k (by omega) (by omega))⟩
theorem sr_mono (h : SR8 M a B) (hB : B ≤ B') : SR8 M a B' := by
  obtain ⟨hT, hP, ⟨A, d1, d2, o, d3, d4, d5, d6⟩, hK⟩ := h
  exact ⟨hT, g8_mono hP hB, ⟨A, d1, d2, o, d3, d4, d5, fun j hj => g8_mono (d6 j hj) hB⟩, fun j hj => ⟨(hK j hj).1, (hK j hj).2.1, fun h => g8_mono ((hK j hj).2.2 h) hB⟩⟩
/-! remembering, on the class's side -/
theorem rm_14 : ∀ s, s < 28 → rm9 (nI s) 14 = some (nI (s % 14)) := by decide +kernel
theorem hz_la15 {i : Nat} (hz : HZ8 z a) (hi : i < 14) : la9 z 15 (a + 44) (nI i) = some (a + 47 + 21 * i) := by
  rw [la_k hz.1.2.2.1 hi (by decide)]
  unfold el9
  rw [if_neg (by decide), if_pos rfl]
theorem hz_la16 {i : Nat} (hz : HZ8 z a) (hi : i < 2) : la9 z 16 (a + 45) (nI i) = some (a + 341 + 21 * i) := by
  rw [la_k hz.1.2.2.2.1 hi (by decide)]
  unfold el9
  rw [if_neg (by decide), if_neg (by decide), show a + 45 + 296 + 21 * i = a + 341 + 21 * i by omega]
/-- the class's cells but for the ring -/
def RC8 (a : Nat) (M M1 : Mem9) : Prop := ∀ q k, (q < a + 47 ∨ a + 341 ≤ q) → (q = a → k ≠ 5 ∧ k ≠ 6) → M1 q k = M q k
theorem x2_remember (hz : HZ8 z a) (hP : GR8 M (a + 2) Q B) (hA14 : A ≤ 14) (hD : DC8 M a A D B) : ∃ M1, f_X2_remember z a M = some (.inl none, M1) ∧ RC8 a M M1 ∧ DC8 M1 a (ra8 A) (rb8 A D Q) B := by
  obtain ⟨o, h1, h2, h3, h4⟩ := hD
  have ho := hz.1.1
  obtain ⟨i, hi, hi14⟩ : ∃ i, i = (o + A) % 14 ∧ i < 14 := ⟨_, rfl, by omega⟩
  have hrm : rm9 (nI o + nI A) 14 = some (nI i) := by rw [nI_add, rm_14 _ (by omega), hi]
  have hGi := hz.2.2.2.2.1 i hi14
  obtain ⟨M7, t7, f7, g7⟩ := x0_copy (M := M) hGi hz.2.2.1 (by omega) hP
  have e7 : ∀ k, M7 a k = M a k := fun k => f7 a k (by omega)
  have hw : ∀ k v, F8 M7 (wr9 M7 a k v) a 1 := fun k v => f8_w
  have hkeep : ∀ j, j < 14 → j ≠ i → ∀ q, GR8 M (a + 47 + 21 * j) q B → ∀ k v, GR8 (wr9 M7 a k v) (a + 47 + 21 * j) q B := fun j hj hn q h k v => g8_out (g8_out h f7 (by omega)) (hw k v) (by omega)
  have hnew : ∀ k v, GR8 (wr9 M7 a k v) (a + 47 + 21 * i) Q B := fun k v => g8_out g7 (hw k v) (by omega)
  by_cases h14 : A = 14
  · subst h14
    have hio : i = o := by omega
    refine ⟨wr9 M7 a 5 (nI ((o + 1) % 14)), ?_, fun q k hq hk => ?_, (o + 1) % 14, by omega, wr_eq, ?_, fun j hj => ?_⟩
    · unfold f_X2_remember
      rw [rf_k ho, sb_k, gf_k ho, sb_k, gf_k ho, sb_k, h2, h3, hrm, sb_k, hz_la15 hz hi14, sb_k, rf_k ho, sb_k, iv_k hGi.1, t7, bv_k, gf_k ho, sb_k, e7, h3, if_pos (show (14 : Int32) ≤ nI 14 by decide), gf_k ho, sb_k, e7, h2, nI_1, rm_14 _ (by omega), sb_k, pf_k ho, sb_k]
      rfl
    · by_cases e : q = a
      · rw [e, wr_nk (hk e).1, e7]
      · rw [wr_na e, f7 q k (by omega)]
    · rw [wr_nk (by decide), e7]; exact h3
    · have hj14 : j < 14 := hj
      unfold rb8
      rw [if_pos rfl]
      by_cases e : j = 13
      · rw [if_pos e, show ((o + 1) % 14 + j) % 14 = i by omega]
        exact hnew _ _
      · rw [if_neg e, show ((o + 1) % 14 + j) % 14 = (o + (j + 1)) % 14 by omega]
        exact hkeep _ (by omega) (by omega) _ (h4 (j + 1) (by omega)) _ _
  · refine ⟨wr9 M7 a 6 (nI A + 1), ?_, fun q k hq hk => ?_, o, h1, ?_, ?_, fun j hj => ?_⟩
    · unfold f_X2_remember
      rw [rf_k ho, sb_k, gf_k ho, sb_k, gf_k ho, sb_k, h2, h3, hrm, sb_k, hz_la15 hz hi14, sb_k, rf_k ho, sb_k, iv_k hGi.1, t7, bv_k, gf_k ho, sb_k, e7, h3, if_neg (show ¬ (14 : Int32) ≤ nI A from nI_ge (b := 14) (by omega) (by decide)), sb_k, pf_k ho, sb_k]
      rfl
    · by_cases e : q = a
      · rw [e, wr_nk (hk e).2, e7]
      · rw [wr_na e, f7 q k (by omega)]
    · rw [wr_nk (by decide), e7]; exact h2
    · rw [wr_eq, nI_1]
      unfold ra8
      rw [if_neg h14]
    · have hj14 : j < A + 1 := by unfold ra8 at hj; rw [if_neg h14] at hj; exact hj
      unfold rb8
      rw [if_neg h14]
      by_cases e : j = A
      · rw [if_pos e, show (o + j) % 14 = i by rw [e]; omega]
        exact hnew _ _
      · rw [if_neg e]
        exact hkeep _ (by omega) (by omega) _ (h4 j (by omega)) _ _
/-- an action, on both sides -/
theorem sr_act (h : SR8 M a B) (hA : M (a + 383) 6 = nI A) (hA14 : A ≤ 14) (c1 : RC8 a M M1) (d1 : DC8 M1 a (ra8 A) (rb8 A (dy8 M a) (M (a + 385))) B) (f2 : F8 M1 M2 (a + 2) 21) (g2 : GR8 M2 (a + 2) Q' B') (hB : B ≤ B') (h4 : ∀ q k, q ≠ a + 391 → (q = a + 383 → k ≠ 0) → M4 q k = M2 q k) (h5 : ∀ q k, q ≠ a + 387 → (q = a + 383 → k ≠ 6) → M5 q k = M4 q k) (h56 : M5 (a + 383) 6 = nI (ra8 A)) (h57 : ∀ j i, j < ra8 A → i < 121 → M5 (a + 387) (121 * j + i) = rb8 A (fun j i => M4 (a + 387) (121 * j + i)) (M4 (a + 385)) j i) (n6 : N8 (a + 383) (a + 385) M5 M6) (e6 : M6 (a + 385) = Q') : SR8 M6 a B' := by
  obtain ⟨⟨T, t1, t2, t3, t4⟩, hP, -, hK⟩ := h
  have hra : ra8 A ≤ 14 := by unfold ra8; split <;> omega
  have s62 : ∀ q k, q ≠ a + 391 → q ≠ a + 387 → q ≠ a + 385 → q ≠ a + 390 → q ≠ a + 383 → M6 q k = M2 q k := fun q k e1 e2 e3 e4 e5 => by
    rw [n6 q k (by omega) (by omega) (fun e => absurd e e5), h5 q k e2 (fun e => absurd e e5), h4 q k e1 (fun e => absurd e e5)]
  have s61 : ∀ q k, (q < a + 2 ∨ a + 23 ≤ q) → q ≠ a + 391 → q ≠ a + 387 → q ≠ a + 385 → q ≠ a + 390 → q ≠ a + 383 → M6 q k = M1 q k := fun q k e0 e1 e2 e3 e4 e5 => by
    rw [s62 q k e1 e2 e3 e4 e5, f2 q k (by omega)]
  have s6 : ∀ q k, (q < a + 2 ∨ (a + 23 ≤ q ∧ q < a + 47) ∨ a + 341 ≤ q) → q ≠ a + 391 → q ≠ a + 387 → q ≠ a + 385 → q ≠ a + 390 → q ≠ a + 383 → (q = a → k ≠ 5 ∧ k ≠ 6) → M6 q k = M q k := fun q k e0 e1 e2 e3 e4 e5 e6 => by
    rw [s61 q k (by omega) e1 e2 e3 e4 e5, c1 q k (by omega) e6]
  have s4 : ∀ q k, (q = a + 387 ∨ q = a + 385) → M4 q k = M q k := fun q k e => by
    rw [h4 q k (by omega) (fun _ => by omega), f2 q k (by omega), c1 q k (by omega) (fun _ => by omega)]
  refine ⟨⟨T, t1, ?_, ?_, fun i hi => ?_⟩, ?_, ⟨ra8 A, hra, ?_, ?_⟩, fun j hj => ?_⟩
  · rw [s6 _ _ (by omega) (by omega) (by omega) (by omega) (by omega) (by omega) (fun _ => by omega)]; exact t2
  · rw [n6 _ _ (by omega) (by omega) (fun _ => by omega), h5 _ _ (by omega) (fun _ => by omega), h4 _ _ (by omega) (fun _ => by omega), f2 _ _ (by omega), c1 _ _ (by omega) (fun _ => by omega)]; exact t3
  · rw [s6 _ _ (by omega) (by omega) (by omega) (by omega) (by omega) (by omega) (fun _ => by omega), s6 _ _ (by omega) (by omega) (by omega) (by omega) (by omega) (by omega) (fun _ => by omega)]; exact t4 i hi
  · rw [e6]
    exact g8_same g2 (fun q k h1 h2 => s62 q k (by omega) (by omega) (by omega) (by omega) (by omega))
  · rw [n6 _ _ (by omega) (by omega) (fun _ => by omega)]; exact h56
  · obtain ⟨o, d3, d4, d5, d6⟩ := d1
    refine ⟨o, d3, ?_, ?_, fun j hj => ?_⟩
    · rw [s61 _ _ (by omega) (by omega) (by omega) (by omega) (by omega) (by omega)]; exact d4
    · rw [s61 _ _ (by omega) (by omega) (by omega) (by omega) (by omega) (by omega)]; exact d5
    · refine g8_mono (g8_row (g8_same (d6 j hj) (fun q k h1 h2 => s61 q k (by omega) (by omega) (by omega) (by omega) (by omega) (by omega))) (fun i hi => ?_)) hB
      show M6 (a + 387) (121 * j + i) = _
      rw [n6 _ _ (by omega) (by omega) (fun _ => by omega), h57 j i hj hi]
      have e1 : (fun j i => M4 (a + 387) (121 * j + i)) = dy8 M a := by
        funext j i
        exact s4 _ _ (by omega)
      have e2 : M4 (a + 385) = M (a + 385) := funext fun k => s4 _ _ (by omega)
      rw [e1, e2]
  · obtain ⟨k1, k2, k3⟩ := hK j hj
    have ek : kp8 M6 a j = kp8 M a j := funext fun i => s6 _ _ (by omega) (by omega) (by omega) (by omega) (by omega) (by omega) (fun _ => by omega)
    rw [s6 (a + 46) _ (by omega) (by omega) (by omega) (by omega) (by omega) (by omega) (fun _ => by omega), s6 (a + 389) _ (by omega) (by omega) (by omega) (by omega) (by omega) (by omega) (fun _ => by omega), ek]
    exact ⟨k1, k2, fun h => g8_mono (g8_same (k3 h) (fun q k h1 h2 => s6 q k (by omega) (by omega) (by omega) (by omega) (by omega) (by omega) (fun _ => by omega))) hB⟩
/-- the start -/
theorem sr_0 : SR8 (mem9 a) a 0 := by
  have e0 : ∀ q k, q < a + 2 ∨ (a + 44 ≤ q ∧ q < a + 47) ∨ (a + 383 ≤ q ∧ q ≠ a + 385) → mem9 a q k = 0 := fun q k hq => by
    unfold mem9
    rw [wr_na (by omega), wr_na (by omega), wr_na (by omega), gms9_ne gates9 (fun o ho => by
      rcases List.mem_cons.mp ho with rfl | ho
      · omega
      · have h2 : 23 ≤ o ∧ (o = 23 ∨ 47 ≤ o) ∧ o + 21 ≤ 383 := by
          have : ∀ o ∈ ([23, 47, 68, 89, 110, 131, 152, 173, 194, 215, 236, 257, 278, 299, 320, 341, 362] : List Nat), 23 ≤ o ∧ (o = 23 ∨ 47 ≤ o) ∧ o + 21 ≤ 383 := by decide
          exact this o ho
        omega)]
  have e2 : ∀ q k, a + 2 ≤ q → q < a + 23 → mem9 a q k = gm9 (fun _ _ => 0) (a + 2) q k := fun q k h1 h2 => by
    unfold mem9
    rw [wr_na (by omega), wr_na (by omega), wr_na (by omega)]
    show gms9 a (gm9 (fun _ _ => 0) (a + 2)) [23, 47, 68, 89, 110, 131, 152, 173, 194, 215, 236, 257, 278, 299, 320, 341, 362] q k = _
    rw [gms9_ne [23, 47, 68, 89, 110, 131, 152, 173, 194, 215, 236, 257, 278, 299, 320, 341, 362] (fun o ho => by
      have h3 : 23 ≤ o := by
        have : ∀ o ∈ ([23, 47, 68, 89, 110, 131, 152, 173, 194, 215, 236, 257, 278, 299, 320, 341, 362] : List Nat), 23 ≤ o := by decide
        exact this o ho
      omega)]
  have er : ∀ k, mem9 a (a + 385) k = if k = 9 then 2 else if k = 8 then 12 else if k = 7 then 3 else 0 := fun k => by
    have e3 : gms9 a (fun _ _ => 0) gates9 (a + 385) k = 0 := by
      rw [gms9_ne gates9 (fun o ho => by
        have : ∀ o ∈ gates9, o + 21 ≤ 383 := by decide
        have := this o ho
        omega)]
    unfold mem9
    by_cases h9 : k = 9
    · rw [h9, wr_eq, if_pos rfl]
    · rw [wr_nk h9, if_neg h9]
      by_cases h8 : k = 8
      · rw [h8, wr_eq, if_pos rfl]
      · rw [wr_nk h8, if_neg h8]
        by_cases h7 : k = 7
        · rw [h7, wr_eq, if_pos rfl]
        · rw [wr_nk h7, if_neg h7, e3]
  have ek : kn8 (mem9 a (a + 385)) = 0 := kn_of (n := 0) (er 0) (by omega)
  have eg : ∀ q k, q ≠ a + 4 → q ≠ a + 5 → q ≠ a + 11 → q ≠ a + 17 → a + 2 ≤ q → q < a + 23 → mem9 a q k = 0 := fun q k h1 h2 h3 h4 h5 h6 => by
    rw [e2 q k h5 h6, gm9_at (by omega) (by omega) (by omega) (by omega)]
  have eln : ∀ l k, l < 3 → k ≠ 8 → mem9 a (a + 2 + 3 + 6 * l) k = 0 := fun l k hl hk => by
    rw [e2 _ _ (by omega) (by omega)]
    unfold gm9
    rw [wr_na (by omega), wr_na (by omega), wr_na (by omega)]
    rcases (show l = 0 ∨ l = 1 ∨ l = 2 by omega) with rfl | rfl | rfl
    · rw [wr_na (by omega), wr_na (by omega), wr_nk hk]
    · rw [wr_na (by omega), wr_nk hk, wr_na (by omega)]
    · rw [wr_nk hk, wr_na (by omega), wr_na (by omega)]
  have es : ∀ i, i < 3 → mem9 a (a + 2 + 2) i = mem9 a (a + 385) (7 + i) := fun i hi => by
    rw [e2 _ _ (by omega) (by omega), er]
    unfold gm9
    rcases (show i = 0 ∨ i = 1 ∨ i = 2 by omega) with rfl | rfl | rfl
    · rw [wr_nk (by decide), wr_nk (by decide), wr_eq]; rfl
    · rw [wr_nk (by decide), wr_eq]; rfl
    · rw [wr_eq]; rfl
  refine ⟨⟨0, by omega, e0 _ _ (by omega), e0 _ _ (by omega), fun i hi => by omega⟩, ⟨?_, ri_mk (n := 0) (cs := fun _ => 0) (er 0) (by omega) ⟨2, by omega, er 9⟩ (fun l hl => by omega), ?_, es, fun l hl => ?_, fun l hl => by omega, fun l hl => by omega, fun i hi => ?_⟩, ⟨0, by omega, e0 _ _ (by omega), 0, by omega, e0 _ _ (by omega), e0 _ _ (by omega), fun j hj => by omega⟩, fun j hj => ⟨?_, ?_, fun h => ?_⟩⟩
  · rw [eg _ _ (by omega) (by omega) (by omega) (by omega) (by omega) (by omega), er]; rfl
  · rw [eg _ _ (by omega) (by omega) (by omega) (by omega) (by omega) (by omega), er]; rfl
  · refine ⟨fun k hk => ?_, Or.inl (eln l 10 hl (by omega)), Or.inl (eln l 11 hl (by omega))⟩
    rw [vc_lo, vc_fo, vc_le, eg _ _ (by omega) (by omega) (by omega) (by omega) (by omega) (by omega), eg _ _ (by omega) (by omega) (by omega) (by omega) (by omega) (by omega), eg _ _ (by omega) (by omega) (by omega) (by omega) (by omega) (by omega)]
    exact ⟨Or.inl rfl, Or.inl rfl, Or.inl rfl⟩
  · rw [ek, er, if_neg (by omega), if_neg (by omega), if_neg (by omega)]
    rfl
  · rw [e0 _ _ (by omega), e0 _ _ (by omega)]
  · exact Or.inl (e0 _ _ (by omega))
  · rw [e0 _ _ (by omega)] at h
    exact absurd h (by decide)
end RJ
