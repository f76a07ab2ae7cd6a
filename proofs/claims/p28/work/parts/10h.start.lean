section UH
variable {z : Sh9} {M M' N : Mem9} {a b o L I : Nat} {xs : Nat → Int32}
/-! the start -/
def Q0_8 : Nat → Int32 := fun k => if k = 9 then 2 else if k = 8 then 12 else if k = 7 then 3 else 0
def s0_8 : St8 := (Q0_8, 0, fun _ _ => 0, fun _ => 0, fun _ _ => 0)
theorem kn_0 : kn8 Q0_8 = 0 := kn_of (n := 0) rfl (by omega)
theorem ri_0 : RI8 Q0_8 := ri_mk (n := 0) (cs := fun _ => 0) rfl (by omega) ⟨2, by omega, rfl⟩ (fun l hl => by omega)
theorem rg_0 : RG8 Q0_8 0 := by
  refine ⟨ri_0, fun l hl => by rw [kn_0] at hl; omega, ⟨⟨3, by omega, rfl⟩, 12, by omega, rfl⟩, 0, 0, 0, 0, 0, by omega, rfl, ⟨rfl, rfl, rfl, rfl, ?_, ?_⟩, by omega, by omega⟩
  · unfold TH8
    rw [kn_0]
    rfl
  · unfold BR8
    rw [kn_0]
    exact Nat.le_refl _
/-- a new object's cells -/
theorem ob_0 (e0 : ∀ q k, q = b ∨ q = b + 46 → M q k = 0) (hN : ∀ q k, b + 2 ≤ q → q < b + 23 → N q k = 0) (e2 : ∀ q k, b + 2 ≤ q → q < b + 23 → M q k = gm9 N (b + 2) q k) : OB8 M b s0_8 0 := by
  have eg : ∀ q k, q ≠ b + 4 → q ≠ b + 5 → q ≠ b + 11 → q ≠ b + 17 → b + 2 ≤ q → q < b + 23 → M q k = 0 := fun q k h1 h2 h3 h4 h5 h6 => by
    rw [e2 q k h5 h6, gm9_at (by omega) (by omega) (by omega) (by omega), hN q k h5 h6]
  have eln : ∀ l k, l < 3 → k ≠ 8 → M (b + 2 + 3 + 6 * l) k = 0 := fun l k hl hk => by
    rw [e2 _ _ (by omega) (by omega)]
    unfold gm9
    rw [wr_na (by omega), wr_na (by omega), wr_na (by omega)]
    rcases (show l = 0 ∨ l = 1 ∨ l = 2 by omega) with rfl | rfl | rfl
    · rw [wr_na (by omega), wr_na (by omega), wr_nk hk, hN _ _ (by omega) (by omega)]
    · rw [wr_na (by omega), wr_nk hk, wr_na (by omega), hN _ _ (by omega) (by omega)]
    · rw [wr_nk hk, wr_na (by omega), wr_na (by omega), hN _ _ (by omega) (by omega)]
  have es : ∀ i, i < 3 → M (b + 2 + 2) i = Q0_8 (7 + i) := fun i hi => by
    rw [e2 _ _ (by omega) (by omega)]
    unfold gm9
    rcases (show i = 0 ∨ i = 1 ∨ i = 2 by omega) with rfl | rfl | rfl
    · rw [wr_nk (by decide), wr_nk (by decide), wr_eq]; rfl
    · rw [wr_nk (by decide), wr_eq]; rfl
    · rw [wr_eq]; rfl
  refine ⟨⟨?_, ri_0, ?_, es, fun l hl => ?_, fun l hl => ?_, fun l hl => ?_, fun i hi => ?_⟩, ⟨Nat.zero_le _, 0, by omega, e0 _ _ (Or.inl rfl), e0 _ _ (Or.inl rfl), fun j hj => absurd hj (Nat.not_lt_zero j)⟩, fun j hj => ⟨Or.inl rfl, e0 _ _ (Or.inr rfl), fun h => ?_⟩⟩
  · rw [eg _ _ (by omega) (by omega) (by omega) (by omega) (by omega) (by omega)]; rfl
  · rw [eg _ _ (by omega) (by omega) (by omega) (by omega) (by omega) (by omega)]; rfl
  · refine ⟨fun k hk => ?_, Or.inl (eln l 10 hl (by omega)), Or.inl (eln l 11 hl (by omega))⟩
    rw [vc_lo, vc_fo, vc_le, eg _ _ (by omega) (by omega) (by omega) (by omega) (by omega) (by omega), eg _ _ (by omega) (by omega) (by omega) (by omega) (by omega) (by omega), eg _ _ (by omega) (by omega) (by omega) (by omega) (by omega) (by omega)]
    exact ⟨Or.inl rfl, Or.inl rfl, Or.inl rfl⟩
  · have hl : l < kn8 Q0_8 := hl
    rw [kn_0] at hl
    omega
  · have hl : l < kn8 Q0_8 := hl
    rw [kn_0] at hl
    omega
  · show Q0_8 (2 + i) = SM8 _ (kn8 Q0_8)
    rw [kn_0]
    unfold Q0_8
    rw [if_neg (by omega), if_neg (by omega), if_neg (by omega)]
    rfl
  · have h : (0 : Int32) = 1 := h
    exact absurd h (by decide)
theorem mem_1 : OB8 (mem9 a) a s0_8 0 := by
  have f1 : ∀ q k, q < a + 383 → mem9 a q k = gms9 a (fun _ _ => 0) gates9_0 q k := fun q k hq => by
    unfold mem9
    rw [gms9_ne gates9_383 (fun o ho => by
      have : ∀ o ∈ gates9_383, 385 ≤ o := by decide
      have := this o ho
      omega)]
  refine ob_0 (N := fun _ _ => 0) (fun q k hq => ?_) (fun _ _ _ _ => rfl) (fun q k h1 h2 => ?_)
  · rw [f1 q k (by omega), gms9_ne gates9_0 (fun o ho => by
      have : ∀ o ∈ gates9_0, 2 ≤ o ∧ (o + 21 ≤ 46 ∨ 47 ≤ o) := by decide
      have := this o ho
      omega)]
  · rw [f1 q k (by omega)]
    show gms9 a (gm9 (fun _ _ => 0) (a + 2)) [23, 47, 68, 89, 110, 131, 152, 173, 194, 215, 236, 257, 278, 299, 320, 341, 362] q k = _
    rw [gms9_ne [23, 47, 68, 89, 110, 131, 152, 173, 194, 215, 236, 257, 278, 299, 320, 341, 362] (fun o ho => by
      have h3 : 23 ≤ o := by
        have : ∀ o ∈ ([23, 47, 68, 89, 110, 131, 152, 173, 194, 215, 236, 257, 278, 299, 320, 341, 362] : List Nat), 23 ≤ o := by decide
        exact this o ho
      omega)]
theorem mem_2 : OB8 (mem9 a) (a + 383) s0_8 0 := by
  have f0 : ∀ q k, a + 383 ≤ q → gms9 a (fun _ _ => 0) gates9_0 q k = 0 := fun q k hq => by
    rw [gms9_ne gates9_0 (fun o ho => by
      have : ∀ o ∈ gates9_0, o + 21 ≤ 383 := by decide
      have := this o ho
      omega)]
  refine ob_0 (N := gms9 a (fun _ _ => 0) gates9_0) (fun q k hq => ?_) (fun q k h1 h2 => f0 q k (by omega)) (fun q k h1 h2 => ?_)
  · unfold mem9
    rw [gms9_ne gates9_383 (fun o ho => by
      have : ∀ o ∈ gates9_383, 385 ≤ o ∧ (o + 21 ≤ 429 ∨ 430 ≤ o) := by decide
      have := this o ho
      omega), f0 q k (by omega)]
  · show gms9 a (gm9 (gms9 a (fun _ _ => 0) gates9_0) (a + 385)) [406, 430, 451, 472, 493, 514, 535, 556, 577, 598, 619, 640, 661, 682, 703, 724, 745] q k = gm9 (gms9 a (fun _ _ => 0) gates9_0) (a + 383 + 2) q k
    rw [gms9_ne [406, 430, 451, 472, 493, 514, 535, 556, 577, 598, 619, 640, 661, 682, 703, 724, 745] (fun o ho => by
      have h3 : 406 ≤ o := by
        have : ∀ o ∈ ([406, 430, 451, 472, 493, 514, 535, 556, 577, 598, 619, 640, 661, 682, 703, 724, 745] : List Nat), 406 ≤ o := by decide
        exact this o ho
      omega), show a + 383 + 2 = a + 385 by omega]
/-! the script's numbers -/
theorem and_nat (v : Int32) : ∃ X, X < 2 ^ 31 ∧ v &&& (2147483647 : Int32) = nI X := by
  refine ⟨(v.toBitVec &&& 2147483647#32).toNat, ?_, ?_⟩
  · rw [BitVec.toNat_and]
    exact Nat.lt_of_le_of_lt Nat.and_le_right (by decide)
  · apply Int32.toBitVec_inj.mp
    apply BitVec.eq_of_toNat_eq
    show (v.toBitVec &&& 2147483647#32).toNat = (BitVec.ofNat 32 (v.toBitVec &&& 2147483647#32).toNat).toNat
    rw [BitVec.toNat_ofNat, Nat.mod_eq_of_lt (v.toBitVec &&& 2147483647#32).isLt]
theorem cell_ok (hL : L ≤ 260) (hI : I ≤ 1000) : ∃ X, X < 2 ^ 31 ∧ ∀ M, f_L_cell z L xs (nI I) M = some (.inl (some (.int (nI X))), M) := by
  by_cases q : (Int32.ofNat L) ≤ nI I
  · obtain ⟨X, h1, h2⟩ := and_nat ((15519083 : Int32) * (nI I + 3) + 11273)
    refine ⟨X, h1, fun M => ?_⟩
    unfold f_L_cell f_L_cell_b0
    rw [if_pos q]
    unfold f_L_cell_b22
    rw [h2]
    rfl
  · obtain ⟨X, h1, h2⟩ := and_nat (xs (nI I).toNatClampNeg)
    refine ⟨X, h1, fun M => ?_⟩
    have q2 : I < L := by
      have e : (Int32.ofNat L) = nI L := rfl
      rw [e] at q
      rcases Nat.lt_or_ge I L with h | h
      · exact h
      · exact absurd (nI_le h (by omega)) q
    unfold f_L_cell f_L_cell_b0
    rw [if_neg q]
    unfold sx9
    rw [if_pos (by rw [nI_toInt (by omega)]; omega), sb_k]
    unfold f_L_cell_b22
    rw [h2]
    rfl
end UH
