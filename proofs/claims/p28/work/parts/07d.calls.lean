section RK
variable {z : Sh9} {M M' M1 M2 : Mem9} {g x y x0 n c B B' l a A : Nat} {Q : Nat → Int32}
theorem bh_k {v : Int32} {K : Int32 → Mem9 → Re9} {X : String → Mem9 → Re9} : bh9 (some (.inl (some (.int v)), M)) K X = K v M := rfl
theorem bh_r {E : String} {K : Int32 → Mem9 → Re9} {X : String → Mem9 → Re9} : bh9 (some (.inr E, M)) K X = X E M := rfl
theorem hz_P (hz : HZ8 z a) : G8 z (a + 2) := hz.2.2.1
theorem hz_C (hz : HZ8 z a) : G8 z (a + 23) := hz.2.2.2.1
theorem hz_rP (hz : HZ8 z a) : rf9 z a 2 2 = some (a + 2) := rf_k hz.1.1
theorem hz_rC (hz : HZ8 z a) : rf9 z a 2 23 = some (a + 23) := rf_k hz.1.1
theorem hz_rg (hG : G8 z g) : rf9 z g 0 1 = some (g + 1) := rf_k hG.1
/-! the class's checks -/
theorem x2_checkLane {y : Int32} (hz : HZ8 z a) (h : GR8 M (a + 2) Q B) (hy : 0 ≤ y.toInt ∧ y.toInt < (kn8 Q : Int)) : f_X2_checkLane z a y M = some (.inl none, M) := by
  unfold f_X2_checkLane
  rw [hz_rP hz, sb_k, iv_k (hz_P hz).1, x0_lane (hz_P hz) h, if_pos hy, bi_k, if_neg (by decide)]
  rfl
theorem x2_noLane {y : Int32} (hz : HZ8 z a) (h : GR8 M (a + 2) Q B) (hy : ¬ (0 ≤ y.toInt ∧ y.toInt < (kn8 Q : Int))) : f_X2_checkLane z a y M = some (.inr "java/lang/IndexOutOfBoundsException", M) := by
  unfold f_X2_checkLane
  rw [hz_rP hz, sb_k, iv_k (hz_P hz).1, x0_lane (hz_P hz) h, if_neg hy, bi_k, if_pos rfl]
  rfl
theorem bv_r {E : String} {K : Mem9 → Re9} : bv9 (some (.inr E, M)) K = some (.inr E, M) := rfl
theorem bi_r {E : String} {K : Int32 → Mem9 → Re9} : bi9 (some (.inr E, M)) K = some (.inr E, M) := rfl
theorem x2_length {y : Int32} (hy : 2 ≤ y.toInt ∧ y.toInt ≤ 12) : f_X2_checkLength z y M = some (.inl none, M) := by
  unfold f_X2_checkLength
  rw [if_neg (by rw [i32_lt, i32_2]; omega), if_pos (by rw [i32_le, i32_12]; omega)]
  rfl
theorem x2_noLength {y : Int32} (hy : ¬ (2 ≤ y.toInt ∧ y.toInt ≤ 12)) : f_X2_checkLength z y M = some (.inr "java/lang/IllegalArgumentException", M) := by
  unfold f_X2_checkLength
  by_cases h : y < 2
  · rw [if_pos h]
    rfl
  · rw [if_neg h, if_neg (by rw [i32_lt, i32_2] at h; rw [i32_le, i32_12]; omega)]
    rfl
theorem x2_checkVeh {y w : Int32} (hz : HZ8 z a) (h : GR8 M (a + 2) Q B) (hl : l < kn8 Q) (hy : y = nI l) (hw : 0 ≤ w.toInt ∧ w.toInt < (kc8 Q l : Int)) : f_X2_checkVehicle z a y w M = some (.inl none, M) := by
  subst hy
  obtain ⟨hI, hA, hB, hl3, hc0, -, -⟩ := g8_at h hl
  have hn := (g8_2 h).2
  unfold f_X2_checkVehicle
  rw [iv_k hz.1.1, x2_checkLane hz h (by rw [nI_toInt (by omega)]; omega), bv_k, hz_rP hz, sb_k, hz_rg (hz_P hz), sb_k, g8_la (hz_P hz) hl3, sb_k, iv_k ((hz_P hz).2.2.2 l hl3).1, x1_hasVehicle ((hz_P hz).2.2.2 l hl3) hc0 hI.2.1, if_pos hw, bi_k, if_neg (by decide)]
  rfl
theorem x2_noVeh {y w : Int32} (hz : HZ8 z a) (h : GR8 M (a + 2) Q B) (hno : ¬ ((0 ≤ y.toInt ∧ y.toInt < (kn8 Q : Int)) ∧ ∀ l, y = nI l → l < 3 → 0 ≤ w.toInt ∧ w.toInt < (kc8 Q l : Int))) : f_X2_checkVehicle z a y w M = some (.inr "java/lang/IndexOutOfBoundsException", M) := by
  unfold f_X2_checkVehicle
  by_cases hy : 0 ≤ y.toInt ∧ y.toInt < (kn8 Q : Int)
  · obtain ⟨l, hl, rfl⟩ := y_nat hy
    obtain ⟨hI, hA, hB, hl3, hc0, -, -⟩ := g8_at h hl
    have hn : ¬ (0 ≤ w.toInt ∧ w.toInt < (kc8 Q l : Int)) := fun e => hno ⟨hy, fun l' e' h3 => by
      have : l = l' := (nI_eq (by omega) (by omega)).mp e'
      rw [← this]; exact e⟩
    rw [iv_k hz.1.1, x2_checkLane hz h hy, bv_k, hz_rP hz, sb_k, hz_rg (hz_P hz), sb_k, g8_la (hz_P hz) hl3, sb_k, iv_k ((hz_P hz).2.2.2 l hl3).1, x1_hasVehicle ((hz_P hz).2.2.2 l hl3) hc0 hI.2.1, if_neg hn, bi_k, if_pos rfl]
    rfl
  · rw [iv_k hz.1.1, x2_noLane hz h hy, bv_r]
/-! numbers of the gate -/
def ab8 (Q : Nat → Int32) (w : Nat) : Int32 := if w = 2 then rs8 Q 0 else if w = 7 then rs8 Q 5 else if w = 8 then rs8 Q 4 else if w = 9 then Q 6 else Q (w - 1)
theorem x0_tot {w : Nat} (hG : G8 z g) (h : GR8 M g Q B) (hw : 2 ≤ w) (hw9 : w ≤ 9) : f_X0_total z g (nI w) M = some (.inl (some (.int (ab8 Q w))), M) := by
  obtain ⟨e2, hn⟩ := g8_2 h
  rw [x0_total hG e2 hn h.2.2.2.2.1 hw hw9]
  refine congrArg (fun v => some (Sum.inl (some (Value.int v)), M)) ?_
  have hT := h.2.2.2.2.2.2.2
  have hA : ∀ l j, l < kn8 Q → j < 7 → pu_s Q l j = vc9 M (g + 3 + 6 * l) j := fun l j hl hj => (g8_at h hl).2.1 j (by omega)
  unfold ab8
  rcases (show w = 2 ∨ w = 3 ∨ w = 4 ∨ w = 5 ∨ w = 6 ∨ w = 7 ∨ w = 8 ∨ w = 9 by omega) with rfl | rfl | rfl | rfl | rfl | rfl | rfl | rfl
  · rw [if_pos rfl]
    exact sm_cong (fun l hl => (hA l 0 hl (by omega)).symm)
  · rw [if_neg (by decide), if_neg (by decide), if_neg (by decide), if_neg (by decide)]
    exact (hT 0 (by omega)).symm
  · rw [if_neg (by decide), if_neg (by decide), if_neg (by decide), if_neg (by decide)]
    exact (hT 1 (by omega)).symm
  · rw [if_neg (by decide), if_neg (by decide), if_neg (by decide), if_neg (by decide)]
    exact (hT 2 (by omega)).symm
  · rw [if_neg (by decide), if_neg (by decide), if_neg (by decide), if_neg (by decide)]
    exact (hT 3 (by omega)).symm
  · rw [if_neg (by decide), if_pos rfl]
    exact sm_cong (fun l hl => (hA l 5 hl (by omega)).symm)
  · rw [if_neg (by decide), if_neg (by decide), if_pos rfl]
    exact sm_cong (fun l hl => (hA l 4 hl (by omega)).symm)
  · rw [if_neg (by decide), if_neg (by decide), if_neg (by decide), if_pos rfl]
    exact (hT 4 (by omega)).symm
end RK
