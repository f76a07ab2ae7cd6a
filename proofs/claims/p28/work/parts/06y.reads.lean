section RF
variable {z : Sh9} {M M' : Mem9} {g g' b b' n c B l : Nat} {Q p r s : Nat → Int32}
theorem x1_hasVehicle {y : Int32} (hL : pu_L z b) (hc : vc9 M b 0 = nI c) (h6 : c ≤ 6) : f_X1_hasVehicle z b y M = some (.inl (some (.int (if 0 ≤ y.toInt ∧ y.toInt < (c : Int) then 1 else 0))), M) := by
  have e5 : M b 5 = nI c := hc
  have i6 : (6 : Int32).toInt = 6 := by decide
  unfold f_X1_hasVehicle
  by_cases h1 : y < 0
  · rw [if_pos h1, rz_0, if_neg (by rw [i32_lt, i32_0] at h1; omega)]
  · rw [if_neg h1, gf_k hL.1, sb_k, e5]
    rw [i32_lt, i32_0] at h1
    by_cases h3 : nI c ≤ y
    · rw [if_pos h3, rz_0, if_neg (by rw [i32_le, nI_toInt (by omega)] at h3; omega)]
    · rw [if_neg h3]
      rw [i32_le, nI_toInt (by omega)] at h3
      rw [if_neg (by rw [i32_le, i6]; omega), rz_1, if_pos (by omega)]
theorem x1_has1 {k : Nat} (hL : pu_L z b) (hc : vc9 M b 0 = nI c) (h6 : c ≤ 6) (hk : k < c) : f_X1_hasVehicle z b (nI k) M = some (.inl (some (.int 1)), M) := by
  rw [x1_hasVehicle hL hc h6, if_pos (by rw [nI_toInt (by omega)]; omega)]
theorem x1_has0 {y : Int32} (hL : pu_L z b) (hc : vc9 M b 0 = nI c) (h6 : c ≤ 6) (hy : ¬ (0 ≤ y.toInt ∧ y.toInt < (c : Int))) : f_X1_hasVehicle z b y M = some (.inl (some (.int 0)), M) := by
  rw [x1_hasVehicle hL hc h6, if_neg hy]
/-- the vehicles that wait -/
def cu8 (p : Nat → Int32) (c : Nat) : Int32 := SM8 (fun k => if le9' p k = 0 ∧ ¬ 19 < fr9 p k then 1 else 0) c
theorem cu_cong (h : pu_A p r c) : cu8 p c = cu8 r c := sm_cong (fun k hk => by rw [A_le h hk, A_fr h hk])
theorem ev_X1_countUnlet (hL : pu_L z b) (hc : r 0 = nI c) (h6 : c ≤ 6) : f_X1_countUnlet z b (pu_W M b r s) = some (.inl (some (.int (cu8 r c))), pu_W M b r s) := by
  obtain ⟨h0, h1, h2, h3, h4, h5⟩ := id hL
  have hl : ∀ rem k m, k + rem = c → rem < m → fx9 (fun _ _ _ _ => none) (f_X1_countUnlet_b4 z) m b (cu8 r k) (nI k) (pu_W M b r s) = some (.inl (some (.int (cu8 r c))), pu_W M b r s) := by
    intro rem
    induction rem with
    | zero =>
      intro k m hk hm
      obtain ⟨m, rfl⟩ : ∃ q, m = q + 1 := ⟨m - 1, by omega⟩
      rw [fx_k]
      unfold f_X1_countUnlet_b4
      rw [gf_k h0, sb_k, pw_5, hc, if_pos (nI_le (by omega) (by omega)), show k = c by omega]
      rfl
    | succ rem ih =>
      intro k m hk hm
      obtain ⟨m, rfl⟩ : ∃ q, m = q + 1 := ⟨m - 1, by omega⟩
      have hk6 : k < 6 := by omega
      have hnext := ih (k + 1) m (by omega) (by omega)
      have es : cu8 r (k + 1) = cu8 r k + (if le9' r k = 0 ∧ ¬ 19 < fr9 r k then 1 else 0) := rfl
      rw [es] at hnext
      rw [fx_k]
      unfold f_X1_countUnlet_b4
      rw [gf_k h0, sb_k, pw_5, hc, if_neg (nI_ge (by omega) (by omega)), rf_k h0, sb_k, ld_k h5 hk6 (by decide), sb_k, pw_a5, nI_1]
      by_cases q : le9' r k = 0
      · rw [if_pos q, rf_k h0, sb_k, ld_k h2 hk6 (by decide), sb_k, pw_a2]
        by_cases q2 : 19 < fr9 r k
        · rw [if_neg (fun e => e.2 q2), Int32.add_zero] at hnext
          rw [if_pos q2]
          exact hnext
        · rw [if_pos ⟨q, q2⟩] at hnext
          rw [if_neg q2]
          exact hnext
      · rw [if_neg (fun e => q e.1), Int32.add_zero] at hnext
        rw [if_neg q]
        exact hnext
  exact hl c 0 FU9 (by omega) (fu_lt h6)
/-- what laneOf answers -/
def nu8 (Q : Nat → Int32) (l w : Nat) : Int32 := if w < 7 then pu_s Q l w else cu8 (pu_s Q l) (kc8 Q l)
theorem x1_number {w : Nat} (hG : G8 z g) (h : GR8 M g Q B) (hl : l < kn8 Q) (hw : w < 8) : f_X1_number z (g + 3 + 6 * l) (nI w) M = some (.inl (some (.int (nu8 Q l w))), M) := by
  obtain ⟨hI, hA, hB, hl3, hc0, -, -⟩ := g8_at h hl
  have hL := hG.2.2.2 l hl3
  have h0 := hL.1
  generalize hb : g + 3 + 6 * l = b at *
  unfold nu8
  rcases (show w = 0 ∨ w = 1 ∨ w = 2 ∨ w = 3 ∨ w = 4 ∨ w = 5 ∨ w = 6 ∨ w = 7 by omega) with rfl | rfl | rfl | rfl | rfl | rfl | rfl | rfl
  · have e : M b 5 = pu_s Q l 0 := (hA 0 (by omega)).symm
    unfold f_X1_number
    rw [if_pos (show (0 : Nat) < 7 by decide), if_pos (by decide), gf_k h0, sb_k, e]
    rfl
  · have e : M b 6 = pu_s Q l 1 := (hA 1 (by omega)).symm
    unfold f_X1_number
    rw [if_pos (show (1 : Nat) < 7 by decide), if_neg (by decide), if_pos (by decide), gf_k h0, sb_k, e]
    rfl
  · have e : M b 7 = pu_s Q l 2 := (hA 2 (by omega)).symm
    unfold f_X1_number
    rw [if_pos (show (2 : Nat) < 7 by decide), if_neg (by decide), if_neg (by decide), if_pos (by decide), gf_k h0, sb_k, e]
    rfl
  · have e : M b 8 = pu_s Q l 3 := (hA 3 (by omega)).symm
    unfold f_X1_number
    rw [if_pos (show (3 : Nat) < 7 by decide), if_neg (by decide), if_neg (by decide), if_neg (by decide), if_pos (by decide), gf_k h0, sb_k, e]
    rfl
  · have e : M b 10 = pu_s Q l 4 := (hA 4 (by omega)).symm
    unfold f_X1_number
    rw [if_pos (show (4 : Nat) < 7 by decide), if_neg (by decide), if_neg (by decide), if_neg (by decide), if_neg (by decide), if_pos (by decide), gf_k h0, sb_k, e]
    rcases hI.2.2.2.2.2.1 with q | q
    · rw [q, if_pos rfl]
      rfl
    · rw [q, if_neg (by decide)]
      rfl
  · have e : M b 11 = pu_s Q l 5 := (hA 5 (by omega)).symm
    unfold f_X1_number
    rw [if_pos (show (5 : Nat) < 7 by decide), if_neg (by decide), if_neg (by decide), if_neg (by decide), if_neg (by decide), if_neg (by decide), if_pos (by decide), gf_k h0, sb_k, e]
    rcases hI.2.2.2.2.2.2.1 with q | q
    · rw [q, if_pos rfl]
      rfl
    · rw [q, if_neg (by decide)]
      rfl
  · have e : M b 9 = pu_s Q l 6 := (hA 6 (by omega)).symm
    unfold f_X1_number
    rw [if_pos (show (6 : Nat) < 7 by decide), if_neg (by decide), if_neg (by decide), if_neg (by decide), if_neg (by decide), if_neg (by decide), if_neg (by decide), if_pos (by decide), gf_k h0, sb_k, e]
    rfl
  · have e := ev_X1_countUnlet (M := M) (r := vc9 M b) (s := pu_t M b) hL hc0 hI.2.1
    rw [pw_self, ← cu_cong hA] at e
    unfold f_X1_number
    rw [if_neg (show ¬ (7 : Nat) < 7 by decide), if_neg (by decide), if_neg (by decide), if_neg (by decide), if_neg (by decide), if_neg (by decide), if_neg (by decide), if_neg (by decide), iv_k h0, e, bi_k]
    rfl
theorem x1_why (hG : G8 z g) (h : GR8 M g Q B) (hl : l < kn8 Q) : f_X1_reason z (g + 3 + 6 * l) M = some (.inl (some (.int (rs9 (kc8 Q l) (pu_s Q l)))), M) := by
  obtain ⟨hI, hA, hB, hl3, hc0, -, -⟩ := g8_at h hl
  have e := ev_X1_reason (M := M) (r := vc9 M (g + 3 + 6 * l)) (s := pu_t M (g + 3 + 6 * l)) (hG.2.2.2 l hl3) hc0 hI.2.1
  rw [pw_self, ← A_rs hA] at e
  exact e
/-- what vehicle answers -/
theorem x1_vehicle {k w : Nat} (hG : G8 z g) (h : GR8 M g Q B) (hl : l < kn8 Q) (hk : k < kc8 Q l) (hw : w < 5) : f_X1_numberOfVehicle z (g + 3 + 6 * l) (nI k) (nI w) M = some (.inl (some (.int (pu_s Q l (7 + 5 * k + w)))), M) := by
  obtain ⟨hI, hA, hB, hl3, hc0, -, -⟩ := g8_at h hl
  have hL := hG.2.2.2 l hl3
  have h6 := hI.2.1
  obtain ⟨h0, h1, h2, h3, h4, h5⟩ := id hL
  obtain ⟨q1, q2, q3⟩ := hI.2.2.2.2.2.2.2.1 k hk
  generalize hb : g + 3 + 6 * l = b at *
  have hk6 : k < 6 := by omega
  have e : ∀ i, i < 5 → M (b + 1 + i) k = pu_s Q l (7 + 5 * k + i) := fun i hi => by
    exact (vc_v (M := M) (b := b) hi).symm.trans (hA _ (by omega)).symm
  unfold f_X1_numberOfVehicle
  rw [iv_k h0, x1_has1 hL hc0 h6 hk, bi_k, if_neg (by decide)]
  rcases (show w = 0 ∨ w = 1 ∨ w = 2 ∨ w = 3 ∨ w = 4 by omega) with rfl | rfl | rfl | rfl | rfl
  · have e2 : M (b + 1) k = pu_s Q l (7 + 5 * k + 0) := e 0 (by omega)
    rw [if_pos (by decide), rf_k h0, sb_k, ld_k h1 hk6 (by decide), sb_k, e2]
    rfl
  · have e2 : M (b + 2) k = pu_s Q l (7 + 5 * k + 1) := e 1 (by omega)
    rw [if_neg (by decide), if_pos (by decide), rf_k h0, sb_k, ld_k h2 hk6 (by decide), sb_k, e2]
    rfl
  · have e2 : M (b + 3) k = pu_s Q l (7 + 5 * k + 2) := e 2 (by omega)
    rw [if_neg (by decide), if_neg (by decide), if_pos (by decide), rf_k h0, sb_k, ld_k h3 hk6 (by decide), sb_k, e2]
    have q : b9 (pu_s Q l (7 + 5 * k + 2)) := q1
    rcases q with q | q
    · rw [q, if_pos rfl]
      rfl
    · rw [q, if_neg (by decide)]
      rfl
  · have e2 : M (b + 4) k = pu_s Q l (7 + 5 * k + 3) := e 3 (by omega)
    rw [if_neg (by decide), if_neg (by decide), if_neg (by decide), if_pos (by decide), rf_k h0, sb_k, ld_k h4 hk6 (by decide), sb_k, e2]
    have q : b9 (pu_s Q l (7 + 5 * k + 3)) := q2
    rcases q with q | q
    · rw [q, if_pos rfl]
      rfl
    · rw [q, if_neg (by decide)]
      rfl
  · have e2 : M (b + 5) k = pu_s Q l (7 + 5 * k + 4) := e 4 (by omega)
    rw [if_neg (by decide), if_neg (by decide), if_neg (by decide), if_neg (by decide), rf_k h0, sb_k, ld_k h5 hk6 (by decide), sb_k, e2]
    have q : b9 (pu_s Q l (7 + 5 * k + 4)) := q3
    rcases q with q | q
    · rw [q, if_pos rfl]
      rfl
    · rw [q, if_neg (by decide)]
      rfl
end RF
