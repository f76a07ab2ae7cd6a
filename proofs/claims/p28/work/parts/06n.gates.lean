section QI
variable {z : Sh9} {b c : Nat} {M : Mem9} {r s : Nat → Int32}
/-- where a new vehicle's front is -/
def nf9 (c : Nat) (r : Nat → Int32) : Int32 := if c = 0 then -1 else if la9' r (c - 1) - 2 < -1 then la9' r (c - 1) - 2 else -1
/-- a row with one more vehicle -/
def ad9' (c : Nat) (len lost fol : Int32) (r : Nat → Int32) : Nat → Int32 := pu_u (pu_u (pu_u (pu_u (pu_u (pu_u r (7 + 5 * c + 0) len) (7 + 5 * c + 1) (nf9 c r)) (7 + 5 * c + 2) lost) (7 + 5 * c + 3) fol) (7 + 5 * c + 4) 0) 0 (r 0 + 1)
theorem ev_X1_addVehicle {len lost fol : Int32} (hL : pu_L z b) (hc : r 0 = nI c) (h6 : c < 6) (hlo : b9 lost) (hfo : b9 fol) : f_X1_addVehicle z b len lost fol (pu_W M b r s) = some (.inl (some (.int 1)), pu_W M b (ad9' c len lost fol r) s) := by
  obtain ⟨h0, h1, h2, h3, h4, h5⟩ := id hL
  have e57 : ∀ v, f_X1_addVehicle_b57 z b lost fol (nI c) v (nI c) (b + 2) (pu_W M b (pu_u r (7 + 5 * c + 0) len) s) = some (.inl (some (.int 1)), pu_W M b (pu_u (pu_u (pu_u (pu_u (pu_u (pu_u r (7 + 5 * c + 0) len) (7 + 5 * c + 1) v) (7 + 5 * c + 2) lost) (7 + 5 * c + 3) fol) (7 + 5 * c + 4) 0) 0 (r 0 + 1)) s) := by
    intro v
    have e : pu_u (pu_u (pu_u (pu_u (pu_u r (7 + 5 * c + 0) len) (7 + 5 * c + 1) v) (7 + 5 * c + 2) lost) (7 + 5 * c + 3) fol) (7 + 5 * c + 4) 0 0 = r 0 := by
      rw [pu_u_ne (by omega), pu_u_ne (by omega), pu_u_ne (by omega), pu_u_ne (by omega), pu_u_ne (by omega)]
    unfold f_X1_addVehicle_b57
    rw [st_k h2 h6 (by decide), sb_k, pw_w2, rf_k h0, sb_k, sz_k h3 h6 (by decide) hlo, sb_k, pw_w3, rf_k h0, sb_k, sz_k h4 h6 (by decide) hfo, sb_k, pw_w4, rf_k h0, sb_k, sz_k h5 h6 (by decide) (Or.inl rfl), sb_k, pw_w5, gf_k h0, sb_k, pw_5, e, pf_k h0, sb_k, pw_x5, rz_1]
  unfold f_X1_addVehicle
  rw [gf_k h0, sb_k, pw_5, hc, if_neg (nI_pos (by omega)), if_pos (show nI c < 6 from nI_lt (b := 6) h6 (by decide)), rf_k h0, sb_k, st_k h1 h6 (by decide), sb_k, pw_w1, rf_k h0, sb_k]
  unfold ad9' nf9
  by_cases q : c = 0
  · rw [if_pos (show nI c = 0 by rw [q]; rfl), e57, if_pos q]
  · obtain ⟨j, rfl⟩ : ∃ j, c = j + 1 := ⟨c - 1, by omega⟩
    have el : la9' (pu_u r (7 + 5 * (j + 1) + 0) len) j = la9' r j := by
      unfold la9' fr9 ln9
      rw [pu_u_ne (by omega), pu_u_ne (by omega)]
    rw [if_neg (nI_ne0 (by omega) (by omega)), nI_pred, iv_k h0, ev_X1_lastCell hL (by omega), bi_k, e57, if_neg q, el, Nat.add_sub_cancel]
theorem ev_X1_addFull {len lost fol : Int32} (hL : pu_L z b) (hc : r 0 = nI 6) : f_X1_addVehicle z b len lost fol (pu_W M b r s) = some (.inl (some (.int 0)), pu_W M b r s) := by
  obtain ⟨h0, h1, h2, h3, h4, h5⟩ := id hL
  unfold f_X1_addVehicle
  rw [gf_k h0, sb_k, pw_5, hc, if_neg (by decide), if_neg (by decide), rz_0]
theorem ev_X1_canBeMended (hL : pu_L z b) (hc : r 0 = nI c) (h6 : c ≤ 6) : f_X1_canBeMended z b (pu_W M b r s) = some (.inl (some (.int (if ¬ r 5 = 0 ∧ ¬ (fs9 (ua9 r) c 0).isSome = true then 1 else 0))), pu_W M b r s) := by
  obtain ⟨h0, -⟩ := id hL
  unfold f_X1_canBeMended
  rw [gf_k h0, sb_k, pw_11]
  by_cases q5 : r 5 = 0
  · rw [if_pos q5, rz_0, if_neg (show ¬ (¬ r 5 = 0 ∧ ¬ (fs9 (ua9 r) c 0).isSome = true) from fun e => e.1 q5)]
  · rw [if_neg q5, iv_k h0, ev_X1_isUnderArm hL hc h6, bi_k]
    by_cases q : (fs9 (ua9 r) c 0).isSome = true
    · rw [if_pos q, if_neg (show ¬ (1 : Int32) = 0 by decide), rz_0, if_neg (show ¬ (¬ r 5 = 0 ∧ ¬ (fs9 (ua9 r) c 0).isSome = true) from fun e => e.2 q)]
    · rw [if_neg q, if_pos (show (0 : Int32) = 0 from rfl), rz_1, if_pos (show ¬ r 5 = 0 ∧ ¬ (fs9 (ua9 r) c 0).isSome = true from ⟨q5, q⟩)]
end QI
