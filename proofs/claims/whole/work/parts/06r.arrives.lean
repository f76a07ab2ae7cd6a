section QM
variable {z : Sh9} {x l c n : Nat} {M : Mem9} {R p : Nat → Int32}
theorem em_arr {len : Int32} (hx : RW9 z x 10 121) (h0 : R 0 = nI n) (hln : l < n) (hn : n ≤ 3) (hc : p 0 = nI c) (h6 : c ≤ 6) : f_X3_canArrive z x (nI l) len (pu_R M x (pu_S R l p)) = some (.inl (some (.int (if (2 ≤ len.toInt ∧ len.toInt ≤ 12) ∧ c < 6 then 1 else 0))), pu_R M x (pu_S R l p)) := by
  have hS : pu_S R l p 0 = nI n := (ps_h (by decide)).trans h0
  unfold f_X3_canArrive
  rw [em_isLane hx hS hn, bi_k, nI_toInt (by omega), if_pos (show 0 ≤ (l : Int) ∧ (l : Int) < (n : Int) by omega), if_neg (show ¬ (1 : Int32) = 0 by decide), em_isLength, bi_k]
  by_cases q : 2 ≤ len.toInt ∧ len.toInt ≤ 12
  · rw [if_pos q, if_neg (show ¬ (1 : Int32) = 0 by decide), em_of0 hx (by omega), bi_k, hc]
    by_cases q2 : c < 6
    · rw [if_neg (show ¬ (6 : Int32) ≤ nI c from nI_ge (b := 6) q2 (by decide)), rz_1, if_pos ⟨q, q2⟩]
    · rw [if_pos (show (6 : Int32) ≤ nI c from nI_le (a := 6) (by omega) (by omega)), rz_0, if_neg (fun e => q2 e.2)]
  · rw [if_neg q, if_pos (show (0 : Int32) = 0 from rfl), rz_0, if_neg (fun e => q e.1)]
theorem em_noarr {y len : Int32} (hx : RW9 z x 10 121) (h0 : R 0 = nI n) (hn : n ≤ 3) (hy : ¬ (0 ≤ y.toInt ∧ y.toInt < (n : Int))) : f_X3_canArrive z x y len (pu_R M x R) = some (.inl (some (.int 0)), pu_R M x R) := by
  unfold f_X3_canArrive
  rw [em_isLane hx h0 hn, bi_k, if_neg hy, if_pos (show (0 : Int32) = 0 from rfl), rz_0]
end QM
