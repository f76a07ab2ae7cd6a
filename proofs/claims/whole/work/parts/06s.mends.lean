section QN
variable {z : Sh9} {x l c n : Nat} {M : Mem9} {R p : Nat → Int32}
theorem em_mend {y : Int32} (hx : RW9 z x 10 121) (h0 : R 0 = nI n) (hn : n ≤ 3) (hln : l < n) (hc : p 0 = nI c) (h6 : c ≤ 6) (hb : b9 (p 5)) (hy : y = nI l) : f_X3_canMend z x y (pu_R M x (pu_S R l p)) = some (.inl (some (.int (if ¬ p 5 = 0 ∧ ¬ (fs9 (ua9 p) c 0).isSome = true then 1 else 0))), pu_R M x (pu_S R l p)) := by
  subst hy
  have hS : pu_S R l p 0 = nI n := (ps_h (by decide)).trans h0
  unfold f_X3_canMend
  rw [em_isLane hx hS hn, bi_k, nI_toInt (by omega), if_pos (show 0 ≤ (l : Int) ∧ (l : Int) < (n : Int) by omega), if_neg (show ¬ (1 : Int32) = 0 by decide), em_of5 hx (by omega), bi_k]
  rcases hb with h | h
  · rw [h, if_neg (show ¬ (0 : Int32) = 1 by decide), rz_0, if_neg (fun e => e.1 rfl)]
  · rw [h, if_pos rfl, em_isCovered hx (by omega) hc h6, bi_k]
    by_cases q : (fs9 (ua9 p) c 0).isSome = true
    · rw [if_pos q, if_neg (show ¬ (1 : Int32) = 0 by decide), rz_0, if_neg (fun e => e.2 q)]
    · rw [if_neg q, if_pos (show (0 : Int32) = 0 from rfl), rz_1, if_pos ⟨by decide, q⟩]
end QN
