section QJ
variable {z : Sh9} {x l c : Nat} {M : Mem9} {R p r : Nat → Int32}
theorem em_arriveOn {len lost fol : Int32} (hx : RW9 z x 10 121) (hl : l < 3) (hc : p 0 = nI c) (h6 : c < 6) (hlo : b9 lost) (hfo : b9 fol) : f_X3_arriveOn z x (nI l) len lost fol (pu_R M x (pu_S R l p)) = some (.inl (some (.int (nI c + 1))), pu_R M x (pu_S R l (ad9' c len lost fol p))) := by
  have e103 : ∀ (v : Int32) (q : Nat → Int32), f_X3_arriveOn_b103 z x (nI l) (nI c) v (nI (7 + 5 * c + 3)) (nI l) x (pu_R M x (pu_S R l q)) = some (.inl (some (.int (nI c + 1))), pu_R M x (pu_S R l (pu_u (pu_u (pu_u q (7 + 5 * c + 3) v) (7 + 5 * c + 4) 0) 0 (nI c + 1)))) := by
    intro v q
    unfold f_X3_arriveOn_b103
    rw [em_lay hx hl (by omega), bv_k, em_place4, bi_k, em_lay hx hl (by omega), bv_k, em_lay0 hx hl, bv_k]
    rfl
  have e82 : ∀ (v : Int32) (q : Nat → Int32), f_X3_arriveOn_b82 z x (nI l) fol (nI c) v (nI (7 + 5 * c + 2)) (nI l) x (pu_R M x (pu_S R l q)) = some (.inl (some (.int (nI c + 1))), pu_R M x (pu_S R l (pu_u (pu_u (pu_u (pu_u q (7 + 5 * c + 2) v) (7 + 5 * c + 3) fol) (7 + 5 * c + 4) 0) 0 (nI c + 1)))) := by
    intro v q
    unfold f_X3_arriveOn_b82
    rw [em_lay hx hl (by omega), bv_k, em_place3, bi_k]
    rcases hfo with h | h
    · subst h
      rw [if_pos rfl, e103]
    · subst h
      rw [if_neg (by decide), e103]
  have e62 : ∀ (v : Int32) (q : Nat → Int32), f_X3_arriveOn_b62 z x (nI l) lost fol (nI c) v (nI (7 + 5 * c + 1)) (nI l) x (pu_R M x (pu_S R l q)) = some (.inl (some (.int (nI c + 1))), pu_R M x (pu_S R l (pu_u (pu_u (pu_u (pu_u (pu_u q (7 + 5 * c + 1) v) (7 + 5 * c + 2) lost) (7 + 5 * c + 3) fol) (7 + 5 * c + 4) 0) 0 (nI c + 1)))) := by
    intro v q
    unfold f_X3_arriveOn_b62
    rw [em_lay hx hl (by omega), bv_k, em_place2, bi_k]
    rcases hlo with h | h
    · subst h
      rw [if_pos rfl, e82]
    · subst h
      rw [if_neg (by decide), e82]
  have e28 : ∀ v : Int32, f_X3_arriveOn_b28 z x (nI l) len lost fol (nI c) v (pu_R M x (pu_S R l p)) = some (.inl (some (.int (nI c + 1))), pu_R M x (pu_S R l (pu_u (pu_u (pu_u (pu_u (pu_u (pu_u p (7 + 5 * c + 0) len) (7 + 5 * c + 1) (if -1 ≤ v then -1 else v)) (7 + 5 * c + 2) lost) (7 + 5 * c + 3) fol) (7 + 5 * c + 4) 0) 0 (nI c + 1)))) := by
    intro v
    unfold f_X3_arriveOn_b28
    rw [em_place0, bi_k, em_lay hx hl (by omega), bv_k, em_place1, bi_k]
    by_cases q : (-1 : Int32) ≤ v
    · rw [if_pos q, if_pos q, e62]
    · rw [if_neg q, if_neg q, e62]
  unfold f_X3_arriveOn
  rw [em_of0 hx hl, bi_k, hc]
  unfold ad9' nf9
  rw [hc]
  by_cases q : c = 0
  · rw [if_pos (show nI c = 0 by rw [q]; rfl), e28, if_pos q, if_pos (show (-1 : Int32) ≤ -1 by decide)]
  · obtain ⟨j, rfl⟩ : ∃ j, c = j + 1 := ⟨c - 1, by omega⟩
    rw [if_neg (nI_ne0 (by omega) (by omega)), nI_pred, em_last hx hl (by omega), bi_k, e28, if_neg q, Nat.add_sub_cancel]
    have e : (if (-1 : Int32) ≤ la9' p j - 2 then (-1 : Int32) else la9' p j - 2) = (if la9' p j - 2 < -1 then la9' p j - 2 else -1) := by
      by_cases w : la9' p j - 2 < -1
      · rw [if_pos w, if_neg (by rw [i32_le]; rw [i32_lt] at w; omega)]
      · rw [if_neg w, if_pos (by rw [i32_le]; rw [i32_lt] at w; omega)]
    rw [e]
theorem A_ad {len lost fol : Int32} (h : pu_A p r c) : pu_A (ad9' c len lost fol p) (ad9' c len lost fol r) (c + 1) := by
  have en : nf9 c p = nf9 c r := by
    unfold nf9
    by_cases q : c = 0
    · rw [if_pos q, if_pos q]
    · rw [if_neg q, if_neg q, A_la h (by omega)]
  intro j hj
  unfold ad9'
  rw [en, h 0 (by omega)]
  unfold pu_u
  by_cases e0 : j = 0
  · rw [if_pos e0, if_pos e0]
  · rw [if_neg e0, if_neg e0]
    by_cases e4 : j = 7 + 5 * c + 4
    · rw [if_pos e4, if_pos e4]
    · rw [if_neg e4, if_neg e4]
      by_cases e3 : j = 7 + 5 * c + 3
      · rw [if_pos e3, if_pos e3]
      · rw [if_neg e3, if_neg e3]
        by_cases e2 : j = 7 + 5 * c + 2
        · rw [if_pos e2, if_pos e2]
        · rw [if_neg e2, if_neg e2]
          by_cases e1 : j = 7 + 5 * c + 1
          · rw [if_pos e1, if_pos e1]
          · rw [if_neg e1, if_neg e1]
            by_cases e : j = 7 + 5 * c + 0
            · rw [if_pos e, if_pos e]
            · rw [if_neg e, if_neg e]
              exact h j (by omega)
end QJ
