section QJ
variable {z : Sh9} {x l c : Nat} {M : Mem9} {R p r : Nat → Int32}
theorem A_ad {len lost fol : Int32} (h : pu_A p r c) : pu_A (ad9' c len lost fol p) (ad9' c len lost fol r) (c + 1) := by
  have en : nf9 c p = nf9 c r := by
    unfold nf9
    by_cases q : c = 0
    · rw [if_pos q, if_pos q]
    · rw [if_neg q, if_neg q, A_la h (by omega)]
  intro j hj
  unfold ad9'
  rw [en, h 0 (by omega)]
  unfold pu_u
  by_cases e0 : j = 0
  · rw [if_pos e0, if_pos e0]
  · rw [if_neg e0, if_neg e0]
    by_cases e4 : j = 7 + 5 * c + 4
    · rw [if_pos e4, if_pos e4]
    · rw [if_neg e4, if_neg e4]
      by_cases e3 : j = 7 + 5 * c + 3
      · rw [if_pos e3, if_pos e3]
      · rw [if_neg e3, if_neg e3]
        by_cases e2 : j = 7 + 5 * c + 2
        · rw [if_pos e2, if_pos e2]
        · rw [if_neg e2, if_neg e2]
          by_cases e1 : j = 7 + 5 * c + 1
          · rw [if_pos e1, if_pos e1]
          · rw [if_neg e1, if_neg e1]
            by_cases e : j = 7 + 5 * c + 0
            · rw [if_pos e, if_pos e]
            · rw [if_neg e, if_neg e]
              exact h j (by omega)
end QJ
