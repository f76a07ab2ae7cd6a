section RT
variable {z : Sh9} {M M' M1 M2 M6 N N' : Mem9} {g x y x0 n c b sg B B' l a A gg w h d2 d3 d4 d5 : Nat} {Q Q' R p r : Nat → Int32} {g0 g1 g2 len : Int32}
theorem dv_n {u d e : Nat} {D : Int32} (hD : D = nI d) (h0 : 0 < d) (hu : u < 2 ^ 31) (hd : d < 2 ^ 31) (he : u / d = e) : dv9 (nI u) D = some (nI e) := by
  subst hD
  unfold dv9
  rw [if_neg (nI_ne0 h0 hd), pk_div hu h0 hd, he]
theorem rm_n {u d e : Nat} {D : Int32} (hD : D = nI d) (h0 : 0 < d) (hu : u < 2 ^ 31) (hd : d < 2 ^ 31) (he : u % d = e) : rm9 (nI u) D = some (nI e) := by
  subst hD
  unfold rm9
  rw [if_neg (nI_ne0 h0 hd), pk_rem hu h0 hd, he]
theorem nI_n {i j : Nat} (h : ¬ i = j) (hi : i < 2 ^ 31) (hj : j < 2 ^ 31) : ¬ nI i = nI j := fun e => h ((nI_eq hi hj).mp e)

end RT
