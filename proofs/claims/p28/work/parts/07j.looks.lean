section RQ
variable {z : Sh9} {M M' M1 M2 M6 N N' : Mem9} {g x y x0 n c b sg B B' l a A gg : Nat} {Q Q' p r : Nat → Int32} {g0 g1 g2 : Int32}
theorem nI_sub {i j : Nat} (h : j ≤ i) : nI i - nI j = nI (i - j) := by
  obtain ⟨d, rfl⟩ : ∃ d, i = j + d := ⟨i - j, by omega⟩
  rw [Nat.add_sub_cancel_left, Nat.add_comm, ← nI_add, Int32.add_sub_cancel]
/-- the class's run on its copy, until a vehicle is through -/
theorem x2_cti {j : Nat} (hz : HZ8 z a) (g1 : GR8 M (a + 23) Q B) (hl : l < kn8 Q) (hj : j < kc8 Q l) : ∃ M', f_X2_copyThroughIn z a (nI l) (nI j) M = some (.inl (some (.int (lt8 (Q 7) (Q 8) (Q 9) 401 0 j (kc8 Q l) (pu_s Q l)))), M') ∧ F8 M M' (a + 23) 21 := by
  obtain ⟨hI, hA, -, hl3, -, -, -⟩ := g8_at g1 hl
  obtain ⟨hlc, hgg⟩ := g8_lc g1 hl
  obtain ⟨M2, t2, f2⟩ := xl_through hz hl3 hgg (w := M (a + 23 + 3 + 6 * l) 12 + nI j) 401 0 j FU9 M _ (by omega) (by unfold FU9; omega) hlc hj (by rw [Int32.add_comm, Int32.add_sub_cancel])
  rw [← lt_cong hgg _ _ _ _ _ _ hA hI hj] at t2
  refine ⟨M2, ?_, f2⟩
  unfold f_X2_copyThroughIn
  rw [hz_rC hz, sb_k, hz_rg (hz_C hz), sb_k, g8_la (hz_C hz) hl3, sb_k, gf_k ((hz_C hz).2.2.2 l hl3).1, sb_k, nm_k]
  exact t2
end RQ
