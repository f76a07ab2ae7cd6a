section RX
variable {z : Sh9} {M M' M1 M2 M6 N N' : Mem9} {g x y x0 n c b sg B B' l a A gg w h d2 d3 d4 d5 S : Nat} {Q Q' Q0 R p r : Nat → Int32} {g0 g1 g2 len : Int32}
/-! simulate -/
theorem sh_ok (y : Int64) : ∃ w, w < 2 ^ 31 ∧ Int64.toInt32 (UInt64.toInt64 (Int64.toUInt64 y >>> (Int64.toUInt64 (Int32.toInt64 (33 : Int32)) &&& Int64.toUInt64 63))) = nI w := by
  have e : ∀ u : UInt64, UInt64.toInt64 u = lN u.toNat := fun u => by
    apply Int64.toBitVec_inj.mp
    apply BitVec.eq_of_toNat_eq
    show u.toBitVec.toNat = (BitVec.ofNat 64 u.toNat).toNat
    rw [BitVec.toNat_ofNat]
    exact (Nat.mod_eq_of_lt u.toBitVec.isLt).symm
  refine ⟨(Int64.toUInt64 y >>> (Int64.toUInt64 (Int32.toInt64 (33 : Int32)) &&& Int64.toUInt64 63)).toNat, ?_, by rw [e, lN_i]⟩
  have e2 : (Int64.toUInt64 (Int32.toInt64 (33 : Int32)) &&& Int64.toUInt64 63) = 33 := by decide
  have h := (Int64.toUInt64 y).toNat_lt
  rw [e2, UInt64.toNat_shiftRight, Nat.shiftRight_eq_div_pow, show UInt64.toNat 33 % 64 = 33 from by decide]
  omega
/-- what simulate answers -/
def sv8 (Q' Q0 : Nat → Int32) : Int32 := 10000 * (Q' 5 - Q0 5) + 100 * (Q' 4 - Q0 4) + (if 99 < Q' 2 - Q0 2 then 99 else Q' 2 - Q0 2)
end RX
