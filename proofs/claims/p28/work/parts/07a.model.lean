section RH
variable {z : Sh9} {M M' M2 : Mem9} {g x x0 y0 n c B l : Nat} {Q p r s : Nat → Int32}
/-- the arms that are up in k ticks -/
def ur8 : Nat → (Nat → Int32) → Int32 → Int32
  | 0, _, v => v
  | k + 1, Q, v => ur8 k (tq8 Q) (v + au8 (tq8 Q))
theorem ri_qa {len lost fol : Int32} (hR : RI8 Q) (hl : l < kn8 Q) (h2 : 2 ≤ len.toInt) (h12 : len.toInt ≤ 12) (hc : kc8 Q l < 6) (hlo : b9 lost) (hfo : b9 fol) : RI8 (qa8 l len lost fol Q) := (ri_S hR hl (pI_ad (hR.2.2.2 l hl) hc h2 h12 hlo hfo)).1
theorem ri_qb {v : Int32} (hR : RI8 Q) (hl : l < kn8 Q) (hv : b9 v) : RI8 (qb8 l v Q) := (ri_S hR hl (pI_4 hv (hR.2.2.2 l hl))).1
theorem ri_qm (hR : RI8 Q) (hl : l < kn8 Q) : RI8 (qm8 l Q) := (ri_S hR hl (pI_5 (Or.inl rfl) (hR.2.2.2 l hl))).1
/-- a sum over a row's lanes -/
def rs8 (Q : Nat → Int32) (w : Nat) : Int32 := SM8 (fun l => pu_s Q l w) (kn8 Q)
end RH
