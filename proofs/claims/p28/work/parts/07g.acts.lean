section RN
variable {z : Sh9} {M M' M1 M2 N : Mem9} {g x y x0 n c B B' l a A : Nat} {Q Q' : Nat → Int32}
theorem nm_k {α : Type} {e : α} {K : α → Re9} : nm9 e K = K e := rfl
theorem qa_kc {len lost fol : Int32} (hR : RI8 Q) (hl : l < kn8 Q) (h2 : 2 ≤ len.toInt) (h12 : len.toInt ≤ 12) (hc : kc8 Q l < 6) (hlo : b9 lost) (hfo : b9 fol) : kc8 (qa8 l len lost fol Q) l = kc8 Q l + 1 ∧ kn8 (qa8 l len lost fol Q) = kn8 Q := by
  have hI := pI_ad (hR.2.2.2 l hl) hc h2 h12 hlo hfo
  exact ⟨kc_of (pI_cong (fun j hj => ps_l hj) hI), (ri_S hR hl hI).2⟩
/-! run -/
theorem ab_4 : ab8 Q 4 = Q 3 := rfl
theorem ab_5 : ab8 Q 5 = Q 4 := rfl
end RN
