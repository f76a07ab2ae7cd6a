section RU
variable {z : Sh9} {M M' M1 M2 M6 N N' : Mem9} {g x y x0 n c b sg B B' l a A gg w h d2 d3 d4 d5 : Nat} {Q Q' R p r : Nat → Int32} {g0 g1 g2 len : Int32}
/-! who goes through in ticks -/
theorem tR_34 : ∃ d, d ≤ n ∧ tR9 p R n 3 + tR9 p R n 4 = R 3 + R 4 + nI d := by
  induction n with
  | zero => exact ⟨0, by omega, (Int32.add_zero _).symm⟩
  | succ n ih =>
    obtain ⟨d, d1, d2⟩ := ih
    rw [tR_s]
    by_cases q : la9' (th9 p n) n = 21
    · rw [if_pos q]
      by_cases q2 : le9' (th9 p n) n = 0
      · rw [if_pos q2, pu_u_ne (show 3 ≠ 4 by decide), pu_u_eq, ← Int32.add_assoc, d2, Int32.add_assoc, nI_1]
        exact ⟨d + 1, by omega, rfl⟩
      · rw [if_neg q2, pu_u_eq, pu_u_ne (show 4 ≠ 3 by decide), Int32.add_assoc (tR9 p R n 3) 1 (tR9 p R n 4), Int32.add_comm 1 (tR9 p R n 4), ← Int32.add_assoc (tR9 p R n 3), d2, Int32.add_assoc, nI_1]
        exact ⟨d + 1, by omega, rfl⟩
    · rw [if_neg q]
      exact ⟨d, by omega, d2⟩
theorem tl_34 : ∃ d, d ≤ c ∧ tl9 c l Q 3 + tl9 c l Q 4 = Q 3 + Q 4 + nI d := by
  have e : ∀ j, j < 10 → tl9 c l Q j = pR9 c (pu_s Q l) Q j := fun j hj => ps_h hj
  rw [e 3 (by omega), e 4 (by omega)]
  unfold pR9
  obtain ⟨d, d1, d2⟩ := tR_34 (p := hi9 (cc9 c (pu_s Q l)) (t3 (cc9 c (pu_s Q l)) (ct9 (cc9 c (pu_s Q l)) (Q 7) (Q 8) (Q 9) (mo9 c (pu_s Q l))))) (R := hR9 (cc9 c (pu_s Q l)) (t3 (cc9 c (pu_s Q l)) (ct9 (cc9 c (pu_s Q l)) (Q 7) (Q 8) (Q 9) (mo9 c (pu_s Q l)))) (cR9 (cc9 c (pu_s Q l)) (mo9 c (pu_s Q l)) (mR9 c (pu_s Q l) Q))) (n := cc9 c (pu_s Q l))
  refine ⟨d, Nat.le_trans d1 cc_le, ?_⟩
  rw [d2, hR_o (by decide), hR_o (by decide), cR_o (by decide), cR_o (by decide), mR_o (by decide), mR_o (by decide)]
theorem tF_34 {cs : Nat → Nat} : ∀ rem l Q, (∀ l', l ≤ l' → l' < l + rem → cs l' ≤ 6) → ∃ d, d ≤ 6 * rem ∧ tF9 cs rem l Q 3 + tF9 cs rem l Q 4 = Q 3 + Q 4 + nI d := by
  intro rem
  induction rem with
  | zero => intro l Q _; exact ⟨0, by omega, (Int32.add_zero _).symm⟩
  | succ rem ih =>
    intro l Q h
    obtain ⟨d, d1, d2⟩ := ih (l + 1) (tl9 (cs l) l Q) (fun l' h1 h2 => h l' (by omega) (by omega))
    obtain ⟨e, e1, e2⟩ := tl_34 (c := cs l) (l := l) (Q := Q)
    have h6 := h l (Nat.le_refl _) (by omega)
    refine ⟨e + d, by omega, ?_⟩
    show tF9 cs rem (l + 1) (tl9 (cs l) l Q) 3 + tF9 cs rem (l + 1) (tl9 (cs l) l Q) 4 = _
    rw [d2, e2, Int32.add_assoc, nI_add]
theorem rn_34 : ∀ k Q, RI8 Q → ∃ d, d ≤ 18 * k ∧ rn8 k Q 3 + rn8 k Q 4 = Q 3 + Q 4 + nI d := by
  intro k
  induction k with
  | zero => intro Q _; exact ⟨0, by omega, (Int32.add_zero _).symm⟩
  | succ k ih =>
    intro Q hR
    obtain ⟨d, d1, d2⟩ := ih (tq8 Q) (ri_tq hR)
    have hn := hR.2.1
    obtain ⟨e, e1, e2⟩ := tF_34 (cs := kc8 Q) (kn8 Q) 0 Q (fun l' _ h => (hR.2.2.2 l' (by omega)).2.1)
    refine ⟨e + d, by omega, ?_⟩
    show rn8 k (tq8 Q) 3 + rn8 k (tq8 Q) 4 = _
    have e3 : tq8 Q 3 = tF9 (kc8 Q) (kn8 Q) 0 Q 3 := pu_u_ne (by decide)
    have e4 : tq8 Q 4 = tF9 (kc8 Q) (kn8 Q) 0 Q 4 := pu_u_ne (by decide)
    rw [d2, e3, e4, e2, Int32.add_assoc, nI_add]
/-- a run answers no negative number -/
theorem rn_nn {k : Nat} (hk : k < 1000) (hR : RI8 Q) : ¬ rn8 k Q 3 + rn8 k Q 4 - (Q 3 + Q 4) < 0 := by
  obtain ⟨d, d1, d2⟩ := rn_34 k Q hR
  rw [d2, Int32.add_comm, Int32.add_sub_cancel]
  exact nI_pos (by omega)
theorem sm_b {f : Nat → Int32} (h : ∀ l, l < n → b9 (f l)) : ∃ d, d ≤ n ∧ SM8 f n = nI d ∧ ∀ l, l < n → f l = 1 → 1 ≤ d := by
  induction n with
  | zero => exact ⟨0, by omega, rfl, fun l hl => by omega⟩
  | succ n ih =>
    obtain ⟨d, d1, d2, d3⟩ := ih (fun l hl => h l (by omega))
    rw [sm_s, d2]
    rcases h n (by omega) with e | e
    · rw [e, Int32.add_zero]
      refine ⟨d, by omega, rfl, fun l hl h1 => ?_⟩
      by_cases q : l = n
      · rw [q, e] at h1; exact absurd h1 (by decide)
      · exact d3 l (by omega) h1
    · rw [e, nI_1]
      exact ⟨d + 1, by omega, rfl, fun _ _ _ => by omega⟩
/-- the broken loops, one more -/
theorem rs_b {v : Int32} (hR : RI8 Q) (hl : l < kn8 Q) (hv : b9 v) : (¬ rs8 (qb8 l v Q) 4 < 0) ∧ (v = 1 → ¬ rs8 (qb8 l v Q) 4 ≤ 0) := by
  have hn := hR.2.1
  have hR2 := ri_qb hR hl hv
  have hn2 : kn8 (qb8 l v Q) = kn8 Q := (ri_S hR hl (pI_4 hv (hR.2.2.2 l hl))).2
  obtain ⟨d, d1, d2, d3⟩ := sm_b (n := kn8 (qb8 l v Q)) (f := fun l' => pu_s (qb8 l v Q) l' 4) (fun l' hl' => (hR2.2.2.2 l' hl').2.2.2.2.2.1)
  have e : rs8 (qb8 l v Q) 4 = nI d := d2
  rw [e]
  refine ⟨nI_pos (by omega), fun h1 => ?_⟩
  have h2 := d3 l (by rw [hn2]; exact hl) (by
    show pu_s (qb8 l v Q) l 4 = 1
    exact ((ps_l (by decide)).trans pu_u_eq).trans h1)
  exact nI_nle (by omega) (by omega)
/-! both sides' tests -/
abbrev ca8 (Q : Nat → Int32) (l : Nat) (len : Int32) : Prop := l < kn8 Q ∧ (2 ≤ len.toInt ∧ len.toInt ≤ 12) ∧ kc8 Q l < 6
abbrev cm8 (Q : Nat → Int32) (l : Nat) : Prop := l < kn8 Q ∧ cb8 Q l
theorem in_l (hl : l < 1000) : (0 ≤ (nI l).toInt ∧ (nI l).toInt < (n : Int)) ↔ l < n := by
  rw [nI_toInt (by omega)]
  omega
theorem xa_no {lost fol : Int32} (hG : G8 z g) (h : GR8 M g Q B) (hl : l < 1000) (hno : ¬ ca8 Q l len) : f_X0_addVehicle z g (nI l) len lost fol M = some (.inl (some (.int 0)), M) := by
  refine x0_noV hG h (fun e => hno ?_)
  have h1 := (in_l hl).mp e.1
  exact ⟨h1, e.2.1, e.2.2 l rfl (by have := (g8_2 h).2; omega)⟩
theorem ma_can (hx : RW9 z x 10 121) (hN : N x = Q) (hQ : RI8 Q) (hl : l < 1000) : f_X3_canArrive z x (nI l) len N = some (.inl (some (.int (if ca8 Q l len then 1 else 0))), N) := by
  by_cases h1 : l < kn8 Q
  · rw [m_canArr hx (by rw [hN]; exact hQ) (by rw [hN]; exact h1), hN]
    by_cases h2 : (2 ≤ len.toInt ∧ len.toInt ≤ 12) ∧ kc8 Q l < 6
    · rw [if_pos h2, if_pos ⟨h1, h2⟩]
    · rw [if_neg h2, if_neg (fun e => h2 e.2)]
  · rw [m_noArr hx (by rw [hN]; exact hQ) (by rw [hN, in_l hl]; exact h1), if_neg (fun e => h1 e.1)]
theorem xm_no (hG : G8 z g) (h : GR8 M g Q B) (hl : l < 1000) (hno : ¬ cm8 Q l) : f_X0_mendArm z g (nI l) M = some (.inl (some (.int 0)), M) := by
  refine x0_nomend hG h (fun e => hno ?_)
  have h1 := (in_l hl).mp e.1
  exact ⟨h1, e.2 l rfl (by have := (g8_2 h).2; omega)⟩
theorem mm_can (hx : RW9 z x 10 121) (hN : N x = Q) (hQ : RI8 Q) (hl : l < 1000) : f_X3_canMend z x (nI l) N = some (.inl (some (.int (if cm8 Q l then 1 else 0))), N) := by
  by_cases h1 : l < kn8 Q
  · rw [m_canMend hx (by rw [hN]; exact hQ) (by rw [hN]; exact h1), hN]
    by_cases h2 : cb8 Q l
    · rw [if_pos h2, if_pos ⟨h1, h2⟩]
    · rw [if_neg h2, if_neg (fun e => h2 e.2)]
  · rw [m_noMend hx (by rw [hN]; exact hQ) (by rw [hN, in_l hl]; exact h1), if_neg (fun e => h1 e.1)]
theorem mx_lane (hx : RW9 z x 10 121) (hN : N x = Q) (hQ : RI8 Q) (hl : l < 1000) : f_X3_isLane z x (nI l) N = some (.inl (some (.int (if l < kn8 Q then 1 else 0))), N) := by
  have e := m_lane (M := N) (x := x) (y := nI l) hx (by rw [hN]; exact hQ)
  rw [hN] at e
  rw [e]
  by_cases h1 : l < kn8 Q
  · rw [if_pos ((in_l hl).mpr h1), if_pos h1]
  · rw [if_neg (fun q => h1 ((in_l hl).mp q)), if_neg h1]
theorem xx_lane (hG : G8 z g) (h : GR8 M g Q B) (hl : l < 1000) : f_X0_hasLane z g (nI l) M = some (.inl (some (.int (if l < kn8 Q then 1 else 0))), M) := by
  rw [x0_lane hG h]
  by_cases h1 : l < kn8 Q
  · rw [if_pos ((in_l hl).mpr h1), if_pos h1]
  · rw [if_neg (fun q => h1 ((in_l hl).mp q)), if_neg h1]
/-- a command on both sides -/
def JG8 (a : Nat) (Q : Nat → Int32) (fc fm : Mem9 → Re9) : Prop := ∃ (v : Int32) (Q' : Nat → Int32), RI8 Q' ∧ b9 v ∧ (∀ M B, GR8 M (a + 23) Q B → ∃ M', fc M = some (.inl (some (.int v)), M') ∧ F8 M M' (a + 23) 21 ∧ GR8 M' (a + 23) Q' (B + 180)) ∧ (∀ N, N (a + 386) = Q → ∃ N', fm N = some (.inl (some (.int v)), N') ∧ N8 (a + 383) (a + 386) N N' ∧ N' (a + 386) = Q')
theorem jg_v {fc fm : Mem9 → Re9} {v : Int32} (hQ : RI8 Q) (hv : b9 v) (h1 : ∀ M B, GR8 M (a + 23) Q B → fc M = some (.inl (some (.int v)), M)) (h2 : ∀ N, N (a + 386) = Q → fm N = some (.inl (some (.int v)), N)) : JG8 a Q fc fm := ⟨v, Q, hQ, hv, fun M B h => ⟨M, h1 M B h, f8_refl, g8_mono h (by omega)⟩, fun N h => ⟨N, h2 N h, n8_refl, h⟩⟩
theorem e_10 : (10 : Int32) * nI d3 + nI d4 = nI (10 * d3 + d4) := by
  rw [show (10 : Int32) = nI 10 from rfl, nI_mul, nI_add]
theorem b_d (h : n < 2) : b9 (nI n) := by
  rcases (show n = 0 ∨ n = 1 by omega) with rfl | rfl
  · exact Or.inl rfl
  · exact Or.inr rfl
theorem xa_1 (hz : HZ8 z a) (h5 : d5 < 4) : xg8_1 z a (nI d2) (nI d3) (nI d4) (nI d5) M = bi9 (f_X0_addVehicle z (a + 23) (nI d2) (nI (10 * d3 + d4)) (nI (d5 % 2)) (nI (d5 / 2)) M) (fun v M => if v = 0 then rz9 0 M else rz9 1 M) := by
  unfold xg8_1
  rw [if_neg (show ¬ (3 : Int32) < nI d5 from nI_nlt (a := 3) (by omega) (by decide)), hz_rC hz, sb_k, e_10]
  unfold f_X2_doGroup_b118 f_X2_doGroup_b123 f_X2_doGroup_b134
  rw [iv_k (hz_C hz).1, iv_k (hz_C hz).1, iv_k (hz_C hz).1, iv_k (hz_C hz).1]
  rcases (show d5 = 0 ∨ d5 = 1 ∨ d5 = 2 ∨ d5 = 3 by omega) with rfl | rfl | rfl | rfl
  · rw [if_neg (show ¬ nI 0 = 1 by decide), if_neg (show ¬ nI 0 = 3 by decide), if_pos (show nI 0 < 2 by decide)]
    rfl
  · rw [if_pos (show nI 1 = 1 from rfl), if_pos (show nI 1 < 2 by decide)]
    rfl
  · rw [if_neg (show ¬ nI 2 = 1 by decide), if_neg (show ¬ nI 2 = 3 by decide), if_neg (show ¬ nI 2 < 2 by decide)]
    rfl
  · rw [if_neg (show ¬ nI 3 = 1 by decide), if_pos (show nI 3 = 3 from rfl), if_neg (show ¬ nI 3 < 2 by decide)]
    rfl
end RU
