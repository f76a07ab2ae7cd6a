section RB
variable {z : Sh9} {M M' : Mem9} {g b n c B : Nat} {Q p r s : Nat → Int32}
theorem i32_0 : (0 : Int32).toInt = 0 := by decide
theorem i32_3 : (3 : Int32).toInt = 3 := by decide
theorem y_nat {y : Int32} (h : 0 ≤ y.toInt ∧ y.toInt < (n : Int)) : ∃ l, l < n ∧ y = nI l := by
  have h2 : y.toInt < 2 ^ 31 := Int32.toInt_lt y
  obtain ⟨l, h1, rfl⟩ := i32_ex (x := y) (n := y.toInt.toNat) (by omega) h.1 (by omega)
  refine ⟨l, ?_, rfl⟩
  have h3 := nI_toInt (n := l) (by omega)
  omega
theorem x0_hasLane {y : Int32} (hG : G8 z g) (h2 : M g 2 = nI n) (hn : n ≤ 3) : f_X0_hasLane z g y M = some (.inl (some (.int (if 0 ≤ y.toInt ∧ y.toInt < (n : Int) then 1 else 0))), M) := by
  unfold f_X0_hasLane
  by_cases h1 : y < 0
  · rw [if_pos h1, rz_0, if_neg (by rw [i32_lt, i32_0] at h1; omega)]
  · rw [if_neg h1, gf_k hG.1, sb_k, h2]
    rw [i32_lt, i32_0] at h1
    by_cases h3 : nI n ≤ y
    · rw [if_pos h3, rz_0, if_neg (by rw [i32_le, nI_toInt (by omega)] at h3; omega)]
    · rw [if_neg h3]
      rw [i32_le, nI_toInt (by omega)] at h3
      rw [if_neg (by rw [i32_le, i32_3]; omega), rz_1, if_pos (by omega)]
/-- what a lane adds to a number of the gate -/
def ty8 (M : Mem9) (b w : Nat) : Int32 := if w = 2 then M b 5 else if w = 3 then M b 12 else if w = 4 then M b 13 else if w = 5 then M b 14 else if w = 6 then M b 15 else if w = 7 then M b 11 else if w = 8 then M b 10 else M b 16
theorem x1_tally {w : Nat} (hL : pu_L z b) (hw : 2 ≤ w) (hw9 : w ≤ 9) (hb : LB8 M b) : f_X1_tally z b (nI w) M = some (.inl (some (.int (ty8 M b w))), M) := by
  have h0 := hL.1
  have h10 : b9 (M b 10) := hb.2.1
  have h11 : b9 (M b 11) := hb.2.2
  rcases (show w = 2 ∨ w = 3 ∨ w = 4 ∨ w = 5 ∨ w = 6 ∨ w = 7 ∨ w = 8 ∨ w = 9 by omega) with rfl | rfl | rfl | rfl | rfl | rfl | rfl | rfl
  · unfold f_X1_tally
    rw [if_pos (by decide), gf_k h0, sb_k]
    rfl
  · unfold f_X1_tally
    rw [if_neg (by decide), if_pos (by decide), gf_k h0, sb_k]
    rfl
  · unfold f_X1_tally
    rw [if_neg (by decide), if_neg (by decide), if_pos (by decide), gf_k h0, sb_k]
    rfl
  · unfold f_X1_tally
    rw [if_neg (by decide), if_neg (by decide), if_neg (by decide), if_pos (by decide), gf_k h0, sb_k]
    rfl
  · unfold f_X1_tally
    rw [if_neg (by decide), if_neg (by decide), if_neg (by decide), if_neg (by decide), if_pos (by decide), gf_k h0, sb_k]
    rfl
  · unfold f_X1_tally
    rw [if_neg (by decide), if_neg (by decide), if_neg (by decide), if_neg (by decide), if_neg (by decide), if_pos (by decide), gf_k h0, sb_k]
    rcases h11 with e | e
    · rw [e, if_pos rfl]
      exact congrArg (fun v => some (Sum.inl (some (Value.int v)), M)) e.symm
    · rw [e, if_neg (by decide)]
      exact congrArg (fun v => some (Sum.inl (some (Value.int v)), M)) e.symm
  · unfold f_X1_tally
    rw [if_neg (by decide), if_neg (by decide), if_neg (by decide), if_neg (by decide), if_neg (by decide), if_neg (by decide), if_pos (by decide), gf_k h0, sb_k]
    rcases h10 with e | e
    · rw [e, if_pos rfl]
      exact congrArg (fun v => some (Sum.inl (some (Value.int v)), M)) e.symm
    · rw [e, if_neg (by decide)]
      exact congrArg (fun v => some (Sum.inl (some (Value.int v)), M)) e.symm
  · unfold f_X1_tally
    rw [if_neg (by decide), if_neg (by decide), if_neg (by decide), if_neg (by decide), if_neg (by decide), if_neg (by decide), if_neg (by decide), if_pos (by decide), gf_k h0, sb_k]
    rfl
theorem x0_total {w : Nat} (hG : G8 z g) (h2 : M g 2 = nI n) (hn : n ≤ 3) (hb : ∀ l, l < 3 → LB8 M (g + 3 + 6 * l)) (hw : 2 ≤ w) (hw9 : w ≤ 9) : f_X0_total z g (nI w) M = some (.inl (some (.int (SM8 (fun l => ty8 M (g + 3 + 6 * l) w) n))), M) := by
  have hl : ∀ rem k m, k + rem = n → rem < m → fx9 (fun _ _ _ _ _ => none) (f_X0_total_b4 z) m g (nI w) (SM8 (fun l => ty8 M (g + 3 + 6 * l) w) k) (nI k) M = some (.inl (some (.int (SM8 (fun l => ty8 M (g + 3 + 6 * l) w) n))), M) := by
    intro rem
    induction rem with
    | zero =>
      intro k m hk hm
      obtain ⟨m, rfl⟩ : ∃ q, m = q + 1 := ⟨m - 1, by omega⟩
      rw [fx_k]
      unfold f_X0_total_b4
      rw [gf_k hG.1, sb_k, h2, if_pos (nI_le (by omega) (by omega)), show k = n by omega]
      rfl
    | succ rem ih =>
      intro k m hk hm
      obtain ⟨m, rfl⟩ : ∃ q, m = q + 1 := ⟨m - 1, by omega⟩
      have hL := hG.2.2.2 k (by omega)
      rw [fx_k]
      unfold f_X0_total_b4
      rw [gf_k hG.1, sb_k, h2, if_neg (nI_ge (by omega) (by omega)), rf_k hG.1, sb_k, g8_la hG (by omega), sb_k, iv_k hL.1, x1_tally hL hw hw9 (hb k (by omega)), bi_k, nI_1]
      exact ih (k + 1) m (by omega) (by omega)
  exact hl n 0 FU9 (by omega) (by unfold FU9; omega)
theorem x0_armsUp (hG : G8 z g) (h2 : M g 2 = nI n) (hn : n ≤ 3) : f_X0_armsUp z g M = some (.inl (some (.int (SM8 (fun l => if M (g + 3 + 6 * l) 6 = 4 then 1 else 0) n))), M) := by
  have hl : ∀ rem k m, k + rem = n → rem < m → fx9 (fun _ _ _ _ => none) (f_X0_armsUp_b4 z) m g (SM8 (fun l => if M (g + 3 + 6 * l) 6 = 4 then 1 else 0) k) (nI k) M = some (.inl (some (.int (SM8 (fun l => if M (g + 3 + 6 * l) 6 = 4 then 1 else 0) n))), M) := by
    intro rem
    induction rem with
    | zero =>
      intro k m hk hm
      obtain ⟨m, rfl⟩ : ∃ q, m = q + 1 := ⟨m - 1, by omega⟩
      rw [fx_k]
      unfold f_X0_armsUp_b4
      rw [gf_k hG.1, sb_k, h2, if_pos (nI_le (by omega) (by omega)), show k = n by omega]
      rfl
    | succ rem ih =>
      intro k m hk hm
      obtain ⟨m, rfl⟩ : ∃ q, m = q + 1 := ⟨m - 1, by omega⟩
      have hL := hG.2.2.2 k (by omega)
      have hnext := ih (k + 1) m (by omega) (by omega)
      rw [sm_s] at hnext
      rw [fx_k]
      unfold f_X0_armsUp_b4
      rw [gf_k hG.1, sb_k, h2, if_neg (nI_ge (by omega) (by omega)), rf_k hG.1, sb_k, g8_la hG (by omega), sb_k, gf_k hL.1, sb_k]
      by_cases q : M (g + 3 + 6 * k) 6 = 4
      · rw [if_pos q] at hnext
        rw [if_pos q, nI_1]
        exact hnext
      · rw [if_neg q, Int32.add_zero] at hnext
        rw [if_neg q, nI_1]
        exact hnext
  exact hl n 0 FU9 (by omega) (by unfold FU9; omega)
/-- a tick of a lane, by memory -/
theorem x1_tick {a1 : Nat} (hL : pu_L z b) (hg : RW9 z a1 10 3) (ho : a1 < b ∨ b + 5 < a1) (hc : vc9 M b 0 = nI c) (h6 : c ≤ 6) (hB : pu_B (vc9 M b) 6) : f_X1_tick z b a1 M = some (.inl none, pu_W M b (tk9 c (M a1 0) (M a1 1) (M a1 2) (vc9 M b)) (tt9 c (M a1 0) (M a1 1) (M a1 2) (vc9 M b) (pu_t M b))) := by
  have h := ev_X1_tick (M := M) (r := vc9 M b) (s := pu_t M b) hL hg ho hc h6 hB
  rw [pw_self] at h
  exact h
theorem dr_B6 (h6 : c ≤ 6) (hB : pu_B r 6) : pu_B (dr9 c r) 6 := by
  intro k hk
  by_cases e : k + 1 < c
  · obtain ⟨x1, x2, x3⟩ := hB (k + 1) (by omega)
    have e2 : lo9 (dr9 c r) k = lo9 r (k + 1) := dr_at e (by omega)
    have e3 : fo9 (dr9 c r) k = fo9 r (k + 1) := dr_at e (by omega)
    have e4 : le9' (dr9 c r) k = le9' r (k + 1) := dr_at e (by omega)
    rw [e2, e3, e4]
    exact ⟨x1, x2, x3⟩
  · obtain ⟨x1, x2, x3⟩ := hB k hk
    have q2 : ∀ i, i < 5 → dr9 c r (7 + 5 * k + i) = r (7 + 5 * k + i) := fun i hi => by
      unfold dr9
      rw [pu_u_ne (by omega)]
      exact if_neg (by omega)
    have e2 : lo9 (dr9 c r) k = lo9 r k := q2 2 (by omega)
    have e3 : fo9 (dr9 c r) k = fo9 r k := q2 3 (by omega)
    have e4 : le9' (dr9 c r) k = le9' r k := q2 4 (by omega)
    rw [e2, e3, e4]
    exact ⟨x1, x2, x3⟩
theorem mo_B6 (h6 : c ≤ 6) (hB : pu_B r 6) : pu_B (mo9 c r) 6 := by
  unfold mo9
  by_cases q : ps9 c (mv9 r c)
  · rw [if_pos q]; exact dr_B6 h6 (mv_B hB)
  · rw [if_neg q]; exact mv_B hB
theorem tk_B6 {g0 g1 g2 : Int32} (h6 : c ≤ 6) (hB : pu_B r 6) : pu_B (tk9 c g0 g1 g2 r) 6 := by
  intro k hk
  have hm := mo_B6 h6 hB k hk
  unfold tk9
  generalize cc9 c r = d
  generalize mo9 c r = m at hm ⊢
  have far : ∀ (y : Nat → Int32) j, 6 ≤ j → th9 (hi9 d (t3 d y)) d j = y j := fun y j hj => by rw [th_o (by omega), hi_o (by omega), t3_o (by omega) (by omega)]
  have e2 : lo9 (th9 (hi9 d (t3 d (ct9 d g0 g1 g2 m))) d) k = lo9 m k := (far _ _ (by omega)).trans (ct_far (by omega) (by omega) (fun _ => by omega))
  have e3 : fo9 (th9 (hi9 d (t3 d (ct9 d g0 g1 g2 m))) d) k = fo9 m k := (far _ _ (by omega)).trans (ct_far (by omega) (by omega) (fun _ => by omega))
  have e4 : le9' (th9 (hi9 d (t3 d (ct9 d g0 g1 g2 m))) d) k = le9' (ct9 d g0 g1 g2 m) k := far _ _ (by omega)
  rw [e2, e3, e4]
  exact ⟨hm.1, hm.2.1, ct_le hm.2.2⟩
theorem tk_4 {g0 g1 g2 : Int32} : tk9 c g0 g1 g2 r 4 = r 4 := by
  unfold tk9
  rw [th_o (by decide), hi_o (by decide), t3_o (by decide) (by decide), ct_far (by decide) (by decide) (fun _ => by omega), mo_sm (by decide) (by decide)]
theorem tk_5 {g0 g1 g2 : Int32} (h : b9 (r 5)) : b9 (tk9 c g0 g1 g2 r 5) := by
  unfold tk9
  rw [th_o (by decide)]
  refine hi_5 ?_
  rw [t3_o (by decide) (by decide), ct_far (by decide) (by decide) (fun _ => by omega), mo_sm (by decide) (by decide)]
  exact h
theorem ts_o {j : Nat} (h1 : j ≠ 1) (h2 : j ≠ 2) : ts9 r s n j = s j := by
  induction n with
  | zero => rfl
  | succ n ih =>
    rw [ts_s]
    split
    · split
      · rw [pu_u_ne h2, ih]
      · rw [pu_u_ne h1, ih]
    · exact ih
theorem cs_o {g0 g1 : Int32} {j : Nat} (h : j ≠ 4) : cs9 c g0 g1 r s j = s j := by
  unfold cs9
  cases fs9 (ck9 r) c 0 with
  | none => rfl
  | some k =>
    show (if r 6 + 1 < (if lo9 r k = 0 then g0 else g1) then s else if lo9 r k = 0 then s else pu_u s 4 (s 4 + 1)) j = s j
    by_cases q : r 6 + 1 < (if lo9 r k = 0 then g0 else g1)
    · rw [if_pos q]
    · rw [if_neg q]
      by_cases q2 : lo9 r k = 0
      · rw [if_pos q2]
      · rw [if_neg q2, pu_u_ne h]
theorem mt_o {j : Nat} (h : j ≠ 0) : mt9 c r s j = s j := by
  unfold mt9
  split
  · exact pu_u_ne h
  · rfl
theorem hs_o {j : Nat} (h : j ≠ 3) : hs9 c r s j = s j := by
  unfold hs9
  split
  · exact pu_u_ne h
  · rfl
/-- a tick hits once at most, if the arm was whole and is broken then -/
theorem tt_3 {g0 g1 g2 : Int32} : tt9 c g0 g1 g2 r s 3 = if hp9 (cc9 c r) (t3 (cc9 c r) (ct9 (cc9 c r) g0 g1 g2 (mo9 c r))) then s 3 + 1 else s 3 := by
  unfold tt9
  rw [ts_o (by decide) (by decide)]
  unfold hs9
  by_cases q : hp9 (cc9 c r) (t3 (cc9 c r) (ct9 (cc9 c r) g0 g1 g2 (mo9 c r)))
  · rw [if_pos q, if_pos q, pu_u_eq, cs_o (by decide), mt_o (by decide)]
  · rw [if_neg q, if_neg q, cs_o (by decide), mt_o (by decide)]
theorem tt_0 {g0 g1 g2 : Int32} : tt9 c g0 g1 g2 r s 0 = if ps9 c (mv9 r c) then s 0 + 1 else s 0 := by
  unfold tt9
  rw [ts_o (by decide) (by decide), hs_o (by decide), cs_o (by decide)]
  unfold mt9
  by_cases q : ps9 c (mv9 r c)
  · rw [if_pos q, if_pos q, pu_u_eq]
  · rw [if_neg q, if_neg q]
/-- a lane's tick keeps the gate a row -/
theorem g8_tick {l : Nat} (hG : G8 z g) (h : GT8 M g Q B) (hl : l < kn8 Q) : ∃ M', f_X1_tick z (g + 3 + 6 * l) (g + 2) M = some (.inl none, M') ∧ F8 M M' (g + 3 + 6 * l) 6 ∧ GT8 M' g (tl9 (kc8 Q l) l Q) (B + 1) := by
  obtain ⟨hR, h2, hs, hb, hA, hh, hT⟩ := id h
  have hn := hR.2.1
  obtain ⟨gg, hgg, h9⟩ := hR.2.2.1
  have hI := hR.2.2.2 l hl
  have hAl := hA l hl
  have hBl := hb l (by omega)
  have hc : vc9 M (g + 3 + 6 * l) 0 = nI (kc8 Q l) := (hAl 0 (by omega)).symm.trans hI.1
  have h6 := hI.2.1
  have e0 : M (g + 2) 0 = Q 7 := hs 0 (by omega)
  have e1 : M (g + 2) 1 = Q 8 := hs 1 (by omega)
  have e2 : M (g + 2) 2 = Q 9 := hs 2 (by omega)
  have ht := x1_tick (hG.2.2.2 l (by omega)) hG.2.2.1 (by omega) hc h6 hBl.1
  rw [e0, e1, e2] at ht
  refine ⟨_, ht, f8_W, ?_⟩
  have hI2 := pI_tick (g0 := Q 7) (g1 := Q 8) hgg hI
  rw [← h9] at hI2
  have hD := D_tick (T := fun i => Q (2 + i) - pu_t M (g + 3 + 6 * l) i) (R := Q) (s := pu_t M (g + 3 + 6 * l)) hAl (fun i _ => (Int32.sub_add_cancel _ _).symm)
  refine g8_lane (B := B) (c' := cc9 (kc8 Q l) (pu_s Q l)) h hl (fun j hj => tl_h hj) (fun l' j _ hne hj => tl_o hne hj) (pI_cong (fun j hj => tl_l hj) hI2) (fun j hj => ?_) (tk_B6 h6 hBl.1) (by rw [tk_4]; exact hBl.2.1) (tk_5 hBl.2.2) (fun i hi => ?_) ?_ (by omega)
  · have := hI2.2.1
    rw [tl_l (by omega)]
    exact A_tk hAl j hj
  · have e : tl9 (kc8 Q l) l Q (2 + i) = pR9 (kc8 Q l) (pu_s Q l) Q (2 + i) := ps_h (by omega)
    rw [e, hD i hi, Int32.add_assoc, Int32.add_comm (tt9 _ _ _ _ _ _ i), ← Int32.add_assoc, Int32.sub_add_cancel]
  · obtain ⟨x, x1, x2⟩ := hh l hl
    have ex : pu_t M (g + 3 + 6 * l) 3 = nI x := x2
    rw [tt_3]
    split
    · exact ⟨x + 1, by omega, by rw [ex, nI_1]⟩
    · exact ⟨x, by omega, ex⟩
end RB
