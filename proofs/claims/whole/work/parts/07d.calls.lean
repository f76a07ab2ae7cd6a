section RK
variable {z : Sh9} {M M' M1 M2 : Mem9} {g x y x0 n c B B' l a A : Nat} {Q : Nat → Int32}
/-! a call of the law's: the class, its answer written down, then the model -/
def AG8 (a : Nat) (M : Mem9) (B' : Nat) (fl fm : Mem9 → Re9) : Prop := ∃ k b M1 M2, fl M = some (.inl (some (.int k)), M1) ∧ fm M1 = some (.inl (some (.int b)), M2) ∧ M2 (a + 383) 0 = k ∧ (k = 0 → M2 (a + 391) 0 = b) ∧ SR8 M2 a B'
def tl8 (z : Sh9) (x2 x3 : Nat) (G : Mem9 → Re9) (k : Int32) (r : Re9) : Re9 :=
  bi9 (iv9 z x2 3 r) fun b M2 => bi9 (iv9 z x2 3 (f_X3_thrown z x2 M2)) fun t M3 => (if t = k then (if k = 0 then ((ld9 z M3 13 x3 (0 : Int32)).bind fun o => (if (lg_cmp (Int32.toInt64 o) (Int32.toInt64 b)) = 0 then G M3 else (rz9 (0 : Int32) M3))) else G M3) else (rz9 (0 : Int32) M3))
theorem cmp_self {v : Int64} : lg_cmp v v = 0 := by
  unfold lg_cmp
  rw [if_neg (fun h => by have := Int64.lt_iff_toInt_lt.mp h; omega), if_pos rfl]
theorem tl8_ok {G : Mem9 → Re9} {k b : Int32} {x2 x3 : Nat} (h2 : RW9 z x2 3 0) (h3 : RW9 z x3 13 1) (hk : M2 x2 0 = k) (hb : k = 0 → M2 x3 0 = b) : tl8 z x2 x3 G k (some (.inl (some (.int b)), M2)) = G M2 := by
  unfold tl8 f_X3_thrown
  rw [iv_k h2, bi_k, gf_k h2, sb_k, hk, iv_k h2]
  show (if k = k then _ else _) = _
  rw [if_pos rfl]
  by_cases e : k = 0
  · rw [if_pos e, show (0 : Int32) = nI 0 from rfl, ld_k h3 (by decide) (by decide), sb_k, hb e, cmp_self]
    rfl
  · rw [if_neg e]
theorem bh_k {v : Int32} {K : Int32 → Mem9 → Re9} {X : String → Mem9 → Re9} : bh9 (some (.inl (some (.int v)), M)) K X = K v M := rfl
theorem bh_r {E : String} {K : Int32 → Mem9 → Re9} {X : String → Mem9 → Re9} : bh9 (some (.inr E, M)) K X = X E M := rfl
theorem sl_out {v : Int32} (hz : HZ8 z a) : (sl9 z M (a + 391) (0 : Int32) v).bind (fun M3 => ri9 (0 : Int32) M3) = some (.inl (some (.int 0)), wr9 M (a + 391) 0 v) := by
  rw [show (0 : Int32) = nI 0 from rfl, sl_k hz.2.1.2.2.2.2.2.2.2.2 (by decide) (by decide)]
  rfl
theorem z8_w0 {k : Nat} {v : Int32} (hk : k = 0 ∨ k = 10 ∨ k = 11 ∨ k = 12) : Z8 a M (wr9 M (a + 383) k v) := fun q j _ _ _ _ h => by
  by_cases e : q = a + 383
  · rw [e, wr_nk (by have := h e; omega)]
  · exact wr_na e
theorem z8_w1 {k : Nat} {v : Int32} : Z8 a M (wr9 M (a + 391) k v) := fun q j _ _ _ h _ => wr_na h
theorem z8_w3 {q : Nat → Int32} : Z8 a M (pu_R M (a + 386) q) := fun q j _ h _ _ _ => pr_o h
theorem sr_w0 {v : Int32} (h : SR8 M a B) : SR8 (wr9 M (a + 383) 0 v) a B := sr_Z h (z8_w0 (by omega))
theorem sr_w1 {v : Int32} (h : SR8 M a B) : SR8 (wr9 M (a + 391) 0 v) a B := sr_Z h z8_w1
/-- the class throws -/
theorem ag_throw {fl fm : Mem9 → Re9} {e b : Int32} (h : SR8 M a B) (h0 : e ≠ 0) (h1 : fl M = some (.inl (some (.int e)), M)) (h2 : fm M = some (.inl (some (.int b)), wr9 M (a + 383) 0 e)) : AG8 a M B fl fm := ⟨e, b, M, _, h1, h2, wr_eq, fun q => absurd q h0, sr_w0 h⟩
/-- the class answers, and nothing is changed -/
theorem ag_query {fl fm : Mem9 → Re9} {v : Int32} (h : SR8 M a B) (h1 : fl M = some (.inl (some (.int 0)), wr9 M (a + 391) 0 v)) (h2 : fm (wr9 M (a + 391) 0 v) = some (.inl (some (.int v)), wr9 (wr9 M (a + 391) 0 v) (a + 383) 0 0)) : AG8 a M B fl fm := ⟨0, v, _, _, h1, h2, wr_eq, fun _ => by rw [wr_na (by omega), wr_eq], sr_w0 (sr_w1 h)⟩
/-- the class answers, and the model comes to a state -/
theorem ag_ret {fl fm : Mem9 → Re9} {v : Int32} {M1 : Mem9} (h1 : fl M = some (.inl (some (.int 0)), wr9 M1 (a + 391) 0 v)) (h2 : ∃ M2, fm (wr9 M1 (a + 391) 0 v) = some (.inl (some (.int v)), M2) ∧ M2 (a + 383) 0 = 0 ∧ M2 (a + 391) 0 = v ∧ SR8 M2 a B') : AG8 a M B' fl fm := by
  obtain ⟨M2, t1, t2, t3, t4⟩ := h2
  exact ⟨0, v, _, M2, h1, t1, t2, fun _ => t3, t4⟩
/-! the model's refusals -/
theorem m_ref0 (ho : RW9 z x0 3 0) : f_X3_refused z x0 0 M = some (.inl (some (.int 0)), wr9 M x0 0 0) := by
  unfold f_X3_refused
  rw [pf_k ho, sb_k, if_pos (by decide), rz_0]
theorem m_ref1 {e : Int32} (ho : RW9 z x0 3 0) (he : ¬ e ≤ 0) : f_X3_refused z x0 e M = some (.inl (some (.int 1)), wr9 M x0 0 e) := by
  unfold f_X3_refused
  rw [pf_k ho, sb_k, if_neg he, rz_1]
/-! the rows' places -/
theorem hz_x0 (hz : HZ8 z a) : RW9 z (a + 383) 3 0 := hz.2.1.1
theorem hz_now (hz : HZ8 z a) : RW9 z (a + 385) 10 121 := hz.2.1.2.2.1
theorem hz_try (hz : HZ8 z a) : RW9 z (a + 386) 10 121 := hz.2.1.2.2.2.1
theorem hz_mov (hz : HZ8 z a) : RW9 z (a + 383 + 7) 11 6 := hz.2.1.2.2.2.2.2.2.2.1
theorem hz_r1 (hz : HZ8 z a) : rf9 z (a + 383) 3 1 = some (a + 384) := rf_k (hz_x0 hz)
theorem hz_r2 (hz : HZ8 z a) : rf9 z (a + 383) 3 2 = some (a + 385) := rf_k (hz_x0 hz)
theorem hz_r3 (hz : HZ8 z a) : rf9 z (a + 383) 3 3 = some (a + 386) := rf_k (hz_x0 hz)
theorem hz_r4 (hz : HZ8 z a) : rf9 z (a + 383) 3 4 = some (a + 387) := rf_k (hz_x0 hz)
theorem hz_r5 (hz : HZ8 z a) : rf9 z (a + 383) 3 5 = some (a + 388) := rf_k (hz_x0 hz)
theorem hz_r6 (hz : HZ8 z a) : rf9 z (a + 383) 3 6 = some (a + 389) := rf_k (hz_x0 hz)
theorem hz_r7 (hz : HZ8 z a) : rf9 z (a + 383) 3 7 = some (a + 390) := rf_k (hz_x0 hz)
theorem hz_P (hz : HZ8 z a) : G8 z (a + 2) := hz.2.2.1
theorem hz_C (hz : HZ8 z a) : G8 z (a + 23) := hz.2.2.2.1
theorem hz_rP (hz : HZ8 z a) : rf9 z a 2 2 = some (a + 2) := rf_k hz.1.1
theorem hz_rC (hz : HZ8 z a) : rf9 z a 2 23 = some (a + 23) := rf_k hz.1.1
theorem hz_rg (hG : G8 z g) : rf9 z g 0 1 = some (g + 1) := rf_k hG.1
/-! the class's checks -/
theorem x2_checkLane {y : Int32} (hz : HZ8 z a) (h : GR8 M (a + 2) Q B) (hy : 0 ≤ y.toInt ∧ y.toInt < (kn8 Q : Int)) : f_X2_checkLane z a y M = some (.inl none, M) := by
  unfold f_X2_checkLane
  rw [hz_rP hz, sb_k, iv_k (hz_P hz).1, x0_lane (hz_P hz) h, if_pos hy, bi_k, if_neg (by decide)]
  rfl
theorem x2_noLane {y : Int32} (hz : HZ8 z a) (h : GR8 M (a + 2) Q B) (hy : ¬ (0 ≤ y.toInt ∧ y.toInt < (kn8 Q : Int))) : f_X2_checkLane z a y M = some (.inr "java/lang/IndexOutOfBoundsException", M) := by
  unfold f_X2_checkLane
  rw [hz_rP hz, sb_k, iv_k (hz_P hz).1, x0_lane (hz_P hz) h, if_neg hy, bi_k, if_pos rfl]
  rfl
theorem bv_r {E : String} {K : Mem9 → Re9} : bv9 (some (.inr E, M)) K = some (.inr E, M) := rfl
theorem bi_r {E : String} {K : Int32 → Mem9 → Re9} : bi9 (some (.inr E, M)) K = some (.inr E, M) := rfl
theorem x2_length {y : Int32} (hy : 2 ≤ y.toInt ∧ y.toInt ≤ 12) : f_X2_checkLength z y M = some (.inl none, M) := by
  unfold f_X2_checkLength
  rw [if_neg (by rw [i32_lt, i32_2]; omega), if_pos (by rw [i32_le, i32_12]; omega)]
  rfl
theorem x2_noLength {y : Int32} (hy : ¬ (2 ≤ y.toInt ∧ y.toInt ≤ 12)) : f_X2_checkLength z y M = some (.inr "java/lang/IllegalArgumentException", M) := by
  unfold f_X2_checkLength
  by_cases h : y < 2
  · rw [if_pos h]
    rfl
  · rw [if_neg h, if_neg (by rw [i32_lt, i32_2] at h; rw [i32_le, i32_12]; omega)]
    rfl
theorem x2_checkVeh {y w : Int32} (hz : HZ8 z a) (h : GR8 M (a + 2) Q B) (hl : l < kn8 Q) (hy : y = nI l) (hw : 0 ≤ w.toInt ∧ w.toInt < (kc8 Q l : Int)) : f_X2_checkVehicle z a y w M = some (.inl none, M) := by
  subst hy
  obtain ⟨hI, hA, hB, hl3, hc0, -, -⟩ := g8_at h hl
  have hn := (g8_2 h).2
  unfold f_X2_checkVehicle
  rw [iv_k hz.1.1, x2_checkLane hz h (by rw [nI_toInt (by omega)]; omega), bv_k, hz_rP hz, sb_k, hz_rg (hz_P hz), sb_k, g8_la (hz_P hz) hl3, sb_k, iv_k ((hz_P hz).2.2.2 l hl3).1, x1_hasVehicle ((hz_P hz).2.2.2 l hl3) hc0 hI.2.1, if_pos hw, bi_k, if_neg (by decide)]
  rfl
theorem x2_noVeh {y w : Int32} (hz : HZ8 z a) (h : GR8 M (a + 2) Q B) (hno : ¬ ((0 ≤ y.toInt ∧ y.toInt < (kn8 Q : Int)) ∧ ∀ l, y = nI l → l < 3 → 0 ≤ w.toInt ∧ w.toInt < (kc8 Q l : Int))) : f_X2_checkVehicle z a y w M = some (.inr "java/lang/IndexOutOfBoundsException", M) := by
  unfold f_X2_checkVehicle
  by_cases hy : 0 ≤ y.toInt ∧ y.toInt < (kn8 Q : Int)
  · obtain ⟨l, hl, rfl⟩ := y_nat hy
    obtain ⟨hI, hA, hB, hl3, hc0, -, -⟩ := g8_at h hl
    have hn : ¬ (0 ≤ w.toInt ∧ w.toInt < (kc8 Q l : Int)) := fun e => hno ⟨hy, fun l' e' h3 => by
      have : l = l' := (nI_eq (by omega) (by omega)).mp e'
      rw [← this]; exact e⟩
    rw [iv_k hz.1.1, x2_checkLane hz h hy, bv_k, hz_rP hz, sb_k, hz_rg (hz_P hz), sb_k, g8_la (hz_P hz) hl3, sb_k, iv_k ((hz_P hz).2.2.2 l hl3).1, x1_hasVehicle ((hz_P hz).2.2.2 l hl3) hc0 hI.2.1, if_neg hn, bi_k, if_pos rfl]
    rfl
  · rw [iv_k hz.1.1, x2_noLane hz h hy, bv_r]
/-! numbers of the gate -/
def ab8 (Q : Nat → Int32) (w : Nat) : Int32 := if w = 2 then rs8 Q 0 else if w = 7 then rs8 Q 5 else if w = 8 then rs8 Q 4 else if w = 9 then Q 6 else Q (w - 1)
theorem x0_tot {w : Nat} (hG : G8 z g) (h : GR8 M g Q B) (hw : 2 ≤ w) (hw9 : w ≤ 9) : f_X0_total z g (nI w) M = some (.inl (some (.int (ab8 Q w))), M) := by
  obtain ⟨e2, hn⟩ := g8_2 h
  rw [x0_total hG e2 hn h.2.2.2.2.1 hw hw9]
  refine congrArg (fun v => some (Sum.inl (some (Value.int v)), M)) ?_
  have hT := h.2.2.2.2.2.2.2
  have hA : ∀ l j, l < kn8 Q → j < 7 → pu_s Q l j = vc9 M (g + 3 + 6 * l) j := fun l j hl hj => (g8_at h hl).2.1 j (by omega)
  unfold ab8
  rcases (show w = 2 ∨ w = 3 ∨ w = 4 ∨ w = 5 ∨ w = 6 ∨ w = 7 ∨ w = 8 ∨ w = 9 by omega) with rfl | rfl | rfl | rfl | rfl | rfl | rfl | rfl
  · rw [if_pos rfl]
    exact sm_cong (fun l hl => (hA l 0 hl (by omega)).symm)
  · rw [if_neg (by decide), if_neg (by decide), if_neg (by decide), if_neg (by decide)]
    exact (hT 0 (by omega)).symm
  · rw [if_neg (by decide), if_neg (by decide), if_neg (by decide), if_neg (by decide)]
    exact (hT 1 (by omega)).symm
  · rw [if_neg (by decide), if_neg (by decide), if_neg (by decide), if_neg (by decide)]
    exact (hT 2 (by omega)).symm
  · rw [if_neg (by decide), if_neg (by decide), if_neg (by decide), if_neg (by decide)]
    exact (hT 3 (by omega)).symm
  · rw [if_neg (by decide), if_pos rfl]
    exact sm_cong (fun l hl => (hA l 5 hl (by omega)).symm)
  · rw [if_neg (by decide), if_neg (by decide), if_pos rfl]
    exact sm_cong (fun l hl => (hA l 4 hl (by omega)).symm)
  · rw [if_neg (by decide), if_neg (by decide), if_neg (by decide), if_pos rfl]
    exact (hT 4 (by omega)).symm
end RK
