section RD
variable {z : Sh9} {M M' : Mem9} {g g' b b' n c B l : Nat} {Q p r s : Nat → Int32}
/-- a row with another row for lane l -/
theorem ps_l {j : Nat} (hj : j < 37) : pu_s (pu_S Q l p) l j = p j := ps_i hj
theorem ps_n {l' j : Nat} (h : l' ≠ l) (hj : j < 37) : pu_s (pu_S Q l p) l' j = pu_s Q l' j := by
  unfold pu_s pu_S
  exact if_neg (by omega)
/-- a change of one lane that is none of its counters' -/
theorem g8_set {c' : Nat} (h : GR8 M g Q B) (hl : l < kn8 Q) (hI : pu_I p c') (hA : pu_A p r c') (hB : pu_B r 6) (h4 : b9 (r 4)) (h5 : b9 (r 5)) : GR8 (pu_W M (g + 3 + 6 * l) r (pu_t M (g + 3 + 6 * l))) g (pu_S Q l p) B := by
  obtain ⟨h3, hT⟩ := h
  have hh := hT.2.2.2.2.2.1 l hl
  have h6 := hI.2.1
  refine ⟨by rw [pw_o (by omega), ps_h (by omega)]; exact h3, g8_lane (c' := c') hT hl (fun j hj => ps_h (by omega)) (fun l' j _ hne hj => ps_n hne hj) (pI_cong (fun j hj => ps_l hj) hI) (fun j hj => (ps_l (by omega)).trans (hA j hj)) hB h4 h5 (fun i hi => by rw [ps_h (by omega)]) hh (Nat.le_refl _)⟩
/-- the facts of a lane of a gate -/
theorem g8_at (h : GR8 M g Q B) (hl : l < kn8 Q) : pu_I (pu_s Q l) (kc8 Q l) ∧ pu_A (pu_s Q l) (vc9 M (g + 3 + 6 * l)) (kc8 Q l) ∧ LB8 M (g + 3 + 6 * l) ∧ l < 3 ∧ vc9 M (g + 3 + 6 * l) 0 = nI (kc8 Q l) ∧ M g 2 = nI (kn8 Q) ∧ kn8 Q ≤ 3 := by
  obtain ⟨h3, hR, h2, hs, hb, hA, hh, hT⟩ := h
  have hn := hR.2.1
  have hI := hR.2.2.2 l hl
  exact ⟨hI, hA l hl, hb l (by omega), by omega, (hA l hl 0 (by omega)).symm.trans hI.1, h2.trans hR.1, hn⟩
theorem g8_2 (h : GR8 M g Q B) : M g 2 = nI (kn8 Q) ∧ kn8 Q ≤ 3 := ⟨h.2.2.1.trans h.2.1.1, h.2.1.2.1⟩
theorem x0_lane (hG : G8 z g) (h : GR8 M g Q B) {y : Int32} : f_X0_hasLane z g y M = some (.inl (some (.int (if 0 ≤ y.toInt ∧ y.toInt < (kn8 Q : Int) then 1 else 0))), M) := x0_hasLane hG (g8_2 h).1 (g8_2 h).2
theorem x0_lane1 (hG : G8 z g) (h : GR8 M g Q B) (hl : l < kn8 Q) : f_X0_hasLane z g (nI l) M = some (.inl (some (.int 1)), M) := by
  have hn := (g8_2 h).2
  rw [x0_lane hG h, if_pos (by rw [nI_toInt (by omega)]; omega)]
theorem x0_lane0 (hG : G8 z g) (h : GR8 M g Q B) {y : Int32} (hy : ¬ (0 ≤ y.toInt ∧ y.toInt < (kn8 Q : Int))) : f_X0_hasLane z g y M = some (.inl (some (.int 0)), M) := by
  rw [x0_lane hG h, if_neg hy]
theorem i32_12 : (12 : Int32).toInt = 12 := by decide
/-- a vehicle comes -/
def qa8 (l : Nat) (len lost fol : Int32) (Q : Nat → Int32) : Nat → Int32 := pu_S Q l (ad9' (kc8 Q l) len lost fol (pu_s Q l))
theorem x0_addV {len lost fol : Int32} (hG : G8 z g) (h : GR8 M g Q B) (hl : l < kn8 Q) (h2 : 2 ≤ len.toInt) (h12 : len.toInt ≤ 12) (hlo : b9 lost) (hfo : b9 fol) (hc : kc8 Q l < 6) : ∃ M', f_X0_addVehicle z g (nI l) len lost fol M = some (.inl (some (.int 1)), M') ∧ F8 M M' g 21 ∧ GR8 M' g (qa8 l len lost fol Q) B := by
  obtain ⟨hI, hA, hB, hl3, hc0, -, -⟩ := g8_at h hl
  have hL := hG.2.2.2 l hl3
  have e := ev_X1_addVehicle (M := M) (r := vc9 M (g + 3 + 6 * l)) (s := pu_t M (g + 3 + 6 * l)) hL hc0 hc hlo hfo (len := len)
  rw [pw_self] at e
  refine ⟨_, ?_, f8_in f8_W (by omega) (by omega), g8_set h hl (pI_ad hI hc h2 h12 hlo hfo) (A_ad hA) (ad_B hB.1 (by omega) hlo hfo) (by rw [ad_sm (by omega) (by omega)]; exact hB.2.1) (by rw [ad_sm (by omega) (by omega)]; exact hB.2.2)⟩
  unfold f_X0_addVehicle
  rw [iv_k hG.1, x0_lane1 hG h hl, bi_k, if_neg (by decide), if_neg (by rw [i32_lt, i32_2]; omega), if_pos (by rw [i32_le, i32_12]; omega), rf_k hG.1, sb_k, g8_la hG hl3, sb_k, iv_k hL.1, e, bi_k, rz_1]
theorem x0_noV {y len lost fol : Int32} (hG : G8 z g) (h : GR8 M g Q B) (hno : ¬ ((0 ≤ y.toInt ∧ y.toInt < (kn8 Q : Int)) ∧ (2 ≤ len.toInt ∧ len.toInt ≤ 12) ∧ ∀ l, y = nI l → l < 3 → kc8 Q l < 6)) : f_X0_addVehicle z g y len lost fol M = some (.inl (some (.int 0)), M) := by
  unfold f_X0_addVehicle
  rw [iv_k hG.1]
  by_cases hy : 0 ≤ y.toInt ∧ y.toInt < (kn8 Q : Int)
  · obtain ⟨l, hl, rfl⟩ := y_nat hy
    obtain ⟨hI, hA, hB, hl3, hc0, -, -⟩ := g8_at h hl
    rw [x0_lane1 hG h hl, bi_k, if_neg (by decide)]
    by_cases h2 : len < 2
    · rw [if_pos h2, rz_0]
    · rw [if_neg h2]
      by_cases h12 : len ≤ 12
      · rw [if_pos h12, rf_k hG.1, sb_k, g8_la hG hl3, sb_k, iv_k (hG.2.2.2 l hl3).1]
        rw [i32_lt, i32_2] at h2
        rw [i32_le, i32_12] at h12
        have hc6 : kc8 Q l = 6 := by
          have := hI.2.1
          have : ¬ kc8 Q l < 6 := fun e => hno ⟨hy, ⟨by omega, by omega⟩, fun l' e' h3 => by
            have : l = l' := (nI_eq (by omega) (by omega)).mp e'
            rw [← this]; exact e⟩
          omega
        have e := ev_X1_addFull (M := M) (r := vc9 M (g + 3 + 6 * l)) (s := pu_t M (g + 3 + 6 * l)) (hG.2.2.2 l hl3) (by rw [hc0, hc6]) (len := len) (lost := lost) (fol := fol)
        rw [pw_self] at e
        rw [e, bi_k, rz_0]
      · rw [if_neg h12, rz_0]
  · rw [x0_lane0 hG h hy, bi_k, if_pos rfl, rz_0]
/-- the loop -/
def qb8 (l : Nat) (v : Int32) (Q : Nat → Int32) : Nat → Int32 := pu_S Q l (pu_u (pu_s Q l) 4 v)
theorem pB_u {j : Nat} {v : Int32} (hj : j < 7) (hB : pu_B r n) : pu_B (pu_u r j v) n := fun k hk => by
  have e : ∀ i, pu_u r j v (7 + 5 * k + i) = r (7 + 5 * k + i) := fun i => pu_u_ne (by omega)
  unfold lo9 fo9 le9'
  rw [e, e, e]
  exact hB k hk
theorem pI_4 {v : Int32} (hv : b9 v) (hI : pu_I p c) : pu_I (pu_u p 4 v) c := by
  obtain ⟨i0, i6, ⟨h', h1, h2⟩, ⟨q', q1, q2⟩, ⟨w, w1, w2⟩, i4, i5, iB, iV, iZ⟩ := hI
  have hf : ∀ k, k < c → fr9 (pu_u p 4 v) k = fr9 p k ∧ ln9 (pu_u p 4 v) k = ln9 p k := fun k hk => ⟨pu_u_ne (by omega), pu_u_ne (by omega)⟩
  exact ⟨(pu_u_ne (by decide)).trans i0, i6, ⟨h', h1, (pu_u_ne (by decide)).trans h2⟩, ⟨q', q1, (pu_u_ne (by decide)).trans q2⟩, ⟨w, w1, (pu_u_ne (by decide)).trans w2⟩, by rw [pu_u_eq]; exact hv, by rw [pu_u_ne (by decide)]; exact i5, pB_u (by decide) iB, pV_cong hf iV, pZ_cong hf iZ⟩
theorem pI_5 {v : Int32} (hv : b9 v) (hI : pu_I p c) : pu_I (pu_u p 5 v) c := by
  obtain ⟨i0, i6, ⟨h', h1, h2⟩, ⟨q', q1, q2⟩, ⟨w, w1, w2⟩, i4, i5, iB, iV, iZ⟩ := hI
  have hf : ∀ k, k < c → fr9 (pu_u p 5 v) k = fr9 p k ∧ ln9 (pu_u p 5 v) k = ln9 p k := fun k hk => ⟨pu_u_ne (by omega), pu_u_ne (by omega)⟩
  exact ⟨(pu_u_ne (by decide)).trans i0, i6, ⟨h', h1, (pu_u_ne (by decide)).trans h2⟩, ⟨q', q1, (pu_u_ne (by decide)).trans q2⟩, ⟨w, w1, (pu_u_ne (by decide)).trans w2⟩, by rw [pu_u_ne (by decide)]; exact i4, by rw [pu_u_eq]; exact hv, pB_u (by decide) iB, pV_cong hf iV, pZ_cong hf iZ⟩
theorem x0_loop {v : Int32} (hG : G8 z g) (h : GR8 M g Q B) (hl : l < kn8 Q) (hv : b9 v) : ∃ M', f_X0_changeLoop z g (nI l) v M = some (.inl (some (.int 1)), M') ∧ F8 M M' g 21 ∧ GR8 M' g (qb8 l v Q) B := by
  obtain ⟨hI, hA, hB, hl3, hc0, -, -⟩ := g8_at h hl
  have hL := hG.2.2.2 l hl3
  have e : wr9 M (g + 3 + 6 * l) 10 v = pu_W M (g + 3 + 6 * l) (pu_u (vc9 M (g + 3 + 6 * l)) 4 v) (pu_t M (g + 3 + 6 * l)) := by
    rw [← pw_x10, pw_self]
  refine ⟨_, ?_, f8_in f8_W (by omega) (by omega), g8_set h hl (pI_4 hv hI) (A_u hA) (pB_u (by decide) hB.1) (by rw [pu_u_eq]; exact hv) (by rw [pu_u_ne (by decide)]; exact hB.2.2)⟩
  unfold f_X0_changeLoop
  rw [iv_k hG.1, x0_lane1 hG h hl, bi_k, if_neg (by decide), rf_k hG.1, sb_k, g8_la hG hl3, sb_k, pz_k hL.1 hv, sb_k, e, rz_1]
theorem x0_noloop {y v : Int32} (hG : G8 z g) (h : GR8 M g Q B) (hy : ¬ (0 ≤ y.toInt ∧ y.toInt < (kn8 Q : Int))) : f_X0_changeLoop z g y v M = some (.inl (some (.int 0)), M) := by
  unfold f_X0_changeLoop
  rw [iv_k hG.1, x0_lane0 hG h hy, bi_k, if_pos rfl, rz_0]
/-- an arm can be mended -/
abbrev cb8 (Q : Nat → Int32) (l : Nat) : Prop := ¬ pu_s Q l 5 = 0 ∧ ¬ (fs9 (ua9 (pu_s Q l)) (kc8 Q l) 0).isSome = true
def qm8 (l : Nat) (Q : Nat → Int32) : Nat → Int32 := pu_S Q l (pu_u (pu_s Q l) 5 0)
theorem x1_mend (hG : G8 z g) (h : GR8 M g Q B) (hl : l < kn8 Q) : f_X1_canBeMended z (g + 3 + 6 * l) M = some (.inl (some (.int (if cb8 Q l then 1 else 0))), M) := by
  obtain ⟨hI, hA, hB, hl3, hc0, -, -⟩ := g8_at h hl
  have e := ev_X1_canBeMended (M := M) (r := vc9 M (g + 3 + 6 * l)) (s := pu_t M (g + 3 + 6 * l)) (hG.2.2.2 l hl3) hc0 hI.2.1
  rw [pw_self, ← hA 5 (by omega), ← A_ua hA] at e
  exact e
theorem x0_mend (hG : G8 z g) (h : GR8 M g Q B) (hl : l < kn8 Q) (hc : cb8 Q l) : ∃ M', f_X0_mendArm z g (nI l) M = some (.inl (some (.int 1)), M') ∧ F8 M M' g 21 ∧ GR8 M' g (qm8 l Q) B := by
  obtain ⟨hI, hA, hB, hl3, hc0, -, -⟩ := g8_at h hl
  have hL := hG.2.2.2 l hl3
  have hv : b9 0 := Or.inl rfl
  have e : wr9 M (g + 3 + 6 * l) 11 0 = pu_W M (g + 3 + 6 * l) (pu_u (vc9 M (g + 3 + 6 * l)) 5 0) (pu_t M (g + 3 + 6 * l)) := by
    rw [← pw_x11, pw_self]
  refine ⟨_, ?_, f8_in f8_W (by omega) (by omega), g8_set h hl (pI_5 hv hI) (A_u hA) (pB_u (by decide) hB.1) (by rw [pu_u_ne (by decide)]; exact hB.2.1) (by rw [pu_u_eq]; exact hv)⟩
  unfold f_X0_mendArm
  rw [iv_k hG.1, x0_lane1 hG h hl, bi_k, if_neg (by decide), rf_k hG.1, sb_k, g8_la hG hl3, sb_k, iv_k hL.1, x1_mend hG h hl, bi_k, if_pos hc, if_neg (by decide), sb_k, g8_la hG hl3, sb_k, pz_k hL.1 hv, sb_k, e, rz_1]
theorem x0_nomend {y : Int32} (hG : G8 z g) (h : GR8 M g Q B) (hno : ¬ ((0 ≤ y.toInt ∧ y.toInt < (kn8 Q : Int)) ∧ ∀ l, y = nI l → l < 3 → cb8 Q l)) : f_X0_mendArm z g y M = some (.inl (some (.int 0)), M) := by
  unfold f_X0_mendArm
  rw [iv_k hG.1]
  by_cases hy : 0 ≤ y.toInt ∧ y.toInt < (kn8 Q : Int)
  · obtain ⟨l, hl, rfl⟩ := y_nat hy
    obtain ⟨hI, hA, hB, hl3, hc0, -, -⟩ := g8_at h hl
    have hn : ¬ cb8 Q l := fun e => hno ⟨hy, fun l' e' h3 => by
      have : l = l' := (nI_eq (by omega) (by omega)).mp e'
      rw [← this]; exact e⟩
    rw [x0_lane1 hG h hl, bi_k, if_neg (by decide), rf_k hG.1, sb_k, g8_la hG hl3, sb_k, iv_k (hG.2.2.2 l hl3).1, x1_mend hG h hl, bi_k, if_neg hn, if_pos rfl, rz_0]
  · rw [x0_lane0 hG h hy, bi_k, if_pos rfl, rz_0]
/-- settings -/
abbrev se8 (y v : Int32) : Prop := (y = 0 ∧ 1 ≤ v.toInt ∧ v.toInt ≤ 20) ∨ (y = 1 ∧ 1 ≤ v.toInt ∧ v.toInt ≤ 60) ∨ (y = 2 ∧ 0 ≤ v.toInt ∧ v.toInt ≤ 20)
theorem x2_between {v lo hi : Int32} : f_X2_isBetween z v lo hi M = some (.inl (some (.int (if lo.toInt ≤ v.toInt ∧ v.toInt ≤ hi.toInt then 1 else 0))), M) := by
  unfold f_X2_isBetween
  by_cases h1 : v < lo
  · rw [if_pos h1, rz_0, if_neg (by rw [i32_lt] at h1; omega)]
  · rw [if_neg h1]
    by_cases h2 : hi < v
    · rw [if_pos h2, rz_0, if_neg (by rw [i32_lt] at h2; omega)]
    · rw [if_neg h2, rz_1, if_pos (by rw [i32_lt] at h1 h2; omega)]
theorem i32_20 : (20 : Int32).toInt = 20 := by decide
theorem rz_if (P : Prop) [Decidable P] : rz9 (if P then 1 else 0) M = some (.inl (some (.int (if P then 1 else 0))), M) := by
  by_cases h : P
  · rw [if_pos h, rz_1]
  · rw [if_neg h, rz_0]
theorem x2_setting {y v : Int32} : f_X2_isSetting z y v M = some (.inl (some (.int (if se8 y v then 1 else 0))), M) := by
  unfold f_X2_isSetting
  by_cases h0 : y = 0
  · rw [if_pos h0, x2_between, bi_k, rz_if, i32_1, i32_20]
    by_cases q : 1 ≤ v.toInt ∧ v.toInt ≤ 20
    · rw [if_pos q, if_pos (Or.inl ⟨h0, q⟩)]
    · rw [if_neg q, if_neg (fun e => e.elim (fun e => q e.2) (fun e => e.elim (fun e => absurd (h0.symm.trans e.1) (by decide)) (fun e => absurd (h0.symm.trans e.1) (by decide))))]
  · rw [if_neg h0]
    by_cases h1 : y = 1
    · rw [if_pos h1, x2_between, bi_k, rz_if, i32_1, i32_60]
      by_cases q : 1 ≤ v.toInt ∧ v.toInt ≤ 60
      · rw [if_pos q, if_pos (Or.inr (Or.inl ⟨h1, q⟩))]
      · rw [if_neg q, if_neg (fun e => e.elim (fun e => h0 e.1) (fun e => e.elim (fun e => q e.2) (fun e => absurd (h1.symm.trans e.1) (by decide))))]
    · rw [if_neg h1]
      by_cases h2 : y = 2
      · rw [if_pos h2, x2_between, bi_k, rz_if, i32_0, i32_20]
        by_cases q : 0 ≤ v.toInt ∧ v.toInt ≤ 20
        · rw [if_pos q, if_pos (Or.inr (Or.inr ⟨h2, q⟩))]
        · rw [if_neg q, if_neg (fun e => e.elim (fun e => h0 e.1) (fun e => e.elim (fun e => h1 e.1) (fun e => q e.2)))]
      · rw [if_neg h2, rz_0, if_neg (fun e => e.elim (fun e => h0 e.1) (fun e => e.elim (fun e => h1 e.1) (fun e => h2 e.1)))]
def qs8 (i : Nat) (v : Int32) (Q : Nat → Int32) : Nat → Int32 := pu_u Q (7 + i) v
theorem se_nat {y v : Int32} (h : se8 y v) : ∃ i, i < 3 ∧ y = nI i ∧ (i = 2 → ∃ w, w ≤ 20 ∧ v = nI w) := by
  rcases h with h | h | h
  · exact ⟨0, by omega, h.1, fun e => by omega⟩
  · exact ⟨1, by omega, h.1, fun e => by omega⟩
  · exact ⟨2, by omega, h.1, fun _ => i32_ex (n := 20) (by omega) h.2.1 h.2.2⟩
theorem ri_set {i : Nat} {v : Int32} (h : RI8 Q) (hi : i < 3) (hv : i = 2 → ∃ w, w ≤ 20 ∧ v = nI w) : RI8 (qs8 i v Q) ∧ kn8 (qs8 i v Q) = kn8 Q ∧ ∀ l, kc8 (qs8 i v Q) l = kc8 Q l := by
  obtain ⟨h0, hn, h9, hI⟩ := h
  have e0 : qs8 i v Q 0 = nI (kn8 Q) := (pu_u_ne (by omega)).trans h0
  have hI2 : ∀ l, l < kn8 Q → pu_I (pu_s (qs8 i v Q) l) (kc8 Q l) := fun l hl => pI_cong (fun j hj => pu_u_ne (by omega)) (hI l hl)
  refine ⟨ri_mk e0 hn ?_ hI2, kn_of e0 hn, fun l => ?_⟩
  · by_cases e : i = 2
    · obtain ⟨w, w1, w2⟩ := hv e
      exact ⟨w, w1, by unfold qs8; rw [e]; exact pu_u_eq.trans w2⟩
    · obtain ⟨w, w1, w2⟩ := h9
      exact ⟨w, w1, (pu_u_ne (by omega)).trans w2⟩
  · unfold kc8 qs8
    rw [pu_u_ne (by omega)]
theorem x0_set {y v : Int32} (hG : G8 z g) (h : GR8 M g Q B) (hs : se8 y v) : ∃ i M', i < 3 ∧ y = nI i ∧ f_X0_changeSetting z g y v M = some (.inl (some (.int 1)), M') ∧ F8 M M' g 21 ∧ GR8 M' g (qs8 i v Q) B := by
  obtain ⟨i, hi, rfl, hv⟩ := se_nat hs
  obtain ⟨h3, hR, h2, hss, hb, hA, hh, hT⟩ := h
  obtain ⟨hR2, en, ec⟩ := ri_set hR hi hv
  have hn := hR.2.1
  have hw : ∀ q k, q ≠ g + 2 → wr9 M (g + 2) i v q k = M q k := fun q k hq => wr_na hq
  have hwv : ∀ l, vc9 (wr9 M (g + 2) i v) (g + 3 + 6 * l) = vc9 M (g + 3 + 6 * l) := fun l => vc_cong (fun q k h1 h2 => hw q k (by omega))
  have eo : ∀ j, j ≠ 7 + i → qs8 i v Q j = Q j := fun j hj => pu_u_ne hj
  refine ⟨i, wr9 M (g + 2) i v, hi, rfl, ?_, fun q k hq => hw q k (by omega), ?_, hR2, ?_, fun j hj => ?_, fun l hl => ?_, fun l hl => ?_, fun l hl => ?_, fun j hj => ?_⟩
  · unfold f_X0_changeSetting
    rw [x2_setting, bn_k, if_pos hs, if_neg (by decide), rf_k hG.1, sb_k, st_k hG.2.2.1 hi (by decide), sb_k, rz_1]
  · rw [hw _ _ (by omega), eo _ (by omega)]; exact h3
  · rw [hw _ _ (by omega), eo _ (by omega)]; exact h2
  · by_cases e : j = i
    · rw [e, wr_eq]; exact pu_u_eq.symm
    · rw [wr_nk e, eo _ (by omega)]; exact hss j hj
  · unfold LB8; rw [hwv]; exact hb l hl
  · rw [en] at hl
    rw [ec, hwv]
    intro j hj
    have h6 := (hR.2.2.2 l hl).2.1
    exact (eo _ (by omega)).trans (hA l hl j hj)
  · rw [en] at hl
    rw [hw _ _ (by omega)]; exact hh l hl
  · rw [en, eo _ (by omega), hT j hj]
    exact sm_cong (fun l hl => (hw _ _ (by omega)).symm)
theorem x0_noset {y v : Int32} (hs : ¬ se8 y v) : f_X0_changeSetting z g y v M = some (.inl (some (.int 0)), M) := by
  unfold f_X0_changeSetting
  rw [x2_setting, bn_k, if_neg hs, if_pos rfl, rz_0]
end RD
