section RE
variable {z : Sh9} {M M' : Mem9} {g g' b b' n c B l : Nat} {Q p r s : Nat → Int32}
/-- the first k vehicles of another row -/
def cy8 (k : Nat) (src dst : Nat → Int32) : Nat → Int32 := fun j => if 7 ≤ j ∧ j < 7 + 5 * k then src j else dst j
theorem cy_s {k : Nat} {src dst : Nat → Int32} : pu_u (pu_u (pu_u (pu_u (pu_u (cy8 k src dst) (7 + 5 * k + 0) (src (7 + 5 * k + 0))) (7 + 5 * k + 1) (src (7 + 5 * k + 1))) (7 + 5 * k + 2) (src (7 + 5 * k + 2))) (7 + 5 * k + 3) (src (7 + 5 * k + 3))) (7 + 5 * k + 4) (src (7 + 5 * k + 4)) = cy8 (k + 1) src dst := by
  funext j
  by_cases h : 7 + 5 * k ≤ j ∧ j < 7 + 5 * (k + 1)
  · obtain ⟨i, hi, rfl⟩ : ∃ i, i < 5 ∧ j = 7 + 5 * k + i := ⟨j - (7 + 5 * k), by omega, by omega⟩
    unfold cy8
    rw [if_pos (show 7 ≤ 7 + 5 * k + i ∧ 7 + 5 * k + i < 7 + 5 * (k + 1) by omega)]
    rcases (show i = 0 ∨ i = 1 ∨ i = 2 ∨ i = 3 ∨ i = 4 by omega) with rfl | rfl | rfl | rfl | rfl
    · rw [pu_u_ne (by omega), pu_u_ne (by omega), pu_u_ne (by omega), pu_u_ne (by omega), pu_u_eq]
    · rw [pu_u_ne (by omega), pu_u_ne (by omega), pu_u_ne (by omega), pu_u_eq]
    · rw [pu_u_ne (by omega), pu_u_ne (by omega), pu_u_eq]
    · rw [pu_u_ne (by omega), pu_u_eq]
    · rw [pu_u_eq]
  · rw [pu_u_ne (by omega), pu_u_ne (by omega), pu_u_ne (by omega), pu_u_ne (by omega), pu_u_ne (by omega)]
    unfold cy8
    by_cases h2 : 7 ≤ j ∧ j < 7 + 5 * k
    · rw [if_pos h2, if_pos (by omega)]
    · rw [if_neg h2, if_neg (by omega)]
theorem x1_copyVeh {k : Nat} (hL : pu_L z b) (hL' : pu_L z b') (ho : b' + 5 < b ∨ b + 5 < b') (hk : k < 6) (hB : pu_B (vc9 M b') 6) : f_X1_copyVehicle z b b' (nI k) (nI k) (pu_W M b (cy8 k (vc9 M b') (vc9 M b)) s) = some (.inl none, pu_W M b (cy8 (k + 1) (vc9 M b') (vc9 M b)) s) := by
  obtain ⟨h0, h1, h2, h3, h4, h5⟩ := hL
  obtain ⟨k0, k1, k2, k3, k4, k5⟩ := hL'
  obtain ⟨c1, c2, c3⟩ := hB k hk
  have b1 : b9 (vc9 M b' (7 + 5 * k + 2)) := c1
  have b2 : b9 (vc9 M b' (7 + 5 * k + 3)) := c2
  have b3 : b9 (vc9 M b' (7 + 5 * k + 4)) := c3
  have e : ∀ i, i < 5 → M (b' + 1 + i) k = vc9 M b' (7 + 5 * k + i) := fun i hi => (vc_v hi).symm
  have rd : ∀ (r : Nat → Int32) i, i < 5 → pu_W M b r s (b' + 1 + i) k = vc9 M b' (7 + 5 * k + i) := fun r i hi => (pw_o (by omega)).trans (e i hi)
  have r1 : ∀ (r : Nat → Int32), pu_W M b r s (b' + 1) k = vc9 M b' (7 + 5 * k + 0) := fun r => rd r 0 (by omega)
  have r2 : ∀ (r : Nat → Int32), pu_W M b r s (b' + 2) k = vc9 M b' (7 + 5 * k + 1) := fun r => rd r 1 (by omega)
  have r3 : ∀ (r : Nat → Int32), pu_W M b r s (b' + 3) k = vc9 M b' (7 + 5 * k + 2) := fun r => rd r 2 (by omega)
  have r4 : ∀ (r : Nat → Int32), pu_W M b r s (b' + 4) k = vc9 M b' (7 + 5 * k + 3) := fun r => rd r 3 (by omega)
  have r5 : ∀ (r : Nat → Int32), pu_W M b r s (b' + 5) k = vc9 M b' (7 + 5 * k + 4) := fun r => rd r 4 (by omega)
  unfold f_X1_copyVehicle
  rw [rf_k h0, sb_k, rf_k k0, sb_k, ld_k k1 hk (by decide), sb_k, r1, st_k h1 hk (by decide), sb_k, pw_w1, rf_k h0, sb_k, rf_k k0, sb_k, ld_k k2 hk (by decide), sb_k, r2, st_k h2 hk (by decide), sb_k, pw_w2, rf_k h0, sb_k, rf_k k0, sb_k, ld_k k3 hk (by decide), sb_k, r3, sz_k h3 hk (by decide) b1, sb_k, pw_w3, rf_k h0, sb_k, rf_k k0, sb_k, ld_k k4 hk (by decide), sb_k, r4, sz_k h4 hk (by decide) b2, sb_k, pw_w4, rf_k h0, sb_k, rf_k k0, sb_k, ld_k k5 hk (by decide), sb_k, r5, sz_k h5 hk (by decide) b3, sb_k, pw_w5, cy_s]
  rfl
/-- a lane's copy -/
theorem x1_copy (hL : pu_L z b) (hL' : pu_L z b') (ho : b' + 5 < b ∨ b + 5 < b') (hB : LB8 M b') : ∃ r, f_X1_copyFrom z b b' M = some (.inl none, pu_W M b r (pu_t M b')) ∧ ∀ j, j < 37 → r j = vc9 M b' j := by
  have h0 := hL.1
  have k0 := hL'.1
  have hb4 : b9 (M b' 10) := hB.2.1
  have hb5 : b9 (M b' 11) := hB.2.2
  have rd : ∀ (r s : Nat → Int32) k, pu_W M b r s b' k = M b' k := fun r s k => pw_o (by omega)
  generalize hR : pu_u (pu_u (pu_u (pu_u (pu_u (pu_u (pu_u (cy8 6 (vc9 M b') (vc9 M b)) 0 (M b' 5)) 1 (M b' 6)) 2 (M b' 7)) 3 (M b' 8)) 6 (M b' 9)) 4 (M b' 10)) 5 (M b' 11) = R
  have hend : ∀ G, f_X1_copyFrom_b2 z G b b' (nI 6) (pu_W M b (cy8 6 (vc9 M b') (vc9 M b)) (pu_t M b)) = some (.inl none, pu_W M b R (pu_t M b')) := by
    intro G
    unfold f_X1_copyFrom_b2
    rw [if_pos (show (6 : Int32) ≤ nI 6 by decide), gf_k k0, sb_k, rd, pf_k h0, sb_k, pw_x5, gf_k k0, sb_k, rd, pf_k h0, sb_k, pw_x6, gf_k k0, sb_k, rd, pf_k h0, sb_k, pw_x7, gf_k k0, sb_k, rd, pf_k h0, sb_k, pw_x8, gf_k k0, sb_k, rd, pf_k h0, sb_k, pw_x9, gf_k k0, sb_k, rd, pz_k h0 hb4, sb_k, pw_x10, gf_k k0, sb_k, rd, pz_k h0 hb5, sb_k, pw_x11, gf_k k0, sb_k, rd, pf_k h0, sb_k, pw_x12, gf_k k0, sb_k, rd, pf_k h0, sb_k, pw_x13, gf_k k0, sb_k, rd, pf_k h0, sb_k, pw_x14, gf_k k0, sb_k, rd, pf_k h0, sb_k, pw_x15, gf_k k0, sb_k, rd, pf_k h0, sb_k, pw_x16, hR]
    refine congrArg (fun N => some (Sum.inl none, N)) (pw_cong (fun _ => rfl) (fun i hi => ?_))
    rcases (show i = 0 ∨ i = 1 ∨ i = 2 ∨ i = 3 ∨ i = 4 by omega) with rfl | rfl | rfl | rfl | rfl <;> rfl
  have hl : ∀ rem k m, k + rem = 6 → rem < m → fx9 (fun _ _ _ _ => none) (f_X1_copyFrom_b2 z) m b b' (nI k) (pu_W M b (cy8 k (vc9 M b') (vc9 M b)) (pu_t M b)) = some (.inl none, pu_W M b R (pu_t M b')) := by
    intro rem
    induction rem with
    | zero =>
      intro k m hk hm
      obtain ⟨m, rfl⟩ : ∃ q, m = q + 1 := ⟨m - 1, by omega⟩
      rw [fx_k, show k = 6 by omega]
      exact hend _
    | succ rem ih =>
      intro k m hk hm
      obtain ⟨m, rfl⟩ : ∃ q, m = q + 1 := ⟨m - 1, by omega⟩
      rw [fx_k]
      unfold f_X1_copyFrom_b2
      rw [if_neg (show ¬ (6 : Int32) ≤ nI k from nI_ge (b := 6) (by omega) (by decide)), iv_k h0, x1_copyVeh hL hL' ho (by omega) hB.1, bv_k, nI_1]
      exact ih (k + 1) m (by omega) (by omega)
  refine ⟨R, ?_, fun j hj => ?_⟩
  · have h := hl 6 0 FU9 (by omega) (by unfold FU9; omega)
    have e0 : cy8 0 (vc9 M b') (vc9 M b) = vc9 M b := by
      funext j
      exact if_neg (by omega)
    rw [e0, pw_self] at h
    exact h
  · rw [← hR]
    by_cases h : j < 7
    · rcases (show j = 0 ∨ j = 1 ∨ j = 2 ∨ j = 3 ∨ j = 4 ∨ j = 5 ∨ j = 6 by omega) with rfl | rfl | rfl | rfl | rfl | rfl | rfl <;> rfl
    · rw [pu_u_ne (by omega), pu_u_ne (by omega), pu_u_ne (by omega), pu_u_ne (by omega), pu_u_ne (by omega), pu_u_ne (by omega), pu_u_ne (by omega)]
      exact if_pos (by omega)
/-- System.arraycopy of three settings -/
theorem ac_3 {a0 a1 : Nat} (h0 : RW9 z a0 10 3) (h1 : RW9 z a1 10 3) : ∃ M', ac9 z M a0 0 a1 0 3 = some M' ∧ F8 M M' a1 1 ∧ ∀ i, i < 3 → M' a1 i = M a0 i := by
  have e0 : (0 : Int32).toNatClampNeg = 0 := rfl
  have e3 : (3 : Int32).toNatClampNeg = 3 := by decide
  have ok : okC9 z a0 a1 0 0 3 := by
    refine ⟨⟨h0.1, h0.2.1, by rw [h0.2.2]⟩, ⟨h1.1, h1.2.1, by rw [h1.2.2]⟩, ⟨by decide, by decide, by decide⟩, ?_, ?_⟩
    · rw [h0.2.2]; decide
    · rw [h1.2.2]; decide
  refine ⟨_, if_pos ok, fun q k hq => ?_, fun i hi => ?_⟩
  · unfold cp9
    rw [if_neg (by omega)]
  · unfold cp9 va_cpy
    rw [e0, e3, if_pos rfl]
    exact (if_pos (show 0 ≤ i ∧ i < 0 + 3 by omega)).trans (by rw [Nat.sub_zero, Nat.zero_add])
/-- a gate's copy -/
theorem x0_copy_in (hG : G8 z g) (hG' : G8 z g') (ho : g' + 21 ≤ g ∨ g + 21 ≤ g') {N : Mem9} (hb : ∀ l, l < 3 → LB8 N (g' + 3 + 6 * l)) : ∀ rem k m M, k + rem = 3 → rem < m → (∀ q j, g' ≤ q → q < g' + 21 → M q j = N q j) → (∀ l, l < k → (∀ j, j < 37 → vc9 M (g + 3 + 6 * l) j = vc9 N (g' + 3 + 6 * l) j) ∧ ∀ i, i < 5 → M (g + 3 + 6 * l) (12 + i) = N (g' + 3 + 6 * l) (12 + i)) → ∃ M', fx9 (fun _ _ _ _ => none) (f_X0_copyFrom_b32 z) m g g' (nI k) M = some (.inl none, M') ∧ F8 M M' (g + 3) 18 ∧ ∀ l, l < 3 → (∀ j, j < 37 → vc9 M' (g + 3 + 6 * l) j = vc9 N (g' + 3 + 6 * l) j) ∧ ∀ i, i < 5 → M' (g + 3 + 6 * l) (12 + i) = N (g' + 3 + 6 * l) (12 + i) := by
  intro rem
  induction rem with
  | zero =>
    intro k m M hk hm hN hl
    obtain ⟨m, rfl⟩ : ∃ q, m = q + 1 := ⟨m - 1, by omega⟩
    refine ⟨M, ?_, f8_refl, fun l h => hl l (by omega)⟩
    rw [fx_k, show k = 3 by omega]
    unfold f_X0_copyFrom_b32
    rw [if_pos (show (3 : Int32) ≤ nI 3 by decide)]
    rfl
  | succ rem ih =>
    intro k m M hk hm hN hl
    obtain ⟨m, rfl⟩ : ∃ q, m = q + 1 := ⟨m - 1, by omega⟩
    have hL := hG.2.2.2 k (by omega)
    have hL' := hG'.2.2.2 k (by omega)
    have hv' : vc9 M (g' + 3 + 6 * k) = vc9 N (g' + 3 + 6 * k) := vc_cong (fun q j h1 h2 => hN q j (by omega) (by omega))
    obtain ⟨r, t1, hr⟩ := x1_copy (M := M) hL hL' (by omega) (lB_cong (hb k (by omega)) (fun j _ => by rw [hv']))
    have hvo : ∀ l', l' ≠ k → vc9 (pu_W M (g + 3 + 6 * k) r (pu_t M (g' + 3 + 6 * k))) (g + 3 + 6 * l') = vc9 M (g + 3 + 6 * l') := fun l' h => vc_cong (fun q k h1 h2 => pw_o (by omega))
    obtain ⟨M2, t2, f2, h2⟩ := ih (k + 1) m (pu_W M (g + 3 + 6 * k) r (pu_t M (g' + 3 + 6 * k))) (by omega) (by omega) (fun q j h1 h2 => by rw [pw_o (by omega)]; exact hN q j h1 h2) (fun l' h' => by
      by_cases e : l' = k
      · subst e
        rw [vc_W]
        refine ⟨fun j hj => by rw [hr j hj, hv'], fun i hi => ?_⟩
        rw [pw_t hi]
        exact hN _ _ (by omega) (by omega)
      · rw [hvo l' e]
        refine ⟨(hl l' (by omega)).1, fun i hi => ?_⟩
        rw [pw_o (by omega)]
        exact (hl l' (by omega)).2 i hi)
    refine ⟨M2, ?_, f8_trans (f8_in f8_W (by omega) (by omega)) f2, h2⟩
    rw [fx_k]
    unfold f_X0_copyFrom_b32
    rw [if_neg (show ¬ (3 : Int32) ≤ nI k from nI_ge (b := 3) (by omega) (by decide)), rf_k hG.1, sb_k, g8_la hG (by omega), sb_k, rf_k hG'.1, sb_k, g8_la hG' (by omega), sb_k, iv_k hL.1, t1, bv_k, nI_1]
    exact t2
theorem x0_copy (hG : G8 z g) (hG' : G8 z g') (ho : g' + 21 ≤ g ∨ g + 21 ≤ g') (h : GR8 M g' Q B) : ∃ M', f_X0_copyFrom z g g' M = some (.inl none, M') ∧ F8 M M' g 21 ∧ GR8 M' g Q B := by
  obtain ⟨M4, t4, f4, s4⟩ := ac_3 (M := wr9 (wr9 M g 2 (M g' 2)) g 3 (M g' 3)) hG'.2.2.1 hG.2.2.1
  have hN : ∀ q j, g' ≤ q → q < g' + 21 → M4 q j = M q j := fun q j h1 h2 => by rw [f4 q j (by omega), wr_na (by omega), wr_na (by omega)]
  obtain ⟨M5, t5, f5, l5⟩ := x0_copy_in hG hG' ho (N := M) (fun l hl => h.2.2.2.2.1 l hl) 3 0 FU9 M4 (by omega) (by unfold FU9; omega) hN (fun l hl => by omega)
  refine ⟨M5, ?_, fun q k hq => ?_, g8_cong h ⟨?_, ?_, fun i hi => ?_, l5⟩⟩
  · unfold f_X0_copyFrom
    rw [gf_k hG'.1, sb_k, pf_k hG.1, sb_k, gf_k hG'.1, sb_k, wr_na (by omega), pf_k hG.1, sb_k, rf_k hG'.1, sb_k, rf_k hG.1, sb_k, t4, sb_k]
    exact t5
  · rw [f5 q k (by omega), f4 q k (by omega), wr_na (by omega), wr_na (by omega)]
  · rw [f5 _ _ (by omega), f4 _ _ (by omega), wr_eq]
  · rw [f5 _ _ (by omega), f4 _ _ (by omega), wr_nk (by decide), wr_eq]
  · rw [f5 _ _ (by omega), s4 i hi, wr_na (by omega), wr_na (by omega)]
end RE
