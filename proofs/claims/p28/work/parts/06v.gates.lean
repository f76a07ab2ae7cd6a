section RC
variable {z : Sh9} {M M' : Mem9} {g b n c B : Nat} {Q p r s : Nat → Int32}
theorem tl_kc {l l' : Nat} (h : l' ≠ l) : kc8 (tl9 c l Q) l' = kc8 Q l' := by
  have e : pu_s (tl9 c l Q) l' 0 = pu_s Q l' 0 := tl_o h (by decide)
  unfold kc8
  exact congrArg Int32.toNatClampNeg e
theorem tl_kn {l : Nat} : kn8 (tl9 c l Q) = kn8 Q := by
  unfold kn8
  rw [tl_h (by omega)]
/-- a tick of a row -/
def tq8 (Q : Nat → Int32) : Nat → Int32 := pu_u (tF9 (kc8 Q) (kn8 Q) 0 Q) 1 (Q 1 + 1)
/-- k ticks of a row -/
def rn8 : Nat → (Nat → Int32) → Nat → Int32
  | 0, Q => Q
  | k + 1, Q => rn8 k (tq8 Q)
theorem tF_h {cs : Nat → Nat} {rem l j : Nat} {Q : Nat → Int32} (h : j < 2 ∨ (6 < j ∧ j < 10)) : tF9 cs rem l Q j = Q j := by
  induction rem generalizing l Q with
  | zero => rfl
  | succ rem ih =>
    show tF9 cs rem (l + 1) (tl9 (cs l) l Q) j = Q j
    rw [ih, tl_h h]
theorem x0_lets_in {cs : Nat → Nat} {G : Nat → Int32 → Int32 → Mem9 → Re9} {N T : Int32} (hG : G8 z g) : ∀ rem l m M Q B, l + rem = kn8 Q → rem < m → GT8 M g Q B → (∀ l', l ≤ l' → l' < kn8 Q → kc8 Q l' = cs l') → ∃ M', fx9 (fun _ _ _ _ _ => none) (f_X0_letTicksGo_b32 z G) m g N T (nI l) M = G g N (T + 1) M' ∧ F8 M M' (g + 3) 18 ∧ GT8 M' g (tF9 cs rem l Q) (B + rem) := by
  intro rem
  induction rem with
  | zero =>
    intro l m M Q B hl hm h hc
    obtain ⟨m, rfl⟩ : ∃ q, m = q + 1 := ⟨m - 1, by omega⟩
    have h2 := h.2.1
    have h0 := h.1.1
    have hn := h.1.2.1
    refine ⟨M, ?_, f8_refl, h⟩
    rw [fx_k]
    unfold f_X0_letTicksGo_b32
    rw [gf_k hG.1, sb_k, h2, h0, if_pos (nI_le (by omega) (by omega))]
  | succ rem ih =>
    intro l m M Q B hl hm h hc
    obtain ⟨m, rfl⟩ : ∃ q, m = q + 1 := ⟨m - 1, by omega⟩
    have h2 := h.2.1
    have h0 := h.1.1
    have hn := h.1.2.1
    obtain ⟨M1, t1, f1, g1⟩ := g8_tick hG h (show l < kn8 Q by omega)
    have ek := hc l (Nat.le_refl _) (by omega)
    rw [ek] at g1
    obtain ⟨M2, t2, f2, g2⟩ := ih (l + 1) m M1 (tl9 (cs l) l Q) (B + 1) (by rw [tl_kn]; omega) (by omega) g1 (fun l' h1 h2 => by rw [tl_kn] at h2; rw [tl_kc (by omega)]; exact hc l' (by omega) h2)
    refine ⟨M2, ?_, f8_trans (f8_in f1 (by omega) (by omega)) f2, ?_⟩
    · rw [fx_k]
      unfold f_X0_letTicksGo_b32
      rw [gf_k hG.1, sb_k, h2, h0, if_neg (nI_ge (by omega) (by omega)), rf_k hG.1, sb_k, g8_la hG (by omega), sb_k, rf_k hG.1, sb_k, iv_k (hG.2.2.2 l (by omega)).1, t1, bv_k, nI_1]
      exact t2
    · rw [show B + (rem + 1) = B + 1 + rem by omega]
      exact g2
/-- a gate's tick -/
theorem x0_one {G : Nat → Int32 → Int32 → Mem9 → Re9} {N T : Int32} (hG : G8 z g) (h : GR8 M g Q B) (hNT : ¬ N ≤ T) : ∃ M', f_X0_letTicksGo_b15 z G g N T M = G g N (T + 1) M' ∧ F8 M M' g 21 ∧ GR8 M' g (tq8 Q) (B + 3) := by
  obtain ⟨h3, hT⟩ := h
  have hn := hT.1.2.1
  have f1 : F8 M (wr9 M g 3 (Q 1 + 1)) g 1 := f8_w
  have g1 : GT8 (wr9 M g 3 (Q 1 + 1)) g Q B := gt_cong hT (vt_f (fun q k _ _ hq => by
    by_cases e : q = g
    · subst e; exact wr_nk (by omega)
    · exact wr_na e))
  obtain ⟨M2, t2, f2, g2⟩ := x0_lets_in (cs := kc8 Q) (G := G) (N := N) (T := T) hG (kn8 Q) 0 FU9 _ Q B (by omega) (by unfold FU9; omega) g1 (fun _ _ _ => rfl)
  refine ⟨M2, ?_, f8_trans (f8_in f1 (by omega) (by omega)) (f8_in f2 (by omega) (by omega)), ?_, ?_⟩
  · unfold f_X0_letTicksGo_b15
    rw [if_neg hNT, gf_k hG.1, sb_k, pf_k hG.1, sb_k, h3]
    exact t2
  · rw [f2 g 3 (by omega), wr_eq]
    exact pu_u_eq.symm
  · exact gt_row (gt_mono g2 (by omega)) (fun i hi h1 => pu_u_ne h1)
theorem x0_lets_k (hG : G8 z g) {N : Nat} (hN : N < 2 ^ 31) : ∀ rem k m M Q B, k + rem = N → rem < m → GR8 M g Q B → ∃ M', fx9 (fun _ _ _ _ => none) (f_X0_letTicksGo_b15 z) m g (nI N) (nI k) M = some (.inl (some (.int 1)), M') ∧ F8 M M' g 21 ∧ GR8 M' g (rn8 rem Q) (B + 3 * rem) := by
  intro rem
  induction rem with
  | zero =>
    intro k m M Q B hk hm h
    obtain ⟨m, rfl⟩ : ∃ q, m = q + 1 := ⟨m - 1, by omega⟩
    refine ⟨M, ?_, f8_refl, h⟩
    rw [fx_k]
    unfold f_X0_letTicksGo_b15
    rw [if_pos (nI_le (by omega) (by omega)), rz_1]
  | succ rem ih =>
    intro k m M Q B hk hm h
    obtain ⟨m, rfl⟩ : ∃ q, m = q + 1 := ⟨m - 1, by omega⟩
    obtain ⟨M1, t1, f1, g1⟩ := x0_one (G := fx9 (fun _ _ _ _ => none) (f_X0_letTicksGo_b15 z) m) (N := nI N) (T := nI k) hG h (nI_ge (by omega) (by omega))
    obtain ⟨M2, t2, f2, g2⟩ := ih (k + 1) m M1 (tq8 Q) (B + 3) (by omega) (by omega) g1
    refine ⟨M2, ?_, f8_trans f1 f2, ?_⟩
    · rw [fx_k, t1, nI_1]
      exact t2
    · rw [show B + 3 * (rem + 1) = B + 3 + 3 * rem by omega]
      exact g2
theorem i32_60 : (60 : Int32).toInt = 60 := by decide
theorem x0_lets {N : Nat} (hG : G8 z g) (h : GR8 M g Q B) (h1 : 1 ≤ N) (h60 : N ≤ 60) : ∃ M', f_X0_letTicksGo z g (nI N) M = some (.inl (some (.int 1)), M') ∧ F8 M M' g 21 ∧ GR8 M' g (rn8 N Q) (B + 3 * N) := by
  obtain ⟨M', t, f, r⟩ := x0_lets_k hG (show N < 2 ^ 31 by omega) N 0 FU9 M Q B (by omega) (by unfold FU9; omega) h
  refine ⟨M', ?_, f, r⟩
  unfold f_X0_letTicksGo
  rw [if_neg (show ¬ nI N < 1 from nI_nlt (b := 1) h1 (by omega)), if_pos (show nI N ≤ 60 from nI_le (b := 60) h60 (by decide))]
  exact t
theorem x0_nolets {y : Int32} (h : ¬ (1 ≤ y.toInt ∧ y.toInt ≤ 60)) : f_X0_letTicksGo z g y M = some (.inl (some (.int 0)), M) := by
  unfold f_X0_letTicksGo
  by_cases q : y < 1
  · rw [if_pos q, rz_0]
  · rw [if_neg q, if_neg (by rw [i32_lt, i32_1] at q; rw [i32_le, i32_60]; omega), rz_0]
/-- a new gate -/
theorem x0_clear (hG : G8 z g) (hb : ∀ l, l < 3 → LB8 M (g + 3 + 6 * l)) (h0 : Q 0 = 0) (hh : ∀ j, 1 ≤ j → j < 7 → Q j = 0) (h7 : Q 7 = 3) (h8 : Q 8 = 12) (h9 : Q 9 = 2) : ∃ M', f_X0_clear z g M = some (.inl none, M') ∧ F8 M M' g 21 ∧ GR8 M' g Q 0 := by
  have hw : ∀ q k, q ≠ g → q ≠ g + 2 → wr9 (wr9 (wr9 (wr9 (wr9 M g 2 0) g 3 0) (g + 2) 0 3) (g + 2) 1 12) (g + 2) 2 2 q k = M q k := fun q k e1 e2 => by rw [wr_na e2, wr_na e2, wr_na e2, wr_na e1, wr_na e1]
  have ek : kn8 Q = 0 := kn_of (n := 0) h0 (by omega)
  refine ⟨wr9 (wr9 (wr9 (wr9 (wr9 M g 2 0) g 3 0) (g + 2) 0 3) (g + 2) 1 12) (g + 2) 2 2, ?_, fun q k hq => hw q k (by omega) (by omega), ?_, ?_, ?_, ?_, ?_, ?_, ?_, ?_⟩
  · have s0 : ∀ (N : Mem9) v, st9 z N (g + 2) 0 v = some (wr9 N (g + 2) 0 v) := fun N v => st_k (k := 0) hG.2.2.1 (by decide) (by decide)
    have s1 : ∀ (N : Mem9) v, st9 z N (g + 2) 1 v = some (wr9 N (g + 2) 1 v) := fun N v => st_k (k := 1) hG.2.2.1 (by decide) (by decide)
    have s2 : ∀ (N : Mem9) v, st9 z N (g + 2) 2 v = some (wr9 N (g + 2) 2 v) := fun N v => st_k (k := 2) hG.2.2.1 (by decide) (by decide)
    unfold f_X0_clear
    rw [pf_k hG.1, sb_k, pf_k hG.1, sb_k, rf_k hG.1, sb_k, s0, sb_k, sb_k, s1, sb_k, sb_k, s2, sb_k]
    rfl
  · rw [wr_na (by omega), wr_na (by omega), wr_na (by omega), wr_eq, hh 1 (by omega) (by omega)]
  · exact ri_mk (n := 0) (cs := fun _ => 0) h0 (by omega) ⟨2, by omega, h9⟩ (fun l hl => by omega)
  · rw [wr_na (by omega), wr_na (by omega), wr_na (by omega), wr_nk (by omega), wr_eq, h0]
  · intro i hi
    rcases (show i = 0 ∨ i = 1 ∨ i = 2 by omega) with rfl | rfl | rfl
    · rw [wr_nk (by omega), wr_nk (by omega), wr_eq]; exact h7.symm
    · rw [wr_nk (by omega), wr_eq]; exact h8.symm
    · rw [wr_eq]; exact h9.symm
  · intro l hl
    exact lB_cong (hb l hl) (fun j _ => by rw [vc_cong (fun q k h1 h2 => hw q k (by omega) (by omega))])
  · intro l hl
    omega
  · intro l hl
    omega
  · intro i hi
    rw [ek, hh _ (by omega) (by omega)]
    rfl
/-- a lane that is new -/
def nl8 : Nat → Int32 := pu_u (fun _ => 0) 3 48
def ql8 (Q : Nat → Int32) : Nat → Int32 := pu_u (pu_S Q (kn8 Q) nl8) 0 (Q 0 + 1)
theorem nl_I : pu_I nl8 0 := ⟨rfl, by omega, ⟨0, by omega, rfl⟩, ⟨0, by omega, rfl⟩, ⟨48, by omega, rfl⟩, Or.inl rfl, Or.inl rfl, fun k hk => by omega, fun k hk => by omega, fun h => by omega⟩
theorem x1_clear (hL : pu_L z b) : f_X1_clear z b M = some (.inl none, pu_W M b (pu_u (pu_u (pu_u (pu_u (pu_u (pu_u (pu_u (vc9 M b) 0 0) 1 0) 2 0) 3 48) 6 0) 4 0) 5 0) (fun _ => 0)) := by
  have h0 := hL.1
  have hz : b9 0 := Or.inl rfl
  have e : f_X1_clear z b (pu_W M b (vc9 M b) (pu_t M b)) = some (.inl none, pu_W M b (pu_u (pu_u (pu_u (pu_u (pu_u (pu_u (pu_u (vc9 M b) 0 0) 1 0) 2 0) 3 48) 6 0) 4 0) 5 0) (pu_u (pu_u (pu_u (pu_u (pu_u (pu_t M b) 0 0) 1 0) 2 0) 3 0) 4 0)) := by
    unfold f_X1_clear
    rw [pf_k h0, sb_k, pw_x5, pf_k h0, sb_k, pw_x6, pf_k h0, sb_k, pw_x7, pf_k h0, sb_k, pw_x8, pf_k h0, sb_k, pw_x9, pz_k h0 hz, sb_k, pw_x10, pz_k h0 hz, sb_k, pw_x11, pf_k h0, sb_k, pw_x12, pf_k h0, sb_k, pw_x13, pf_k h0, sb_k, pw_x14, pf_k h0, sb_k, pw_x15, pf_k h0, sb_k, pw_x16]
    rfl
  rw [pw_self] at e
  rw [e]
  refine congrArg (fun N => some (Sum.inl none, N)) (pw_cong (fun _ => rfl) (fun i hi => ?_))
  rcases (show i = 0 ∨ i = 1 ∨ i = 2 ∨ i = 3 ∨ i = 4 by omega) with rfl | rfl | rfl | rfl | rfl <;> rfl
theorem x0_addLane (hG : G8 z g) (h : GR8 M g Q B) (hn : kn8 Q < 3) : ∃ M', f_X0_addLane z g M = some (.inl (some (.int 1)), M') ∧ F8 M M' g 21 ∧ GR8 M' g (ql8 Q) B := by
  obtain ⟨h3, hR, h2, hs, hb, hA, hh, hT⟩ := h
  obtain ⟨r0, rn, r9, rI⟩ := hR
  generalize hk : kn8 Q = n at *
  have hL := hG.2.2.2 n hn
  have hc := x1_clear (M := M) hL
  generalize hr : pu_u (pu_u (pu_u (pu_u (pu_u (pu_u (pu_u (vc9 M (g + 3 + 6 * n)) 0 0) 1 0) 2 0) 3 48) 6 0) 4 0) 5 0 = r at hc
  have hv : ∀ l', l' ≠ n → vc9 (pu_W M (g + 3 + 6 * n) r (fun _ => 0)) (g + 3 + 6 * l') = vc9 M (g + 3 + 6 * l') := fun l' h => vc_cong (fun q k h1 h2 => pw_o (by omega))
  have hcc : ∀ l' k, l' ≠ n → pu_W M (g + 3 + 6 * n) r (fun _ => 0) (g + 3 + 6 * l') k = M (g + 3 + 6 * l') k := fun l' k h => pw_o (by omega)
  have hw : ∀ q k v, q ≠ g → wr9 (pu_W M (g + 3 + 6 * n) r (fun _ => 0)) g 2 v q k = pu_W M (g + 3 + 6 * n) r (fun _ => 0) q k := fun q k v hq => wr_na hq
  have hwv : ∀ l' v, vc9 (wr9 (pu_W M (g + 3 + 6 * n) r (fun _ => 0)) g 2 v) (g + 3 + 6 * l') = vc9 (pu_W M (g + 3 + 6 * n) r (fun _ => 0)) (g + 3 + 6 * l') := fun l' v => vc_cong (fun q k h1 h2 => hw q k v (by omega))
  have eq0 : ql8 Q 0 = nI (n + 1) := by
    unfold ql8
    rw [pu_u_eq, r0, nI_1]
  have eh : ∀ j, 1 ≤ j → j < 10 → ql8 Q j = Q j := fun j h1 h2 => by
    unfold ql8
    rw [pu_u_ne (by omega), ps_h h2]
  have enew : ∀ j, j < 37 → pu_s (ql8 Q) n j = nl8 j := fun j hj => by
    unfold ql8 pu_s
    rw [pu_u_ne (by omega), hk, ps_i hj]
  have eold : ∀ l j, l ≠ n → j < 37 → pu_s (ql8 Q) l j = pu_s Q l j := fun l j hl hj => by
    unfold ql8 pu_s
    rw [pu_u_ne (by omega), hk]
    exact if_neg (by omega)
  have hIn : ∀ l, l < n + 1 → pu_I (pu_s (ql8 Q) l) (if l = n then 0 else kc8 Q l) := by
    intro l hl
    by_cases q : l = n
    · rw [if_pos q, q]
      exact pI_cong enew nl_I
    · rw [if_neg q]
      exact pI_cong (fun j hj => eold l j q hj) (rI l (by omega))
  have ek : kn8 (ql8 Q) = n + 1 := kn_of eq0 (by omega)
  have ekc : ∀ l, l < n + 1 → kc8 (ql8 Q) l = if l = n then 0 else kc8 Q l := fun l hl => kc_of (hIn l hl)
  refine ⟨wr9 (pu_W M (g + 3 + 6 * n) r (fun _ => 0)) g 2 (nI n + 1), ?_, fun q k hq => ?_, ?_, ?_, ?_, ?_, ?_, ?_, ?_, ?_⟩
  · unfold f_X0_addLane
    rw [gf_k hG.1, sb_k, h2, r0, if_pos (show nI n < 3 from nI_lt (b := 3) hn (by decide)), rf_k hG.1, sb_k, sb_k, g8_la hG hn, sb_k, iv_k hL.1, hc, bv_k, gf_k hG.1, sb_k, pw_o (by omega), h2, r0, pf_k hG.1, sb_k, rz_1]
  · rw [hw _ _ _ (by omega), pw_o (by omega)]
  · rw [wr_nk (by decide), pw_o (by omega), h3, eh 1 (by omega) (by omega)]
  · exact ri_mk eq0 (by omega) (by rw [eh 9 (by omega) (by omega)]; exact r9) hIn
  · rw [wr_eq, eq0, nI_1]
  · intro i hi
    rw [hw _ _ _ (by omega), pw_o (by omega), eh _ (by omega) (by omega)]
    exact hs i hi
  · intro l hl
    unfold LB8
    rw [hwv]
    by_cases q : l = n
    · rw [q, vc_W, ← hr]
      have hb1 := hb n hn
      refine ⟨fun k hk => ?_, Or.inl ?_, Or.inl ?_⟩
      · have e : ∀ i, i < 5 → pu_u (pu_u (pu_u (pu_u (pu_u (pu_u (pu_u (vc9 M (g + 3 + 6 * n)) 0 0) 1 0) 2 0) 3 48) 6 0) 4 0) 5 0 (7 + 5 * k + i) = vc9 M (g + 3 + 6 * n) (7 + 5 * k + i) := fun i hi => by
          rw [pu_u_ne (by omega), pu_u_ne (by omega), pu_u_ne (by omega), pu_u_ne (by omega), pu_u_ne (by omega), pu_u_ne (by omega), pu_u_ne (by omega)]
        unfold lo9 fo9 le9'
        rw [e 2 (by omega), e 3 (by omega), e 4 (by omega)]
        exact hb1.1 k hk
      · rfl
      · rfl
    · rw [hv l q]
      exact hb l hl
  · intro l hl
    rw [ek] at hl
    rw [ekc l hl, hwv]
    by_cases q : l = n
    · rw [if_pos q, q, vc_W, ← hr]
      intro j hj
      rw [enew j (by omega)]
      rcases (show j = 0 ∨ j = 1 ∨ j = 2 ∨ j = 3 ∨ j = 4 ∨ j = 5 ∨ j = 6 by omega) with rfl | rfl | rfl | rfl | rfl | rfl | rfl <;> rfl
    · rw [if_neg q, hv l q]
      intro j hj
      have h6 := (rI l (by omega)).2.1
      rw [eold l j q (by omega)]
      exact hA l (by omega) j hj
  · intro l hl
    rw [ek] at hl
    rw [hw _ _ _ (by omega)]
    by_cases q : l = n
    · exact ⟨0, by omega, by rw [q]; exact pw_15⟩
    · obtain ⟨x, x1, x2⟩ := hh l (by omega)
      exact ⟨x, x1, (hcc l 15 q).trans x2⟩
  · intro i hi
    rw [ek, eh _ (by omega) (by omega), hT i hi, sm_s]
    have e1 : wr9 (pu_W M (g + 3 + 6 * n) r (fun _ => 0)) g 2 (nI n + 1) (g + 3 + 6 * n) (12 + i) = 0 := (hw _ _ _ (by omega)).trans (pw_t hi)
    rw [e1, Int32.add_zero]
    exact sm_cong (fun l hl => ((hw _ _ _ (by omega)).trans (hcc l _ (by omega))).symm)
theorem x0_noLane (hG : G8 z g) (h : GR8 M g Q B) (hn : ¬ kn8 Q < 3) : f_X0_addLane z g M = some (.inl (some (.int 0)), M) := by
  obtain ⟨h3, hR, h2, -⟩ := h
  unfold f_X0_addLane
  rw [gf_k hG.1, sb_k, h2, hR.1, if_neg (show ¬ nI (kn8 Q) < 3 from nI_nlt (b := 3) (by omega) (by have := hR.2.1; omega)), rz_0]
end RC
