section SC
variable {z : Sh9} {M M' M1 M2 : Mem9} {b c l k w n A B B' : Nat} {Q Q' : Nat → Int32} {x y u w9 : Int32}
/-! an object: its present row, how many are remembered, they, which slots are taken, what they hold -/
abbrev St8 : Type := (Nat → Int32) × Nat × (Nat → Nat → Int32) × (Nat → Int32) × (Nat → Nat → Int32)
def OB8 (M : Mem9) (b : Nat) (s : St8) (B : Nat) : Prop := GR8 M (b + 2) s.1 B ∧ (s.2.1 ≤ 14 ∧ DC8 M b s.2.1 s.2.2.1 B) ∧ ∀ j, j < 2 → b9 (s.2.2.2.1 j) ∧ M (b + 46) j = s.2.2.2.1 j ∧ (s.2.2.2.1 j = 1 → GR8 M (b + 341 + 21 * j) (s.2.2.2.2 j) B)
def pus8 (s : St8) (Q' : Nat → Int32) : St8 := (Q', ra8 s.2.1, rb8 s.2.1 s.2.2.1 s.1, s.2.2.2.1, s.2.2.2.2)
def pop8 (s : St8) : St8 := (s.2.2.1 (s.2.1 - 1), s.2.1 - 1, s.2.2.1, s.2.2.2.1, s.2.2.2.2)
def kee8 (s : St8) (i : Nat) : St8 := (s.1, s.2.1, s.2.2.1, (fun j => if j = i then 1 else s.2.2.2.1 j), fun j => if j = i then s.1 else s.2.2.2.2 j)
def bak8 (s : St8) (i : Nat) : St8 := (s.2.2.2.2 i, 0, s.2.2.1, s.2.2.2.1, s.2.2.2.2)
variable {s s' t : St8}
theorem dc_F {D : Nat → Nat → Int32} (h : DC8 M b A D B) (f : ∀ q k, q = b ∨ (b + 47 ≤ q ∧ q < b + 341) → M' q k = M q k) (hB : B ≤ B') : DC8 M' b A D B' := by
  obtain ⟨o, h1, h2, h3, h4⟩ := h
  refine ⟨o, h1, (f _ _ (Or.inl rfl)).trans h2, (f _ _ (Or.inl rfl)).trans h3, fun j hj => ?_⟩
  have hm : (o + j) % 14 < 14 := Nat.mod_lt _ (by decide)
  exact g8_mono (g8_same (h4 j hj) (fun q k a1 a2 => f q k (by omega))) hB
theorem ob_F (h : OB8 M b s B) (f : ∀ q k, b ≤ q → q < b + 383 → (q < b + 23 ∨ b + 44 ≤ q) → M' q k = M q k) : OB8 M' b s B := by
  obtain ⟨h1, ⟨h2, h3⟩, h4⟩ := h
  refine ⟨g8_same h1 (fun q k a1 a2 => f q k (by omega) (by omega) (by omega)), ⟨h2, dc_F h3 (fun q k a => f q k (by omega) (by omega) (by omega)) (Nat.le_refl _)⟩, fun j hj => ?_⟩
  obtain ⟨k1, k2, k3⟩ := h4 j hj
  exact ⟨k1, (f _ _ (by omega) (by omega) (by omega)).trans k2, fun e => g8_same (k3 e) (fun q k a1 a2 => f q k (by omega) (by omega) (by omega))⟩
/-- the copy doesn't count -/
theorem ob_q (h : OB8 M b s B) (f : F8 M M' (b + 23) 21) : OB8 M' b s B := ob_F h (fun q k _ _ h3 => f q k (by omega))
theorem ob_out (h : OB8 M b s B) (f : F8 M M' c 383) (ho : b + 383 ≤ c ∨ c + 383 ≤ b) : OB8 M' b s B := ob_F h (fun q k h1 h2 _ => f q k (by omega))
theorem ob_mono (h : OB8 M b s B) (hB : B ≤ B') : OB8 M b s B' := by
  obtain ⟨h1, ⟨h2, h3⟩, h4⟩ := h
  exact ⟨g8_mono h1 hB, ⟨h2, dc_F h3 (fun _ _ _ => rfl) hB⟩, fun j hj => ⟨(h4 j hj).1, (h4 j hj).2.1, fun e => g8_mono ((h4 j hj).2.2 e) hB⟩⟩
theorem f8_383 (f : F8 M M' (b + 23) 21) : F8 M M' b 383 := f8_in f (by omega) (by omega)
/-- remembering -/
theorem ob_rem (hz : HZ8 z b) (h : OB8 M b s B) : ∃ M1, f_X2_remember z b M = some (.inl none, M1) ∧ RC8 b M M1 ∧ DC8 M1 b (ra8 s.2.1) (rb8 s.2.1 s.2.2.1 s.1) B ∧ GR8 M1 (b + 2) s.1 B := by
  obtain ⟨h1, ⟨h2, h3⟩, h4⟩ := h
  obtain ⟨M1, t1, c1, r1⟩ := x2_remember hz h1 h2 h3
  exact ⟨M1, t1, c1, r1, g8_same h1 (fun q k a1 a2 => c1 q k (by omega) (fun _ => by omega))⟩
theorem ra_14 (h : A ≤ 14) : ra8 A ≤ 14 := by unfold ra8; split <;> omega
theorem ob_go (h : OB8 M b s B) (c1 : RC8 b M M1) (d1 : DC8 M1 b (ra8 s.2.1) (rb8 s.2.1 s.2.2.1 s.1) B) (f2 : F8 M1 M2 (b + 2) 21) (g2 : GR8 M2 (b + 2) Q' B') (hB : B ≤ B') : F8 M M2 b 383 ∧ OB8 M2 b (pus8 s Q') B' := by
  obtain ⟨h1, ⟨h2, h3⟩, h4⟩ := h
  have e : ∀ q k, b + 23 ≤ q → (q < b + 47 ∨ b + 341 ≤ q) → M2 q k = M q k := fun q k a1 a2 => (f2 q k (by omega)).trans (c1 q k a2 (fun _ => by omega))
  refine ⟨fun q k hq => ?_, g2, ⟨ra_14 h2, dc_F d1 (fun q k a => f2 q k (by omega)) hB⟩, fun j hj => ?_⟩
  · exact (f2 q k (by omega)).trans (c1 q k (by omega) (fun _ => by omega))
  · obtain ⟨k1, k2, k3⟩ := h4 j hj
    exact ⟨k1, (e _ _ (by omega) (by omega)).trans k2, fun q => g8_mono (g8_same (k3 q) (fun q k a1 a2 => e q k (by omega) (by omega))) hB⟩
/-- a call that comes to another state; one that comes to none -/
def AC8 (z : Sh9) (f : Nat → Mem9 → Re9) (s : St8) (v : Int32) (s' : St8) : Prop := ∀ b M B, HZ8 z b → B < 1000000000 → OB8 M b s B → ∃ M', f b M = some (.inl (some (.int v)), M') ∧ F8 M M' b 383 ∧ OB8 M' b s' (B + 180)
def QU8 (z : Sh9) (f : Nat → Mem9 → Re9) (s : St8) (v : Int32) : Prop := ∀ b M B, HZ8 z b → B < 1000000000 → OB8 M b s B → ∃ M', f b M = some (.inl (some (.int v)), M') ∧ F8 M M' (b + 23) 21
theorem qu_ac {f : Nat → Mem9 → Re9} (h : QU8 z f s x) : AC8 z f s x s := fun b M B hz hB ho => by
  obtain ⟨M', t, f⟩ := h b M B hz hB ho
  exact ⟨M', t, f8_383 f, ob_mono (ob_q ho f) (by omega)⟩
theorem qu_same {f : Nat → Mem9 → Re9} (h : ∀ b M B, HZ8 z b → OB8 M b s B → f b M = some (.inl (some (.int x)), M)) : QU8 z f s x := fun b M B hz _ ho => ⟨M, h b M B hz ho, f8_refl⟩
/-! the actions -/
theorem a_add (hn : kn8 s.1 < 3) : AC8 z (fun b M => f_L_call z b 7 x y w9 M) s (nI (kn8 s.1)) (pus8 s (ql8 s.1)) := fun b M B hz hBB h => by
  have hR := h.1.2.1
  obtain ⟨M1, t1, c1, d1, g1⟩ := ob_rem hz h
  obtain ⟨M2, t2, f2, g2⟩ := x0_addLane (hz_P hz) g1 hn
  have hk2 := (ri_ql hR hn).2
  have e22 := (g8_2 g2).1
  rw [hk2] at e22
  have hx : f_X2_lane z b M = some (.inl (some (.int (nI (kn8 s.1)))), M2) := by
    unfold f_X2_lane
    rw [hz_rP hz, sb_k, gf_k (hz_P hz).1, sb_k, (g8_2 h.1).1, if_pos (show nI _ < 3 from nI_lt (b := 3) hn (by decide)), iv_k hz.1.1, t1, bv_k, sb_k, iv_k (hz_P hz).1, t2, bi_k, sb_k, gf_k (hz_P hz).1, sb_k, e22, nI_pred]
    rfl
  obtain ⟨f3, o3⟩ := ob_go h c1 d1 f2 g2 (Nat.le_refl _)
  exact ⟨M2, ck_7 hz hx, f3, ob_mono o3 (by omega)⟩
theorem a_comes {len lost fol : Int32} (hl : l < kn8 s.1) (hlen : 2 ≤ len.toInt ∧ len.toInt ≤ 12) (hc : kc8 s.1 l < 6) (hlo : b9 lost) (hfo : b9 fol) : AC8 z (fun b M => f_L_comes z b (nI l) len lost fol M) s (nI (kc8 s.1 l + 1)) (pus8 s (qa8 l len lost fol s.1)) := fun b M B hz hBB h => by
  have hR := h.1.2.1
  obtain ⟨hI, hA1, hB1, hl3, hc0, -, -⟩ := g8_at h.1 hl
  have h6 := hI.2.1
  have e5 : M (b + 2 + 3 + 6 * l) 5 = nI (kc8 s.1 l) := hc0
  obtain ⟨M1, t1, c1, d1, g1⟩ := ob_rem hz h
  obtain ⟨M2, t2, f2, g2⟩ := x0_addV (hz_P hz) g1 hl hlen.1 hlen.2 hlo hfo hc
  obtain ⟨k1, k2⟩ := qa_kc hR hl hlen.1 hlen.2 hc hlo hfo
  have e6 : M2 (b + 2 + 3 + 6 * l) 5 = nI (kc8 s.1 l + 1) := by
    have := (g8_at g2 (by rw [k2]; exact hl)).2.2.2.2.1
    rw [k1] at this
    exact this
  have hx : f_X2_arrive z b (nI l) len lost fol M = some (.inl (some (.int (nI (kc8 s.1 l + 1)))), M2) := by
    unfold f_X2_arrive
    rw [iv_k hz.1.1, x2_checkLane hz h.1 (hl_in hl (by have := hR.2.1; omega)), bv_k, x2_length hlen, bv_k, hz_rP hz, sb_k, hz_rg (hz_P hz), sb_k, g8_la (hz_P hz) hl3, sb_k, gf_k ((hz_P hz).2.2.2 l hl3).1, sb_k, e5, if_pos (show nI _ < 6 from nI_lt (b := 6) hc (by decide)), iv_k hz.1.1, t1, bv_k, sb_k, iv_k (hz_P hz).1, t2, bi_k, sb_k, hz_rg (hz_P hz), sb_k, g8_la (hz_P hz) hl3, sb_k, gf_k ((hz_P hz).2.2.2 l hl3).1, sb_k, e6]
    rfl
  obtain ⟨f3, o3⟩ := ob_go h c1 d1 f2 g2 (Nat.le_refl _)
  exact ⟨M2, cm_ok hz hx, f3, ob_mono o3 (by omega)⟩
theorem a_loops {v : Int32} (hl : l < kn8 s.1) (hv : b9 v) : AC8 z (fun b M => f_L_loops z b (nI l) v M) s (rs8 (qb8 l v s.1) 4) (pus8 s (qb8 l v s.1)) := fun b M B hz hBB h => by
  have hR := h.1.2.1
  obtain ⟨M1, t1, c1, d1, g1⟩ := ob_rem hz h
  obtain ⟨M2, t2, f2, g2⟩ := x0_loop (hz_P hz) g1 hl hv
  have hx : f_X2_loop z b (nI l) v M = some (.inl (some (.int (rs8 (qb8 l v s.1) 4))), M2) := by
    unfold f_X2_loop
    rw [iv_k hz.1.1, x2_checkLane hz h.1 (hl_in hl (by have := hR.2.1; omega)), bv_k, iv_k hz.1.1, t1, bv_k, hz_rP hz, sb_k, iv_k (hz_P hz).1, t2, bi_k, sb_k, show (8 : Int32) = nI 8 from rfl, x0_tot (hz_P hz) g2 (by decide) (by decide), iv_k (hz_P hz).1, bi_k]
    rfl
  obtain ⟨f3, o3⟩ := ob_go h c1 d1 f2 g2 (Nat.le_refl _)
  exact ⟨M2, cl_ok hz hx, f3, ob_mono o3 (by omega)⟩
theorem a_mend (hl : l < kn8 s.1) (hc : cb8 s.1 l) : AC8 z (fun b M => f_L_call z b 8 (nI l) y w9 M) s (pu_s s.1 l 1) (pus8 s (qm8 l s.1)) := fun b M B hz hBB h => by
  have hR := h.1.2.1
  have hl3 := (g8_at h.1 hl).2.2.2.1
  obtain ⟨M1, t1, c1, d1, g1⟩ := ob_rem hz h
  obtain ⟨M2, t2, f2, g2⟩ := x0_mend (hz_P hz) g1 hl hc
  have hIm := pI_5 (Or.inl rfl : b9 0) (hR.2.2.2 l hl)
  have ek : kn8 (qm8 l s.1) = kn8 s.1 := (ri_S hR hl hIm).2
  have e6 : M2 (b + 2 + 3 + 6 * l) 6 = pu_s s.1 l 1 := by
    have h2 := (g8_at g2 (by rw [ek]; exact hl)).2.1 1 (by omega)
    have h3 : pu_s (qm8 l s.1) l 1 = pu_s s.1 l 1 := (ps_l (by decide)).trans (pu_u_ne (by decide))
    exact h2.symm.trans h3
  have hx : f_X2_mend z b (nI l) M = some (.inl (some (.int (pu_s s.1 l 1))), M2) := by
    unfold f_X2_mend
    rw [iv_k hz.1.1, x2_checkLane hz h.1 (hl_in hl (by have := hR.2.1; omega)), bv_k, hz_rP hz, sb_k, hz_rg (hz_P hz), sb_k, g8_la (hz_P hz) hl3, sb_k, iv_k ((hz_P hz).2.2.2 l hl3).1, x1_mend (hz_P hz) h.1 hl, bi_k, if_pos hc, if_neg (by decide), iv_k hz.1.1, t1, bv_k, sb_k, iv_k (hz_P hz).1, t2, bi_k, sb_k, hz_rg (hz_P hz), sb_k, g8_la (hz_P hz) hl3, sb_k, gf_k ((hz_P hz).2.2.2 l hl3).1, sb_k, e6]
    rfl
  obtain ⟨f3, o3⟩ := ob_go h c1 d1 f2 g2 (Nat.le_refl _)
  exact ⟨M2, ck_8 hz hx, f3, ob_mono o3 (by omega)⟩
def rv8 (Q : Nat → Int32) (n : Nat) : Int32 := rn8 n Q 3 + rn8 n Q 4 - (Q 3 + Q 4)
theorem a_run (h1 : 1 ≤ n) (hn : n ≤ 60) : AC8 z (fun b M => f_L_call z b 9 (nI n) y w9 M) s (rv8 s.1 n) (pus8 s (rn8 n s.1)) := fun b M B hz hBB h => by
  obtain ⟨M1, t1, c1, d1, g1⟩ := ob_rem hz h
  obtain ⟨M2, t2, f2, g2⟩ := x0_lets (hz_P hz) g1 h1 hn
  have x4 : f_X0_total z (b + 2) 4 M1 = some (.inl (some (.int (s.1 3))), M1) := (x0_tot (w := 4) (hz_P hz) g1 (by decide) (by decide)).trans (by rw [ab_4])
  have x5 : f_X0_total z (b + 2) 5 M1 = some (.inl (some (.int (s.1 4))), M1) := (x0_tot (w := 5) (hz_P hz) g1 (by decide) (by decide)).trans (by rw [ab_5])
  have y4 : f_X0_total z (b + 2) 4 M2 = some (.inl (some (.int (rn8 n s.1 3))), M2) := (x0_tot (w := 4) (hz_P hz) g2 (by decide) (by decide)).trans (by rw [ab_4])
  have y5 : f_X0_total z (b + 2) 5 M2 = some (.inl (some (.int (rn8 n s.1 4))), M2) := (x0_tot (w := 5) (hz_P hz) g2 (by decide) (by decide)).trans (by rw [ab_5])
  have hx : f_X2_run z b (nI n) M = some (.inl (some (.int (rv8 s.1 n))), M2) := by
    unfold f_X2_run
    rw [if_neg (show ¬ nI n < 1 from nI_nlt (b := 1) h1 (by omega)), if_pos (show nI n ≤ 60 from nI_le (b := 60) hn (by decide)), iv_k hz.1.1, t1, bv_k, hz_rP hz, sb_k, iv_k (hz_P hz).1, x4, bi_k, sb_k, iv_k (hz_P hz).1, x5, bi_k, nm_k, sb_k, iv_k (hz_P hz).1, t2, bi_k, sb_k, iv_k (hz_P hz).1, y4, bi_k, sb_k, iv_k (hz_P hz).1, y5, bi_k]
    rfl
  obtain ⟨f3, o3⟩ := ob_go h c1 d1 f2 (g8_mono g2 (show B + 3 * n ≤ B + 180 by omega)) (by omega)
  exact ⟨M2, ck_9 hz hx, f3, o3⟩
theorem a_lay (hs : se8 x y) : ∃ i, i < 3 ∧ x = nI i ∧ AC8 z (fun b M => f_L_call z b 10 x y w9 M) s (s.1 (7 + i)) (pus8 s (qs8 i y s.1)) := by
  obtain ⟨i, hi, rfl⟩ : ∃ i, i < 3 ∧ x = nI i := by
    rcases hs with ⟨h, -⟩ | ⟨h, -⟩ | ⟨h, -⟩
    · exact ⟨0, by omega, h⟩
    · exact ⟨1, by omega, h⟩
    · exact ⟨2, by omega, h⟩
  refine ⟨i, hi, rfl, fun b M B hz hBB h => ?_⟩
  obtain ⟨M1, t1, c1, d1, g1⟩ := ob_rem hz h
  obtain ⟨i', M2, hi', e', t2, f2, g2⟩ := x0_set (hz_P hz) g1 hs
  have ei : i' = i := ((nI_eq (by omega) (by omega)).mp e').symm
  subst ei
  have hx : f_X2_set z b (nI i') y M = some (.inl (some (.int (s.1 (7 + i')))), M2) := by
    unfold f_X2_set
    rw [x2_setting, bi_k, if_pos hs, if_neg (by decide), iv_k hz.1.1, t1, bv_k, hz_rP hz, sb_k, rf_k (hz_P hz).1, sb_k, ld_k (hz_P hz).2.2.1 hi (by decide), sb_k, g1.2.2.2.1 i' hi, sb_k, iv_k (hz_P hz).1, t2, bi_k]
    rfl
  obtain ⟨f3, o3⟩ := ob_go h c1 d1 f2 g2 (Nat.le_refl _)
  exact ⟨M2, ck_10 hz hx, f3, ob_mono o3 (by omega)⟩
theorem a_undo (hA : 1 ≤ s.2.1) : AC8 z (fun b M => f_L_call z b 11 x y w9 M) s (nI (s.2.1 - 1)) (pop8 s) := fun b M B hz hBB h => by
  obtain ⟨h1, ⟨h2, o, d3, d4, d5, d6⟩, h4⟩ := h
  obtain ⟨k, hk⟩ : ∃ k, s.2.1 = k + 1 := ⟨s.2.1 - 1, by omega⟩
  obtain ⟨i, hi, hi14⟩ : ∃ i, i = (o + k) % 14 ∧ i < 14 := ⟨_, rfl, by omega⟩
  have hrm : rm9 (nI o + nI k) 14 = some (nI i) := by rw [nI_add, rm_14 _ (by omega), hi]
  have hg : GR8 M (b + 47 + 21 * i) (s.2.2.1 k) B := by rw [hi]; exact d6 k (by omega)
  obtain ⟨M2, t2, f2, g2⟩ := x0_copy (M := wr9 M b 6 (nI k)) (hz_P hz) (hz.2.2.2.2.1 i hi14) (by omega) (g8_out hg (f8_w (b := b) (k := 6) (v := nI k)) (by omega))
  rw [hk] at d5
  have hx : f_X2_undo z b M = some (.inl (some (.int (nI k))), M2) := by
    unfold f_X2_undo
    rw [gf_k hz.1.1, sb_k, d5, if_pos (show (0 : Int32) < nI (k + 1) from nI_lt (a := 0) (by omega) (by omega)), sb_k, nI_pred, pf_k hz.1.1, sb_k, hz_rP hz, sb_k, rf_k hz.1.1, sb_k, gf_k hz.1.1, sb_k, gf_k hz.1.1, sb_k, wr_nk (by decide), wr_eq, d4, hrm, sb_k, hz_la15 hz hi14, sb_k, iv_k (hz_P hz).1, t2, bv_k, gf_k hz.1.1, sb_k, f2 b 6 (by omega), wr_eq]
    rfl
  have e2 : ∀ q k', q ≠ b → (q < b + 2 ∨ b + 23 ≤ q) → M2 q k' = M q k' := fun q k' a1 a2 => by rw [f2 q k' (by omega), wr_na a1]
  have ek : s.2.1 - 1 = k := by omega
  refine ⟨M2, by rw [ek]; exact ck_11 hz hx, fun q k' hq => e2 q k' (by omega) (by omega), ob_mono (B := B) ?_ (by omega)⟩
  show OB8 M2 b (s.2.2.1 (s.2.1 - 1), s.2.1 - 1, s.2.2.1, s.2.2.2.1, s.2.2.2.2) B
  rw [ek]
  refine ⟨g2, ⟨by show k ≤ 14; omega, o, d3, ?_, ?_, fun j hj => ?_⟩, fun j hj => ?_⟩
  · rw [f2 b 5 (by omega), wr_nk (by decide)]; exact d4
  · rw [f2 b 6 (by omega), wr_eq]
  · have hm : (o + j) % 14 < 14 := Nat.mod_lt _ (by decide)
    exact g8_same (d6 j (by have : j < k := hj; omega)) (fun q k' a1 a2 => e2 q k' (by omega) (by omega))
  · obtain ⟨k1, k2, k3⟩ := h4 j hj
    exact ⟨k1, (e2 _ _ (by omega) (by omega)).trans k2, fun e => g8_same (k3 e) (fun q k' a1 a2 => e2 q k' (by omega) (by omega))⟩
theorem q_undo_s (hA : s.2.1 = 0) : QU8 z (fun b M => f_L_call z b 11 x y w9 M) s (-9999003) := qu_same (fun b M B hz h => by
  obtain ⟨h1, ⟨h2, o, d3, d4, d5, d6⟩, h4⟩ := h
  refine ce_11s hz ?_
  unfold f_X2_undo
  rw [gf_k hz.1.1, sb_k, d5, hA, if_neg (by decide)]
  rfl)
theorem a_keep {i : Nat} (hi : i ≤ 1) : AC8 z (fun b M => f_L_call z b 17 (nI i) y w9 M) s (s.1 1) (kee8 s i) := fun b M B hz hBB h => by
  obtain ⟨h1, ⟨h2, h3⟩, h4⟩ := h
  have hy : 0 ≤ (nI i).toInt ∧ (nI i).toInt ≤ 1 := by rw [nI_toInt (by omega)]; omega
  obtain ⟨M1, t1, f1, g1⟩ := x0_copy (hz.2.2.2.2.2 i (by omega)) (hz_P hz) (by omega) h1
  have hx : f_X2_save z b (nI i) M = some (.inl (some (.int (s.1 1))), wr9 M1 (b + 46) i 1) := by
    unfold f_X2_save
    rw [x2_slot hy, bv_k, rf_k hz.1.1, sb_k, hz_la16 hz (by omega), sb_k, hz_rP hz, sb_k, iv_k (hz.2.2.2.2.2 i (by omega)).1, t1, bv_k, rf_k hz.1.1, sb_k, sz_k hz.1.2.2.2.2 (by omega) (by decide) (Or.inr rfl), sb_k, sb_k, gf_k (hz_P hz).1, sb_k, wr_na (by omega), f1 _ _ (by omega), h1.1]
    rfl
  have e : ∀ q k, (q < b + 341 + 21 * i ∨ b + 341 + 21 * i + 21 ≤ q) → q ≠ b + 46 → wr9 M1 (b + 46) i 1 q k = M q k := fun q k a1 a2 => by rw [wr_na a2, f1 q k (by omega)]
  refine ⟨_, ck_17 hz hx, fun q k hq => e q k (by omega) (by omega), ob_mono (B := B) ?_ (by omega)⟩
  refine ⟨g8_same h1 (fun q k a1 a2 => e q k (by omega) (by omega)), ⟨h2, dc_F h3 (fun q k a => e q k (by omega) (by omega)) (Nat.le_refl _)⟩, fun j hj => ?_⟩
  show b9 (if j = i then 1 else s.2.2.2.1 j) ∧ wr9 M1 (b + 46) i 1 (b + 46) j = (if j = i then 1 else s.2.2.2.1 j) ∧ ((if j = i then 1 else s.2.2.2.1 j) = 1 → GR8 (wr9 M1 (b + 46) i 1) (b + 341 + 21 * j) (if j = i then s.1 else s.2.2.2.2 j) B)
  by_cases e0 : j = i
  · subst e0
    rw [if_pos rfl, if_pos rfl, wr_eq]
    exact ⟨Or.inr rfl, rfl, fun _ => g8_same g1 (fun q k a1 a2 => wr_na (by omega))⟩
  · rw [if_neg e0, if_neg e0, wr_nk e0, f1 _ _ (by omega)]
    obtain ⟨k1, k2, k3⟩ := h4 j hj
    exact ⟨k1, k2, fun q => g8_same (k3 q) (fun q k a1 a2 => e q k (by omega) (by omega))⟩
theorem a_back {i : Nat} (hi : i ≤ 1) (hv : s.2.2.2.1 i = 1) : AC8 z (fun b M => f_L_call z b 18 (nI i) y w9 M) s (s.2.2.2.2 i 1) (bak8 s i) := fun b M B hz hBB h => by
  obtain ⟨h1, ⟨h2, h3⟩, h4⟩ := h
  have hy : 0 ≤ (nI i).toInt ∧ (nI i).toInt ≤ 1 := by rw [nI_toInt (by omega)]; omega
  obtain ⟨k1, k2, k3⟩ := h4 i (by omega)
  have hk : M (b + 46) i = 1 := k2.trans hv
  obtain ⟨M1, t1, f1, g1⟩ := x0_copy (hz_P hz) (hz.2.2.2.2.2 i (by omega)) (by omega) (k3 hv)
  have hx : f_X2_restore z b (nI i) M = some (.inl (some (.int (s.2.2.2.2 i 1))), wr9 (wr9 M1 b 5 0) b 6 0) := by
    unfold f_X2_restore
    rw [x2_slot hy, bv_k, rf_k hz.1.1, sb_k, ld_k hz.1.2.2.2.2 (by omega) (by decide), sb_k, hk, if_neg (by decide), hz_rP hz, sb_k, rf_k hz.1.1, sb_k, hz_la16 hz (by omega), sb_k, iv_k (hz_P hz).1, t1, bv_k, iv_k hz.1.1]
    unfold f_X2_forgetAll
    rw [pf_k hz.1.1, sb_k, pf_k hz.1.1, sb_k]
    show bv9 (some (.inl none, wr9 (wr9 M1 b 5 0) b 6 0)) _ = _
    rw [bv_k, sb_k, gf_k (hz_P hz).1, sb_k, wr_na (by omega), wr_na (by omega), g1.1]
    rfl
  have e : ∀ q k, (q < b + 2 ∨ b + 23 ≤ q) → q ≠ b → wr9 (wr9 M1 b 5 0) b 6 0 q k = M q k := fun q k a1 a2 => by rw [wr_na a2, wr_na a2, f1 q k a1]
  refine ⟨_, ck_18 hz hx, fun q k hq => e q k (by omega) (by omega), ob_mono (B := B) ?_ (by omega)⟩
  refine ⟨g8_same g1 (fun q k a1 a2 => by rw [wr_na (by omega), wr_na (by omega)]), ⟨Nat.zero_le _, 0, by omega, ?_, ?_, fun j hj => absurd hj (Nat.not_lt_zero j)⟩, fun j hj => ?_⟩
  · rw [wr_nk (by decide), wr_eq]; rfl
  · rw [wr_eq]; rfl
  · obtain ⟨q1, q2, q3⟩ := h4 j hj
    exact ⟨q1, (e _ _ (by omega) (by omega)).trans q2, fun q => g8_same (q3 q) (fun q k a1 a2 => e q k (by omega) (by omega))⟩
theorem q_back_s {i : Nat} (hi : i ≤ 1) (hv : s.2.2.2.1 i = 0) : QU8 z (fun b M => f_L_call z b 18 (nI i) y w9 M) s (-9999003) := qu_same (fun b M B hz h => by
  obtain ⟨h1, ⟨h2, h3⟩, h4⟩ := h
  have hy : 0 ≤ (nI i).toInt ∧ (nI i).toInt ≤ 1 := by rw [nI_toInt (by omega)]; omega
  obtain ⟨k1, k2, k3⟩ := h4 i (by omega)
  refine ce_18s hz ?_
  unfold f_X2_restore
  rw [x2_slot hy, bv_k, rf_k hz.1.1, sb_k, ld_k hz.1.2.2.2.2 (by omega) (by decide), sb_k, k2, hv, if_pos rfl]
  rfl)
end SC
