section SC
variable {z : Sh9} {M M' M1 M2 M6 N N' : Mem9} {g x y x0 n c b sg B B' l a A gg w h d d1 d2 u v q k lo hi i p T : Nat} {Q Q' Q0 R gr : Nat → Int32} {s : Nat → Int32}
/-! a text, on both sides -/
def EL8 (z : Sh9) (a T : Nat) (s : Nat → Int32) (rem p : Nat) (Q : Nat → Int32) (W : Int32) : Prop :=
  (∀ M m i, TT8 M a T s → rem < m → i < p → fx9 (fun _ _ _ _ => none) (f_X2_errorPosition_b16 z) m a (nI p) (nI i) M = some (.inl (some (.int W)), M)) ∧
  ((¬ W = -1 ∧ ∀ N m, TT8 N a T s → rem < m → N (a + 383) 11 = nI p → N (a + 386) = Q → ∃ N', fx9 (fun _ _ _ => none) (f_X3_readText_b31 z) m (a + 383) (a + 386) N = some (.inl (some (.int W)), N') ∧ Y8 a N N') ∨
   (W = -1 ∧ ∃ (cnt : Nat) (Qf : Nat → Int32), RI8 Qf ∧ (∀ N m, TT8 N a T s → rem < m → N (a + 383) 11 = nI p → N (a + 386) = Q → ∃ N', fx9 (fun _ _ _ => none) (f_X3_readText_b31 z) m (a + 383) (a + 386) N = some (.inl (some (.int (-1))), N') ∧ Y8 a N N' ∧ N' (a + 386) = Qf ∧ N' (a + 383) 12 = N (a + 383) 12 + nI cnt) ∧ (∀ M m i B (lo : Int32), TT8 M a T s → rem < m → i < p → GR8 M (a + 2) Q B → ∃ M', fx9 (fun _ _ _ _ _ => none) (f_X2_load_b55 z) m a lo (nI p) (nI i) M = some (.inl (some (.int (lo + nI cnt))), M') ∧ F8 M M' (a + 2) 21 ∧ GR8 M' (a + 2) Qf (B + 180 * rem))))
theorem tt_F (h : TT8 M a T s) (f : F8 M M' (a + 2) 21) : TT8 M' a T s := tt_f h (fun q k hq => f q k (by omega))
theorem el_end (hz : HZ8 z a) (hT : T ≤ 120) (hp : T ≤ p) (hp2 : p ≤ 200) (hQ : RI8 Q) : EL8 z a T s k p Q (-1) := by
  refine ⟨fun M m i h hm hi => ?_, Or.inr ⟨rfl, 0, Q, hQ, fun N m h hm hs hN => ⟨N, ?_, y8_refl, hN, (Int32.add_zero _).symm⟩, fun M m i B lo h hm hi hg => ⟨M, ?_, f8_refl, g8_mono hg (by omega)⟩⟩⟩
  · obtain ⟨m, rfl⟩ : ∃ q, m = q + 1 := ⟨m - 1, by omega⟩
    rw [fx_k]
    unfold f_X2_errorPosition_b16
    rw [gf_k hz.1.1, sb_k, h.2.1, if_pos (nI_le hp (by omega))]
    by_cases e : (120 : Int32) ≤ nI i
    · rw [if_pos e]
      rfl
    · rw [if_neg e]
      rfl
  · obtain ⟨m, rfl⟩ : ∃ q, m = q + 1 := ⟨m - 1, by omega⟩
    rw [fx_k]
    unfold f_X3_readText_b31
    rw [gf_k (hz_x0 hz), sb_k, gf_k (hz_x0 hz), sb_k, hs, h.2.2.1, if_pos (nI_le hp (by omega))]
    rfl
  · obtain ⟨m, rfl⟩ : ∃ q, m = q + 1 := ⟨m - 1, by omega⟩
    have e0 : lo + nI 0 = lo := Int32.add_zero lo
    rw [fx_k, e0]
    unfold f_X2_load_b55
    rw [gf_k hz.1.1, sb_k, h.2.1, if_pos (nI_le hp (by omega))]
    by_cases e : (120 : Int32) ≤ nI i
    · rw [if_pos e]
      rfl
    · rw [if_neg e]
      rfl
theorem el_all (hz : HZ8 z a) (hT : T ≤ 120) : ∀ rem p Q, T ≤ p + rem → p ≤ 200 → 1 ≤ p → RI8 Q → ∃ W, EL8 z a T s rem p Q W := by
  intro rem
  induction rem with
  | zero => intro p Q hp hp2 h1 hQ; exact ⟨-1, el_end hz hT (by omega) hp2 hQ⟩
  | succ rem ih =>
    intro p Q hp hp2 h1 hQ
    by_cases hpT : T ≤ p
    · exact ⟨-1, el_end hz hT hpT hp2 hQ⟩
    · have hpl : p < T := by omega
      have c120 : ∀ i, i < p → ¬ (120 : Int32) ≤ nI i := fun i hi => nI_ge (b := 120) (by omega) (by decide)
      have cT : ¬ nI T ≤ nI p := nI_ge hpl (by omega)
      rcases tc_all (z := z) (a := a) (s := s) hz hpl hT hQ with ⟨q, hq, hw, hm0⟩ | ⟨len, v, Q', hl1, hl6, hv, hQ', hcl, hdo, hrd⟩
      · have hne : ¬ nI q = -1 := nI_ne1 (by omega)
        refine ⟨nI q, fun M m i h hm hi => ?_, Or.inl ⟨hne, fun N m h hm hs hN => ?_⟩⟩
        · obtain ⟨m, rfl⟩ : ∃ q, m = q + 1 := ⟨m - 1, by omega⟩
          rw [fx_k]
          unfold f_X2_errorPosition_b16
          rw [if_neg (c120 i hi), gf_k hz.1.1, sb_k, h.2.1, if_neg cT, iv_k hz.1.1, hw M h, bi_k, if_neg hne]
          rfl
        · obtain ⟨m, rfl⟩ : ∃ q, m = q + 1 := ⟨m - 1, by omega⟩
          obtain ⟨N', t, p1, y1⟩ := hm0 N h hs hN
          refine ⟨N', ?_, y1⟩
          rw [fx_k]
          unfold f_X3_readText_b31
          rw [gf_k (hz_x0 hz), sb_k, gf_k (hz_x0 hz), sb_k, hs, h.2.2.1, if_neg cT, iv_k (hz_x0 hz), t, bi_k, if_pos rfl, gf_k (hz_x0 hz), sb_k, p1]
          rfl
      · obtain ⟨W, hec, hrest⟩ := ih (p + len) Q' (by omega) (by omega) (by omega) hQ'
        have hE : ∀ M m i, TT8 M a T s → rem + 1 < m → i < p → fx9 (fun _ _ _ _ => none) (f_X2_errorPosition_b16 z) m a (nI p) (nI i) M = some (.inl (some (.int W)), M) := fun M m i h hm hi => by
          obtain ⟨m, rfl⟩ : ∃ q, m = q + 1 := ⟨m - 1, by omega⟩
          obtain ⟨c1, c2⟩ := hcl M h
          rw [fx_k]
          unfold f_X2_errorPosition_b16
          rw [if_neg (c120 i hi), gf_k hz.1.1, sb_k, h.2.1, if_neg cT, iv_k hz.1.1, c1, bi_k, if_pos rfl, iv_k hz.1.1, c2, bi_k, nm_k, nI_add, nI_1]
          exact hec M m (i + 1) h (by omega) (by omega)
        have hR : ∀ N m, TT8 N a T s → N (a + 383) 11 = nI p → N (a + 386) = Q → ∃ N1, fx9 (fun _ _ _ => none) (f_X3_readText_b31 z) (m + 1) (a + 383) (a + 386) N = fx9 (fun _ _ _ => none) (f_X3_readText_b31 z) m (a + 383) (a + 386) N1 ∧ TT8 N1 a T s ∧ N1 (a + 383) 11 = nI (p + len) ∧ N1 (a + 383) 12 = N (a + 383) 12 + (if v = 0 then 1 else 0) ∧ N1 (a + 386) = Q' ∧ Y8 a N N1 := fun N m h hs hN => by
          obtain ⟨N1, t, p1, o1, r1, y1⟩ := hrd N h hs hN
          refine ⟨N1, ?_, tt_y h y1, p1, o1, r1, y1⟩
          rw [fx_k]
          show f_X3_readText_b31 z (fx9 (fun _ _ _ => none) (f_X3_readText_b31 z) m) (a + 383) (a + 386) N = _
          generalize fx9 (fun _ _ _ => none) (f_X3_readText_b31 z) m = G
          unfold f_X3_readText_b31
          rw [gf_k (hz_x0 hz), sb_k, gf_k (hz_x0 hz), sb_k, hs, h.2.2.1, if_neg cT, iv_k (hz_x0 hz), t, bi_k, if_neg (by decide)]
        refine ⟨W, hE, ?_⟩
        rcases hrest with ⟨hW, hm0⟩ | ⟨hW, cnt, Qf, hQf, hm0, hld⟩
        · left
          refine ⟨hW, fun N m h hm hs hN => ?_⟩
          obtain ⟨m, rfl⟩ : ∃ q, m = q + 1 := ⟨m - 1, by omega⟩
          obtain ⟨N1, t1, h1', p1, o1, r1, y1⟩ := hR N m h hs hN
          obtain ⟨N', t', y'⟩ := hm0 N1 m h1' (by omega) p1 r1
          exact ⟨N', t1.trans t', y8_trans y1 y'⟩
        · right
          refine ⟨hW, (if v = 0 then 1 else 0) + cnt, Qf, hQf, fun N m h hm hs hN => ?_, fun M m i B lo h hm hi hg => ?_⟩
          · obtain ⟨m, rfl⟩ : ∃ q, m = q + 1 := ⟨m - 1, by omega⟩
            obtain ⟨N1, t1, h1', p1, o1, r1, y1⟩ := hR N m h hs hN
            obtain ⟨N', t', y', r', o'⟩ := hm0 N1 m h1' (by omega) p1 r1
            refine ⟨N', t1.trans t', y8_trans y1 y', r', ?_⟩
            rw [o', o1, Int32.add_assoc, ← nI_add, nI_b]
          · obtain ⟨m, rfl⟩ : ∃ q, m = q + 1 := ⟨m - 1, by omega⟩
            obtain ⟨M1, t1, f1, g1⟩ := hdo M B h hg
            have h1' := tt_F h f1
            obtain ⟨M2, t2, f2, g2⟩ := hld M1 m (i + 1) (B + 180) (lo + (if v = 0 then 1 else 0)) h1' (by omega) (by omega) g1
            refine ⟨M2, ?_, f8_trans f1 f2, by rw [show B + 180 * (rem + 1) = B + 180 + 180 * rem by omega]; exact g2⟩
            rw [← nI_add, nI_b, ← Int32.add_assoc, ← t2, fx_k]
            show f_X2_load_b55 z (fx9 (fun _ _ _ _ _ => none) (f_X2_load_b55 z) m) a lo (nI p) (nI i) M = _
            generalize fx9 (fun _ _ _ _ _ => none) (f_X2_load_b55 z) m = G
            unfold f_X2_load_b55
            rw [if_neg (c120 i hi), gf_k hz.1.1, sb_k, h.2.1, if_neg cT, iv_k hz.1.1, t1, bi_k]
            have e80 : ∀ lo' : Int32, f_X2_load_b80 z G a lo' (nI p) (nI i) M1 = G a lo' (nI (p + len)) (nI (i + 1)) M1 := fun lo' => by
              unfold f_X2_load_b80
              rw [iv_k hz.1.1, (hcl M1 h1').2, bi_k, nm_k, nI_add, nI_1]
            by_cases e : v = 0
            · rw [if_pos e, if_pos e, e80]
            · rw [if_neg e, if_neg e, e80, Int32.add_zero]
theorem cl_R : RI8 (cl8 gr) := ri_mk (n := 0) (cs := fun _ => 0) rfl (by omega) ⟨2, by omega, rfl⟩ (fun l hl => by omega)
/-- the whole text, on both sides; gr is the model's trial row before -/
def EW8 (z : Sh9) (a T : Nat) (s : Nat → Int32) (gr : Nat → Int32) (W : Int32) : Prop :=
  (∀ M, TT8 M a T s → f_X2_errorPosition z a M = some (.inl (some (.int W)), M)) ∧
  ((¬ W = -1 ∧ ∀ N, TT8 N a T s → N (a + 386) = gr → ∃ N', f_X3_readText z (a + 383) (a + 386) N = some (.inl (some (.int W)), N') ∧ Y8 a N N') ∨
   (W = -1 ∧ ∃ (cnt : Nat) (Qf : Nat → Int32), RI8 Qf ∧ (∀ N, TT8 N a T s → N (a + 386) = gr → ∃ N', f_X3_readText z (a + 383) (a + 386) N = some (.inl (some (.int (-1))), N') ∧ Y8 a N N' ∧ N' (a + 386) = Qf ∧ N' (a + 383) 12 = nI cnt) ∧ (∀ M B, TT8 M a T s → GR8 M (a + 2) (cl8 gr) B → ∃ M', fx9 (fun _ _ _ _ _ => none) (f_X2_load_b55 z) FU9 a (0 : Int32) (1 : Int32) (0 : Int32) M = some (.inl (some (.int (nI cnt))), M') ∧ F8 M M' (a + 2) 21 ∧ GR8 M' (a + 2) Qf (B + 21600))))
theorem ew_all (hz : HZ8 z a) (hT : T ≤ 120) : ∃ W, EW8 z a T s gr W := by
  have hpre : ∀ N, TT8 N a T s → N (a + 386) = gr → ∃ N0, f_X3_readText z (a + 383) (a + 386) N = (if s 0 = (71 : Int32) then ((pf9 z N0 (a + 383) 3 11 (1 : Int32)).bind fun M6 => (fx9 (fun _ _ _ => none) (f_X3_readText_b31 z) FU9 (a + 383) (a + 386) M6)) else (ri9 (0 : Int32) N0)) ∧ TT8 N0 a T s ∧ N0 (a + 386) = cl8 gr ∧ N0 (a + 383) 12 = 0 ∧ Y8 a N N0 := fun N h hN => by
    have tc := m_clear (M := N) (x := a + 386) (hz_try hz)
    rw [hN] at tc
    have hy : Y8 a N (wr9 (wr9 (pu_R N (a + 386) (cl8 gr)) (a + 383) 12 0) (a + 383) 11 0) := y8_trans (y8_trans y8_R (y8_w (by omega))) (y8_w (by omega))
    have ht := tt_y h hy
    refine ⟨wr9 (wr9 (pu_R N (a + 386) (cl8 gr)) (a + 383) 12 0) (a + 383) 11 0, ?_, ht, row_w11 (row_w12 row_R), by rw [wr_nk (by decide), wr_eq], hy⟩
    have ea : f_X3_at z (a + 383) 0 (wr9 (wr9 (pu_R N (a + 386) (cl8 gr)) (a + 383) 12 0) (a + 383) 11 0) = _ := m_at (i := 0) hz ht (by omega)
    unfold f_X3_readText
    rw [tc, bv_k, pf_k (hz_x0 hz), sb_k, pf_k (hz_x0 hz), sb_k, iv_k (hz_x0 hz), ea, bi_k]
  have hcp : ∀ M, TT8 M a T s → f_X2_errorPosition z a M = (if s 0 = (71 : Int32) then (fx9 (fun _ _ _ _ => none) (f_X2_errorPosition_b16 z) FU9 a (1 : Int32) (0 : Int32) M) else (ri9 (0 : Int32) M)) := fun M h => by
    have e := x2_sign (i := 0) hz h (by omega)
    have e' : f_X2_signAt z a 0 M = _ := e
    unfold f_X2_errorPosition
    rw [iv_k hz.1.1, e', bi_k]
  by_cases hG : s 0 = 71
  · obtain ⟨W, hec, hrest⟩ := el_all (z := z) (a := a) (s := s) (T := T) hz hT 120 1 (cl8 gr) (by omega) (by omega) (by omega) cl_R
    have h11 : ∀ N0 : Mem9, TT8 N0 a T s → N0 (a + 386) = cl8 gr → N0 (a + 383) 12 = 0 → pf9 z N0 (a + 383) 3 11 (1 : Int32) = some (wr9 N0 (a + 383) 11 (nI 1)) := fun N0 _ _ _ => pf_k (hz_x0 hz)
    refine ⟨W, fun M h => ?_, ?_⟩
    · rw [hcp M h, if_pos hG]
      exact hec M FU9 0 h (by unfold FU9; omega) (by omega)
    · rcases hrest with ⟨hW, hm0⟩ | ⟨hW, cnt, Qf, hQf, hm0, hld⟩
      · left
        refine ⟨hW, fun N h hN => ?_⟩
        obtain ⟨N0, t0, h0, r0, o0, y0⟩ := hpre N h hN
        obtain ⟨N', t', y'⟩ := hm0 (wr9 N0 (a + 383) 11 (nI 1)) FU9 (tt_w11 h0) (by unfold FU9; omega) wr_eq (row_w11 r0)
        refine ⟨N', ?_, y8_trans y0 (y8_trans (y8_w (by omega)) y')⟩
        rw [t0, if_pos hG, h11 N0 h0 r0 o0, sb_k]
        exact t'
      · right
        refine ⟨hW, cnt, Qf, hQf, fun N h hN => ?_, fun M B h hg => ?_⟩
        · obtain ⟨N0, t0, h0, r0, o0, y0⟩ := hpre N h hN
          obtain ⟨N', t', y', r', o'⟩ := hm0 (wr9 N0 (a + 383) 11 (nI 1)) FU9 (tt_w11 h0) (by unfold FU9; omega) wr_eq (row_w11 r0)
          refine ⟨N', ?_, y8_trans y0 (y8_trans (y8_w (by omega)) y'), r', ?_⟩
          · rw [t0, if_pos hG, h11 N0 h0 r0 o0, sb_k]
            exact t'
          · rw [o', wr_nk (by decide), o0, Int32.zero_add]
        · obtain ⟨M', t', f', g'⟩ := hld M FU9 0 B 0 h (by unfold FU9; omega) (by omega) hg
          rw [Int32.zero_add] at t'
          exact ⟨M', t', f', g'⟩
  · refine ⟨0, fun M h => ?_, Or.inl ⟨by decide, fun N h hN => ?_⟩⟩
    · rw [hcp M h, if_neg hG]
      rfl
    · obtain ⟨N0, t0, h0, r0, o0, y0⟩ := hpre N h hN
      refine ⟨N0, ?_, y0⟩
      rw [t0, if_neg hG]
      rfl
theorem z8_Y (h : Y8 a M M') : Z8 a M M' := fun q k _ h1 h2 _ h3 => h q k h1 h2 (fun e => ⟨(h3 e).2.1, (h3 e).2.2.1, (h3 e).2.2.2⟩)
theorem q_error (hz : HZ8 z a) (h : SR8 M a B) : ∃ v M2, f_X2_errorPosition z a M = some (.inl (some (.int v)), M) ∧ f_X3_errorPosition z (a + 383) M = some (.inl (some (.int v)), M2) ∧ SR8 M2 a B := by
  obtain ⟨T, s, ht⟩ := tt_of h.1
  obtain ⟨W, hc, hm⟩ := ew_all (z := z) (a := a) (s := s) (T := T) (gr := M (a + 386)) hz ht.1
  have ht0 : TT8 (wr9 M (a + 383) 0 0) a T s := tt_f ht (fun q k hq => by
    by_cases e : q = a + 383
    · rw [e]; exact wr_nk (by omega)
    · exact wr_na e)
  have hr0 : wr9 M (a + 383) 0 0 (a + 386) = M (a + 386) := wr9_ne (by omega)
  have key : ∃ N', f_X3_readText z (a + 383) (a + 386) (wr9 M (a + 383) 0 0) = some (.inl (some (.int W)), N') ∧ Y8 a (wr9 M (a + 383) 0 0) N' := by
    rcases hm with ⟨hW, hm0⟩ | ⟨hW, cnt, Qf, hQf, hm0, hld⟩
    · exact hm0 _ ht0 hr0
    · obtain ⟨N', t, y, -, -⟩ := hm0 _ ht0 hr0
      rw [hW]
      exact ⟨N', t, y⟩
  obtain ⟨N', t, y⟩ := key
  refine ⟨W, N', hc M ht, ?_, sr_Z h (z8_trans (z8_w0 (by omega)) (z8_Y y))⟩
  unfold f_X3_errorPosition
  rw [pf_k (hz_x0 hz), sb_k, hz_r3 hz, sb_k, iv_k (hz_x0 hz), t, bi_k]
  rfl
theorem q_load (hz : HZ8 z a) (h : SR8 M a B) : AG8 a M (B + 21600) (fun M => f_L_load z a (a + 391) M) (fun M => f_X3_load z (a + 383) M) := by
  obtain ⟨T, s, ht⟩ := tt_of h.1
  obtain ⟨W, hc, hm⟩ := ew_all (z := z) (a := a) (s := s) (T := T) (gr := M (a + 386)) hz ht.1
  have hcM := hc M ht
  rcases hm with ⟨hW, hm0⟩ | ⟨hW, cnt, Qf, hQf, hm0, hld⟩
  · obtain ⟨N', t, y⟩ := hm0 M ht rfl
    refine ⟨1, 0, M, wr9 N' (a + 383) 0 1, ?_, ?_, wr_eq, fun e => absurd e (by decide), sr_mono (sr_w0 (sr_Z h (z8_Y y))) (by omega)⟩
    · show f_L_load z a (a + 391) M = _
      unfold f_L_load f_X2_load
      rw [iv_k hz.1.1, iv_k hz.1.1, hcM, bi_k, if_neg hW]
      show bh9 (some (.inr "java/lang/IllegalStateException", M)) _ _ = _
      rw [bh_r, if_pos rfl]
      rfl
    · show f_X3_load z (a + 383) M = _
      unfold f_X3_load
      rw [hz_r3 hz, sb_k, iv_k (hz_x0 hz), t, bi_k, if_neg hW]
      unfold f_X3_load_b18
      rw [iv_k (hz_x0 hz), m_ref1 (hz_x0 hz) (by decide), bi_k, if_neg (by decide)]
      rfl
  · subst hW
    have hP := h.2.1
    obtain ⟨M1, t1, f1, g1⟩ := x0_clear (Q := cl8 (M (a + 386))) (M := M) (hz_P hz) (fun l hl => hP.2.2.2.2.1 l hl) rfl (fun j h1 h7 => by
      unfold cl8
      rw [pu_u_ne (by omega), pu_u_ne (by omega), pu_u_ne (by omega)]
      exact if_pos (by omega)) rfl rfl rfl
    generalize hM5 : wr9 (wr9 (wr9 (wr9 M1 a 5 0) a 6 0) (a + 46) 0 0) (a + 46) 1 0 = M5
    have e5 : ∀ q k, q ≠ a → q ≠ a + 46 → M5 q k = M1 q k := fun q k h1 h2 => by
      rw [← hM5, wr_na h2, wr_na h2, wr_na h1, wr_na h1]
    have e5a : ∀ k, k ≠ 5 → k ≠ 6 → M5 a k = M1 a k := fun k h1 h2 => by
      rw [← hM5, wr_na (by omega), wr_na (by omega), wr_nk h2, wr_nk h1]
    have ht5 : TT8 M5 a T s := tt_f (tt_F ht f1) (fun q k hq => by
      by_cases e : q = a
      · rw [e]; exact e5a k (by omega) (by omega)
      · exact e5 q k e (by omega))
    have g5 : GR8 M5 (a + 2) (cl8 (M (a + 386))) 0 := g8_same g1 (fun q k h1 h2 => e5 q k (by omega) (by omega))
    obtain ⟨M6, t6, f6, g6⟩ := hld M5 0 ht5 g5
    have hx : f_X2_load z a M = some (.inl (some (.int (nI cnt))), M6) := by
      unfold f_X2_load
      rw [iv_k hz.1.1, hcM, bi_k, if_pos rfl, hz_rP hz, sb_k, iv_k (hz_P hz).1, t1, bv_k, iv_k hz.1.1]
      unfold f_X2_forgetAll
      rw [pf_k hz.1.1, sb_k, pf_k hz.1.1, sb_k]
      show bv9 (some (.inl none, wr9 (wr9 M1 a 5 0) a 6 0)) _ = _
      rw [bv_k, show FU9 = 5997 + 1 + 1 + 1 from rfl, fx_k]
      unfold f_X2_load_b31
      have hs0 : sz9 z (wr9 (wr9 M1 a 5 0) a 6 0) (a + 46) 0 0 = some (wr9 (wr9 (wr9 M1 a 5 0) a 6 0) (a + 46) 0 0) := sz_k (k := 0) hz.1.2.2.2.2 (by decide) (by decide) (Or.inl rfl)
      have hs1 : sz9 z (wr9 (wr9 (wr9 M1 a 5 0) a 6 0) (a + 46) 0 0) (a + 46) (0 + 1) 0 = some M5 := by
        rw [← hM5]
        exact sz_k (k := 1) hz.1.2.2.2.2 (by decide) (by decide) (Or.inl rfl)
      rw [if_neg (by decide), rf_k hz.1.1, sb_k, hs0, sb_k, fx_k, if_neg (by decide), rf_k hz.1.1, sb_k, hs1, sb_k, fx_k, if_pos (by decide)]
      exact t6
    refine ag_ret (v := nI cnt) (M1 := M6) ?_ ?_
    · show f_L_load z a (a + 391) M = _
      unfold f_L_load
      rw [iv_k hz.1.1, hx, bh_k]
      exact sl_out hz
    · show ∃ M2, f_X3_load z (a + 383) _ = _ ∧ _
      have e6 : ∀ q k, (q < a + 2 ∨ a + 23 ≤ q) → q ≠ a → q ≠ a + 46 → M6 q k = M q k := fun q k h0 h1 h2 => by
        rw [f6 q k (by omega), e5 q k h1 h2, f1 q k (by omega)]
      have e6a : ∀ k, k ≠ 5 → k ≠ 6 → M6 a k = M a k := fun k h1 h2 => by
        rw [f6 a k (by omega), e5a k h1 h2, f1 a k (by omega)]
      generalize hN : wr9 M6 (a + 391) 0 (nI cnt) = N
      have eN : ∀ q k, (q < a + 2 ∨ a + 23 ≤ q) → q ≠ a → q ≠ a + 46 → q ≠ a + 391 → N q k = M q k := fun q k h0 h1 h2 h3 => by
        rw [← hN, wr_na h3, e6 q k h0 h1 h2]
      have eN6 : ∀ q k, q ≠ a + 391 → N q k = M6 q k := fun q k h3 => by rw [← hN, wr_na h3]
      have htN : TT8 N a T s := tt_f ht (fun q k hq => by
        by_cases e : q = a
        · rw [e, eN6 _ _ (by omega), e6a k (by omega) (by omega)]
        · exact eN q k (by omega) e (by omega) (by omega))
      obtain ⟨N1, t1, y1, r1, o1⟩ := hm0 N htN (funext fun k => eN _ _ (by omega) (by omega) (by omega) (by omega))
      have tcp := m_copy (M := wr9 N1 (a + 383) 0 0) (x := a + 386) (y := a + 385) (fo := 0) (to := 0) (hz_try hz) (hz_now hz) (by omega) (by omega) (by omega) (by decide) (by decide)
      generalize hN2 : pu_R (wr9 N1 (a + 383) 0 0) (a + 385) (cp8 0 (fun i => wr9 N1 (a + 383) 0 0 (a + 386) (0 + i)) (wr9 N1 (a + 383) 0 0 (a + 385))) = N2 at tcp
      generalize hN3 : wr9 (wr9 (wr9 N2 (a + 383) 6 0) (a + 389) 0 0) (a + 389) 1 0 = N3
      have n2 : ∀ q k, q ≠ a + 385 → (q = a + 383 → k ≠ 0) → N2 q k = N1 q k := fun q k h1 h2 => by
        rw [← hN2, pr_o h1]
        by_cases e : q = a + 383
        · rw [e, wr_nk (h2 e)]
        · rw [wr_na e]
      have n3 : ∀ q k, q ≠ a + 389 → (q = a + 383 → k ≠ 6) → N3 q k = N2 q k := fun q k h1 h2 => by
        rw [← hN3, wr_na h1, wr_na h1]
        by_cases e : q = a + 383
        · rw [e, wr_nk (h2 e)]
        · rw [wr_na e]
      have n32 : ∀ q k, q ≠ a + 385 → q ≠ a + 389 → (q = a + 383 → k ≠ 0 ∧ k ≠ 6) → N3 q k = N1 q k := fun q k h1 h2 h3 => by
        rw [n3 q k h2 (fun e => (h3 e).2), n2 q k h1 (fun e => (h3 e).1)]
      have n3N : ∀ q k, q ≠ a + 385 → q ≠ a + 389 → q ≠ a + 386 → q ≠ a + 390 → (q = a + 383 → k ≠ 0 ∧ k ≠ 6 ∧ k ≠ 10 ∧ k ≠ 11 ∧ k ≠ 12) → N3 q k = N q k := fun q k h1 h2 h3 h4 h5 => by
        rw [n32 q k h1 h2 (fun e => ⟨(h5 e).1, (h5 e).2.1⟩), y1 q k h3 h4 (fun e => (h5 e).2.2)]
      have enow : ∀ i, i < 121 → N3 (a + 385) i = Qf i := fun i hi => by
        rw [n3 _ _ (by omega) (fun _ => by omega), ← hN2, pr_x, cp_0 hi, Nat.zero_add, wr_na (by omega), r1]
      refine ⟨N3, ?_, ?_, ?_, ⟨T, ht.1, ?_, ?_, fun i hi => ?_⟩, ?_, ⟨0, by omega, ?_, 0, by omega, ?_, ?_, fun j hj => by omega⟩, fun j hj => ⟨?_, ?_, fun hh => ?_⟩⟩
      · unfold f_X3_load
        rw [hz_r3 hz, sb_k, iv_k (hz_x0 hz), t1, bi_k, if_pos rfl]
        unfold f_X3_load_b18
        have hs0 : sz9 z (wr9 N2 (a + 383) 6 0) (a + 389) 0 0 = some (wr9 (wr9 N2 (a + 383) 6 0) (a + 389) 0 0) := sz_k (k := 0) hz.2.1.2.2.2.2.2.2.1 (by decide) (by decide) (Or.inl rfl)
        have hs1 : sz9 z (wr9 (wr9 N2 (a + 383) 6 0) (a + 389) 0 0) (a + 389) 1 0 = some N3 := by
          rw [← hN3]
          exact sz_k (k := 1) hz.2.1.2.2.2.2.2.2.1 (by decide) (by decide) (Or.inl rfl)
        rw [iv_k (hz_x0 hz), m_ref0 (hz_x0 hz), bi_k, if_pos rfl, hz_r3 hz, sb_k, hz_r2 hz, sb_k, show f_X3_copyState z (a + 386) 0 (a + 385) 0 (wr9 N1 (a + 383) 0 0) = _ from tcp, bv_k, pf_k (hz_x0 hz), sb_k, hz_r6 hz, sb_k, hs0, sb_k, sb_k, hs1, sb_k, gf_k (hz_x0 hz), sb_k, n32 _ _ (by omega) (by omega) (fun _ => by omega), o1]
        rfl
      · rw [n3 _ _ (by omega) (fun _ => by omega), ← hN2, pr_o (by omega), wr_eq]
      · rw [n3N _ _ (by omega) (by omega) (by omega) (by omega) (fun _ => by omega), ← hN, wr_eq]
      · rw [n3N _ _ (by omega) (by omega) (by omega) (by omega) (fun _ => by omega)]; exact htN.2.1
      · rw [n3N _ _ (by omega) (by omega) (by omega) (by omega) (fun _ => by omega)]; exact htN.2.2.1
      · rw [n3N _ _ (by omega) (by omega) (by omega) (by omega) (fun _ => by omega), n3N _ _ (by omega) (by omega) (by omega) (by omega) (fun _ => by omega)]
        have := htN.2.2.2.1 i hi
        rw [this.1, this.2.1]
        exact ⟨rfl, this.2.2⟩
      · refine g8_mono (g8_row (g8_same g6 (fun q k h1 h2 => ?_)) enow) (by omega)
        rw [n3N q k (by omega) (by omega) (by omega) (by omega) (fun _ => by omega), eN6 q k (by omega)]
      · rw [← hN3, wr_na (by omega), wr_na (by omega), wr_eq]; rfl
      · rw [n3N _ _ (by omega) (by omega) (by omega) (by omega) (fun _ => by omega), eN6 _ _ (by omega), f6 _ _ (by omega), ← hM5, wr_na (by omega), wr_na (by omega), wr_nk (by decide), wr_eq]; rfl
      · rw [n3N _ _ (by omega) (by omega) (by omega) (by omega) (fun _ => by omega), eN6 _ _ (by omega), f6 _ _ (by omega), ← hM5, wr_na (by omega), wr_na (by omega), wr_eq]; rfl
      · rw [n3N _ _ (by omega) (by omega) (by omega) (by omega) (fun _ => by omega), eN6 _ _ (by omega), f6 _ _ (by omega), ← hM5, ← hN3]
        rcases (show j = 0 ∨ j = 1 by omega) with rfl | rfl
        · rw [wr_nk (by decide), wr_eq, wr_nk (by decide), wr_eq]
        · rw [wr_eq, wr_eq]
      · rw [n3N _ _ (by omega) (by omega) (by omega) (by omega) (fun _ => by omega), eN6 _ _ (by omega), f6 _ _ (by omega), ← hM5]
        rcases (show j = 0 ∨ j = 1 by omega) with rfl | rfl
        · rw [wr_nk (by decide), wr_eq]; exact Or.inl rfl
        · rw [wr_eq]; exact Or.inl rfl
      · exfalso
        rw [n3N _ _ (by omega) (by omega) (by omega) (by omega) (fun _ => by omega), eN6 _ _ (by omega), f6 _ _ (by omega), ← hM5] at hh
        rcases (show j = 0 ∨ j = 1 by omega) with rfl | rfl
        · rw [wr_nk (by decide), wr_eq] at hh; exact absurd hh (by decide)
        · rw [wr_eq] at hh; exact absurd hh (by decide)
end SC
