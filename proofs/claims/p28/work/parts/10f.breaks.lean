section UF
variable {z : Sh9} {M M0 M1 : Mem9} {b b1 b2 k l w n B T X H : Nat} {s t s' : St8} {Q Q' : Nat → Int32} {x y v a : Int32} {Post : Mem9 → Prop} {K : Int32 → Mem9 → Re9} {f : Nat → Mem9 → Re9}
/-- a text of several actions -/
def AN8 (z : Sh9) (f : Nat → Mem9 → Re9) (s : St8) (v : Int32) (s' : St8) (n : Nat) : Prop := ∀ b M B, HZ8 z b → B < 900000000 → OB8 M b s B → ∃ M', f b M = some (.inl (some (.int v)), M') ∧ F8 M M' b 383 ∧ OB8 M' b s' (B + n)
theorem an_of (h : ∀ b M B, HZ8 z b → B < 900000000 → OB8 M b s B → RT8 (f b M) v (fun M' => F8 M M' b 383 ∧ OB8 M' b s' (B + n))) : AN8 z f s v s' n := h
theorem o_n (hq : AN8 z f s v s' n) (hz : HZ8 z b1) (ha : AP8 b1 b2) (hB : B < 900000000) (h : PR8 M b1 b2 s t B) (k : ∀ M1, PR8 M1 b1 b2 s' t (B + n) → RT8 (K v M1) a Post) : RT8 (bi9 (f b1 M) K) a Post := by
  obtain ⟨M1, e1, f1, h1⟩ := hq b1 M B hz hB h.1
  exact bi_rt e1 (k M1 ⟨h1, ob_mono (ob_out h.2 f1 (by omega)) (by omega)⟩)
theorem q_n (hq : AN8 z f t v s' n) (hz : HZ8 z b2) (ha : AP8 b1 b2) (hB : B < 900000000) (h : PR8 M b1 b2 s t B) (k : ∀ M1, PR8 M1 b1 b2 s s' (B + n) → RT8 (K v M1) a Post) : RT8 (bi9 (f b2 M) K) a Post := by
  obtain ⟨M1, e1, f1, h1⟩ := hq b2 M B hz hB h.2
  exact bi_rt e1 (k M1 ⟨ob_mono (ob_out h.1 f1 (by omega)) (by omega), h1⟩)
theorem th_k (hk : k < 1000) : f_L_thrown z (nI k) M = some (.inl (some (.int 0)), M) := by
  have h : ∀ {c : Int32}, c.toInt < 0 → ¬ nI k = c := fun hc e => by
    rw [← e, nI_toInt (by omega)] at hc
    omega
  unfold f_L_thrown f_L_thrown_b0
  rw [if_neg (h (by decide)), if_neg (h (by decide)), if_neg (h (by decide)), rz_0]
/-! what is remembered last -/
def top8 (s : St8) : Nat → Int32 := s.2.2.1 (s.2.1 - 1)
theorem pq_top (h1 : 1 ≤ s.2.1) (h14 : s.2.1 ≤ 14) : 1 ≤ (pop8 (pus8 s Q')).2.1 ∧ (pop8 (pus8 s Q')).2.1 ≤ 14 ∧ top8 (pop8 (pus8 s Q')) = top8 s := by
  obtain ⟨Q, A, D, V, K⟩ := s
  have h1 : 1 ≤ A := h1
  have h14 : A ≤ 14 := h14
  show 1 ≤ ra8 A - 1 ∧ ra8 A - 1 ≤ 14 ∧ rb8 A D Q (ra8 A - 1 - 1) = D (A - 1)
  unfold ra8 rb8
  by_cases q : A = 14
  · rw [if_pos q, if_pos q]
    refine ⟨by omega, by omega, ?_⟩
    rw [if_neg (by omega), q]
  · rw [if_neg q, if_neg q]
    refine ⟨by omega, by omega, ?_⟩
    rw [if_neg (by omega), Nat.add_sub_cancel]
theorem pu_top (h14 : s.2.1 ≤ 14) : 1 ≤ (pus8 s Q').2.1 ∧ (pus8 s Q').2.1 ≤ 14 ∧ top8 (pus8 s Q') = s.1 := ⟨ra_1, ra_14 h14, pp_1 (Q' := Q') h14⟩
theorem sn_pos {g : Nat → Nat} (hl : l < n) (h : 1 ≤ g l) : 1 ≤ sn8 g n := by
  induction n with
  | zero => omega
  | succ n ih =>
    rw [sn_s]
    by_cases e : l = n
    · subst e; omega
    · have := ih (by omega)
      omega
/-! the arm hits in just so many ticks -/
theorem u_breaks (hG : SG8 s T) (hT : T ≤ 10000000) (hl : l < kn8 s.1) (h1 : 1 ≤ H) (h60 : H ≤ 60) (hh : lh8 (qb8 l 1 s.1 7) (qb8 l 1 s.1 8) (qb8 l 1 s.1 9) 400 1 (kc8 (qb8 l 1 s.1) l) (pu_s (qb8 l 1 s.1) l) = nI H) : ∃ s', SG8 s' T ∧ s'.1 = s.1 ∧ AN8 z (fun b M => f_L_breaks z b (nI l) (nI H) M) s 1 s' 1080 := by
  obtain ⟨r1, rk1⟩ := rg_qb (v := 1) hG.1 hl (Or.inr rfl)
  have hl1 : l < kn8 (qb8 l 1 s.1) := by rw [rk1]; exact hl
  have hR1 := r1.1
  have hn3 := hG.1.1.2.1
  have h50 : pu_s (qb8 l 1 s.1) l 5 = 0 := Decidable.byContradiction (fun e => by
    rw [lh_broken _ _ _ _ e] at hh
    exact nI_m1 (by omega) hh.symm)
  obtain ⟨c1, c2⟩ := hit_at (H - 1) 400 1 (qb8 l 1 s.1) hR1 hl1 (by omega) (by omega) h50 (by rw [hh]; congr 1; omega)
  rw [show H - 1 + 1 = H by omega] at c2
  -- the states
  obtain ⟨s1, hs1⟩ : ∃ s1, s1 = pus8 s (qb8 l 1 s.1) := ⟨_, rfl⟩
  have hs10 : s1.1 = qb8 l 1 s.1 := by rw [hs1]; rfl
  have hG1 : SG8 s1 T := by rw [hs1]; exact sg_push hG r1 (Nat.le_refl _) (by omega) (by omega)
  obtain ⟨p1, p2, p3⟩ : 1 ≤ s1.2.1 ∧ s1.2.1 ≤ 14 ∧ top8 s1 = s.1 := by rw [hs1]; exact pu_top hG.2.2.1
  have eloop : ∃ w, 1 ≤ w ∧ w < 100 ∧ rs8 (qb8 l 1 s.1) 4 = nI w := by
    have e : rs8 (qb8 l 1 s.1) 4 = nI (sn8 (fun j => br8 (pu_s (qb8 l 1 s.1) j 4)) (kn8 (qb8 l 1 s.1))) := sm_sn (fun j hj => br_of (hR1.2.2.2 j hj).2.2.2.2.2.1)
    have e1 : pu_s (qb8 l 1 s.1) l 4 = 1 := (ps_l (by decide)).trans pu_u_eq
    have hle := sn_le (f := fun j => br8 (pu_s (qb8 l 1 s.1) j 4)) (n := kn8 (qb8 l 1 s.1)) (b := 1) (fun j _ => by show br8 _ ≤ 1; unfold br8; split <;> omega)
    exact ⟨_, sn_pos (g := fun j => br8 (pu_s (qb8 l 1 s.1) j 4)) hl1 (by show 1 ≤ br8 (pu_s (qb8 l 1 s.1) l 4); rw [e1]; decide), by omega, e⟩
  obtain ⟨wl, wl1, wl2, wl3⟩ := eloop
  -- from a state with the row of the broken loop to the end
  have b59 : ∀ s3, SG8 s3 T → s3.1 = qb8 l 1 s.1 → 1 ≤ s3.2.1 → s3.2.1 ≤ 14 → top8 s3 = s.1 → ∃ s', SG8 s' T ∧ s'.1 = s.1 ∧ ∀ b M M0 B, HZ8 z b → B < 900001000 → OB8 M b s3 B → F8 M0 M b 383 → RT8 (f_L_breaks_b59 z b (nI l) (nI H) 1 M) 1 (fun M' => F8 M0 M' b 383 ∧ OB8 M' b s' (B + 540)) := by
    intro s3 hG3 e3 q1 q2 q3
    obtain ⟨s4, hs4⟩ : ∃ s4, s4 = pus8 s3 (rn8 H s3.1) := ⟨_, rfl⟩
    obtain ⟨s5, hs5⟩ : ∃ s5, s5 = pop8 s4 := ⟨_, rfl⟩
    have hG5 : SG8 s5 T := by rw [hs5, hs4]; exact sg_pp hG3
    obtain ⟨t1, t2, t3⟩ : 1 ≤ s5.2.1 ∧ s5.2.1 ≤ 14 ∧ top8 s5 = top8 s3 := by rw [hs5, hs4]; exact pq_top q1 q2
    have t4 : (pop8 s5).1 = s.1 := t3.trans q3
    have hG6 : SG8 (pop8 s5) T := sg_pop hG5 t1 (by
      have e : s5.2.2.1 (s5.2.1 - 1) = s.1 := t4
      rw [e]
      exact hG.2.1)
    refine ⟨pop8 s5, hG6, t4, fun b M M0 B hz hB h hf => ?_⟩
    obtain ⟨wr, wr1, wr2, -⟩ := rv_nat (n := H) hG3.1 (by omega)
    have hA4 : 1 ≤ s4.2.1 ∧ s4.2.1 ≤ 14 := by rw [hs4]; exact ⟨ra_1, ra_14 q2⟩
    unfold f_L_breaks_b59
    rw [if_neg (by decide)]
    refine s_a (a_run (s := s3) h1 h60) hz (by omega) h hf (fun M h hf => ?_)
    rw [wr2, if_neg (nI_pos (by omega))]
    rw [← hs4] at h
    have hk4 : kn8 s4.1 = kn8 s.1 := by rw [hs4]; show kn8 (rn8 H s3.1) = _; rw [rn_kn, e3, rk1]
    have e4 : nu8 s4.1 l 5 = 1 := by
      show pu_s s4.1 l 5 = 1
      rw [hs4]
      show pu_s (rn8 H s3.1) l 5 = 1
      rw [e3]
      exact c2
    obtain ⟨M2, d1, d2⟩ := u_lane (z := z) (s := s4) (l := l) (w := 5) (u := 0) (by rw [hk4]; exact hl) (by omega) b M (B + 180) hz (by omega) h
    refine bi_rt d1 ?_
    rw [e4, if_pos rfl]
    have h := ob_q h d2
    have hf := f8_trans hf (f8_383 d2)
    refine s_a (a_undo (s := s4) hA4.1) hz (by omega) h hf (fun M h hf => ?_)
    refine bi_rt (th_k (by omega)) ?_
    rw [if_pos rfl]
    rw [← hs5] at h
    refine s_a (a_undo (s := s5) t1) hz (by omega) h hf (fun M h hf => ?_)
    refine bi_rt (th_k (by omega)) ?_
    rw [if_pos rfl]
    exact rt_1 ⟨hf, h⟩
  by_cases qH : H = 1
  · obtain ⟨s', g1, g2, g3⟩ := b59 s1 hG1 hs10 p1 p2 p3
    refine ⟨s', g1, g2, an_of (fun b M B hz hB h => ?_)⟩
    show RT8 (f_L_breaks z b (nI l) (nI H) M) 1 _
    unfold f_L_breaks f_L_breaks_b0
    refine s_a (a_loops (s := s) (v := 1) hl (Or.inr rfl)) hz (by omega) h f8_refl (fun M h hf => ?_)
    rw [wl3, if_neg (nI_nle (by omega) (by omega)), qH, if_pos (show nI 1 = 1 from rfl)]
    rw [← hs1] at h
    obtain ⟨M', u1, u2, u3⟩ := g3 b M _ _ hz (by omega) h hf
    rw [qH] at u1
    exact ⟨M', u1, u2, ob_mono u3 (by omega)⟩
  · obtain ⟨s2, hs2⟩ : ∃ s2, s2 = pus8 s1 (rn8 (H - 1) s1.1) := ⟨_, rfl⟩
    obtain ⟨s3, hs3⟩ : ∃ s3, s3 = pop8 s2 := ⟨_, rfl⟩
    have hG3 : SG8 s3 T := by rw [hs3, hs2]; exact sg_pp hG1
    have e3 : s3.1 = qb8 l 1 s.1 := by rw [hs3, hs2, pp_1 p2]; exact hs10
    obtain ⟨q1, q2, q3⟩ : 1 ≤ s3.2.1 ∧ s3.2.1 ≤ 14 ∧ top8 s3 = top8 s1 := by rw [hs3, hs2]; exact pq_top p1 p2
    obtain ⟨s', g1, g2, g3⟩ := b59 s3 hG3 e3 q1 q2 (q3.trans p3)
    refine ⟨s', g1, g2, an_of (fun b M B hz hB h => ?_)⟩
    obtain ⟨wr, wr1, wr2, -⟩ := rv_nat (n := H - 1) hG1.1 (by omega)
    have eH : nI H - 1 = nI (H - 1) := by
      obtain ⟨h', rfl⟩ : ∃ h', H = h' + 1 := ⟨H - 1, by omega⟩
      rw [nI_pred, Nat.add_sub_cancel]
    have hA2 : 1 ≤ s2.2.1 ∧ s2.2.1 ≤ 14 := by rw [hs2]; exact ⟨ra_1, ra_14 p2⟩
    show RT8 (f_L_breaks z b (nI l) (nI H) M) 1 _
    unfold f_L_breaks f_L_breaks_b0
    refine s_a (a_loops (s := s) (v := 1) hl (Or.inr rfl)) hz (by omega) h f8_refl (fun M h hf => ?_)
    rw [wl3, if_neg (nI_nle (by omega) (by omega)), if_neg (show ¬ nI H = 1 from nI_n (j := 1) qH (by omega) (by omega)), eH]
    rw [← hs1] at h
    refine s_a (a_run (s := s1) (n := H - 1) (by omega) (by omega)) hz (by omega) h hf (fun M h hf => ?_)
    rw [wr2, if_neg (nI_pos (by omega))]
    rw [← hs2] at h
    have hk2 : kn8 s2.1 = kn8 s.1 := by rw [hs2]; show kn8 (rn8 (H - 1) s1.1) = _; rw [rn_kn, hs10, rk1]
    have e4 : nu8 s2.1 l 5 = 0 := by
      show pu_s s2.1 l 5 = 0
      rw [hs2]
      show pu_s (rn8 (H - 1) s1.1) l 5 = 0
      rw [hs10]
      exact c1 (H - 1) (Nat.le_refl _)
    obtain ⟨M2, d1, d2⟩ := u_lane (z := z) (s := s2) (l := l) (w := 5) (u := 0) (by rw [hk2]; exact hl) (by omega) b M (B + 180 + 180) hz (by omega) h
    refine bi_rt d1 ?_
    rw [e4, if_pos rfl]
    have h := ob_q h d2
    have hf := f8_trans hf (f8_383 d2)
    refine s_a (a_undo (s := s2) hA2.1) hz (by omega) h hf (fun M h hf => ?_)
    refine bi_rt (th_k (by omega)) ?_
    rw [if_pos rfl]
    rw [← hs3] at h
    obtain ⟨M', u1, u2, u3⟩ := g3 b M _ _ hz (by omega) h hf
    exact ⟨M', u1, u2, ob_mono u3 (by omega)⟩
end UF
