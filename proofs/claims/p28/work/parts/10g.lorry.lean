section UG
variable {z : Sh9} {M M0 M1 : Mem9} {b b1 b2 k l w n B T X H : Nat} {s t s' : St8} {Q Q' : Nat → Int32} {x y v a : Int32} {Post : Mem9 → Prop}
theorem i_pl {j j' c c' : Nat} (h : j + c' = j' + c) (hj : j < 100) (hc : c < 100) (hc' : c' < 100) (hj' : j' < 100) : nI j - nI c + nI c' = nI j' := by
  have e1 := nI_toInt (n := j) (by omega)
  have e2 := nI_toInt (n := c) (by omega)
  have e3 := nI_toInt (n := c') (by omega)
  have e4 := nI_toInt (n := j') (by omega)
  have s1 : (nI j - nI c).toInt = (j : Int) - c := by rw [i32_sub (by rw [e1, e2]; omega) (by rw [e1, e2]; omega), e1, e2]
  apply i32_eq.mpr
  rw [i32_add (by rw [s1, e3]; omega) (by rw [s1, e3]; omega), s1, e3, e4]
  omega
/-- a vehicle goes through when it was told -/
theorem lo_196 (hz1 : HZ8 z b1) (hz2 : HZ8 z b2) (ha : AP8 b1 b2) (hG : SG8 s T) (hT : T ≤ 10000000) (hl : l < kn8 s.1) (hk : k < kc8 s.1 l) (hx : x = lt8 (s.1 7) (s.1 8) (s.1 9) 401 0 k (kc8 s.1 l) (pu_s s.1 l)) (hla : x = 0 ∨ la9' (pu_s s.1 l) k ≤ 20) : ∃ s', SG8 s' T ∧ s'.1 = s.1 ∧ ∀ M B, B < 800000000 → PR8 M b1 b2 s s B → RT8 (f_L_lorry_b196 z b1 b2 (nI l) (nI (kc8 s.1 l)) (nI k) x 1 M) 1 (fun M' => PR8 M' b1 b2 s' s' (B + 720)) := by
  have hR := hG.1.1
  have h6 := (hR.2.2.2 l hl).2.1
  have hA14 := hG.2.2.1
  by_cases q1 : x < 1
  · refine ⟨s, hG, rfl, fun M B hB hp => ?_⟩
    unfold f_L_lorry_b196
    rw [if_pos q1]
    exact rt_1 ⟨ob_mono hp.1 (by omega), ob_mono hp.2 (by omega)⟩
  · by_cases q2 : x ≤ 60
    · -- it does
      obtain ⟨n, hn60, hn⟩ : ∃ n, n ≤ 60 ∧ x = nI n := by
        rcases lt_ge (g0 := s.1 7) (g1 := s.1 8) (g2 := s.1 9) 401 0 k (kc8 s.1 l) (pu_s s.1 l) with e | ⟨n, e1, e2, e3⟩
        · rw [← hx] at e
          rw [e] at q1
          exact absurd (by decide) q1
        · rw [← hx] at e3
          rw [e3, i32_le, nI_toInt (by omega), i32_60] at q2
          exact ⟨n, by omega, e3⟩
      have hn1 : 1 ≤ n := by
        rcases Nat.eq_zero_or_pos n with e | e
        · subst e
          rw [hn] at q1
          exact absurd (by decide) q1
        · exact e
      have hla2 : la9' (pu_s s.1 l) k ≤ 20 := by
        rcases hla with e | e
        · rw [hn] at e
          exact absurd e (nI_ne0 (by omega) (by omega))
        · exact e
      obtain ⟨-, t1, j', t2, t3, t4⟩ := thr_at n 401 0 k s.1 hR hl hk (by omega) (by omega) hla2 (by rw [← hx, hn, Nat.zero_add])
      obtain ⟨wr, wr0, wr1, wr2⟩ := rv_pos (n := n) hG.1 (by omega) hl hn1 t1
      obtain ⟨s1, hs1⟩ : ∃ s1, s1 = pus8 s (rn8 n s.1) := ⟨_, rfl⟩
      obtain ⟨s2, hs2⟩ : ∃ s2, s2 = pop8 s1 := ⟨_, rfl⟩
      have e11 : s1.1 = rn8 n s.1 := by rw [hs1]; rfl
      have e21 : s2.1 = s.1 := by rw [hs2, hs1]; exact pp_1 hA14
      have hA1 : 1 ≤ s1.2.1 ∧ s1.2.1 ≤ 14 := by rw [hs1]; exact ⟨ra_1, ra_14 hA14⟩
      have hG2 : SG8 s2 T := by rw [hs2, hs1]; exact sg_pp hG
      have hRn : RI8 s1.1 := by rw [e11]; exact ri_rn hR
      have hkn : kn8 s1.1 = kn8 s.1 := by rw [e11]; exact rn_kn
      have hl1 : l < kn8 s1.1 := by rw [hkn]; exact hl
      have hI1 := hRn.2.2.2 l hl1
      have h61 := hI1.2.1
      rw [← e11] at t2 t3 t4
      refine ⟨s2, hG2, e21, fun M B hB hp => ?_⟩
      unfold f_L_lorry_b196
      rw [if_neg q1, if_pos q2, if_neg (by decide), hn]
      refine o_a (a_run (s := s) hn1 hn60) hz1 ha (by omega) hp (fun M hp => ?_)
      rw [← hs1] at hp
      rw [wr2, if_neg (show ¬ nI wr < 1 from nI_nlt (b := 1) wr0 (by omega))]
      refine q_a (a_run (s := s) hn1 hn60) hz2 ha (by omega) hp (fun M hp => ?_)
      rw [← hs1] at hp
      rw [wr2, if_neg (show ¬ nI wr < 1 from nI_nlt (b := 1) wr0 (by omega))]
      unfold f_L_lorry_b252
      refine o_q (u_lane (s := s1) (w := 0) hl1 (by omega)) hz1 ha (by omega) hp (fun M hp => ?_)
      have ec : nu8 s1.1 l 0 = nI (kc8 s1.1 l) := hI1.1
      rw [nm_k, ec, i_pl t3 (by omega) (by omega) (by omega) (by omega), if_neg (by decide), if_neg (nI_pos (by omega))]
      refine o_q (u_veh (s := s1) (w := 1) hl1 t2 (by omega)) hz1 ha (by omega) hp (fun M hp => ?_)
      refine o_q (u_veh (s := s1) (w := 0) hl1 t2 (by omega)) hz1 ha (by omega) hp (fun M hp => ?_)
      have e20 : pu_s s1.1 l (7 + 5 * j' + 1) - pu_s s1.1 l (7 + 5 * j' + 0) = 20 := by
        have hV := hI1.2.2.2.2.2.2.2.2.1
        have v1 := pV_la h61 (T := 50) (by omega) hV t2
        obtain ⟨a1, a2, a3, a4, -⟩ := hV j' t2
        show fr9 (pu_s s1.1 l) j' - ln9 (pu_s s1.1 l) j' = 20
        apply i32_eq.mpr
        rw [i32_sub (by omega) (by omega), i32_20]
        omega
      rw [if_pos e20]
      refine o_a (a_undo (s := s1) hA1.1) hz1 ha (by omega) hp (fun M hp => ?_)
      rw [← hs2] at hp
      refine bi_rt (th_k (by omega)) ?_
      rw [if_pos rfl]
      refine q_a (a_undo (s := s1) hA1.1) hz2 ha (by omega) hp (fun M hp => ?_)
      rw [← hs2] at hp
      refine bi_rt (th_k (by omega)) ?_
      rw [if_pos rfl]
      refine o_q (u_through (s := s2) (l := l) (k := k) (by rw [e21]; exact hl) (by rw [e21]; exact hk)) hz1 ha (by omega) hp (fun M hp => ?_)
      rw [e21, ← hx, hn, if_pos rfl]
      exact rt_1 hp
    · refine ⟨s, hG, rfl, fun M B hB hp => ?_⟩
      unfold f_L_lorry_b196
      rw [if_neg q1, if_neg q2]
      exact rt_1 ⟨ob_mono hp.1 (by omega), ob_mono hp.2 (by omega)⟩
theorem lo_90 (hz1 : HZ8 z b1) (hz2 : HZ8 z b2) (ha : AP8 b1 b2) (hG : SG8 s T) (hT : T ≤ 10000000) (hl : l < kn8 s.1) (hX : X < 2 ^ 31) : ∃ s', SG8 s' T ∧ s'.1 = s.1 ∧ ∀ M B, B < 800000000 → PR8 M b1 b2 s s B → RT8 (f_L_lorry_b90 z b1 b2 (nI l) (nI X) (nI (kc8 s.1 l)) 1 M) 1 (fun M' => PR8 M' b1 b2 s' s' (B + 720)) := by
  have hR := hG.1.1
  have hn3 := hR.2.1
  have h6 := (hR.2.2.2 l hl).2.1
  by_cases q : kc8 s.1 l = 0
  · refine ⟨s, hG, rfl, fun M B hB hp => ?_⟩
    unfold f_L_lorry_b90
    rw [q, if_pos (show nI 0 = 0 from rfl), if_neg (by decide)]
    refine o_q (u_through_i (s := s) (fun e => ?_)) hz1 ha (by omega) hp (fun M hp => ?_)
    · have := (e.2 l rfl (by omega)).2
      rw [q] at this
      exact absurd this (by decide)
    · rw [if_pos rfl]
      exact rt_1 ⟨ob_mono hp.1 (by omega), ob_mono hp.2 (by omega)⟩
  · obtain ⟨k, hk0, hk⟩ : ∃ k, k = X % kc8 s.1 l ∧ k < kc8 s.1 l := ⟨_, rfl, Nat.mod_lt _ (by omega)⟩
    have rk : rm9 (nI X) (nI (kc8 s.1 l)) = some (nI k) := rm_n (D := nI (kc8 s.1 l)) (d := kc8 s.1 l) rfl (by omega) hX (by omega) hk0.symm
    have el : (lt8 (s.1 7) (s.1 8) (s.1 9) 401 0 k (kc8 s.1 l) (pu_s s.1 l) = 0) ↔ ¬ la9' (pu_s s.1 l) k ≤ 20 := by
      constructor
      · intro e hla
        have e0 : lt8 (s.1 7) (s.1 8) (s.1 9) 401 0 k (kc8 s.1 l) (pu_s s.1 l) = nI (0 + 0) := e
        have := (thr_at 0 401 0 k s.1 hR hl hk (by omega) (by omega) hla e0).1
        omega
      · intro hla
        rw [show (401 : Nat) = 400 + 1 from rfl]
        unfold lt8
        rw [if_neg hla]
        rfl
    obtain ⟨s', g1, g2, g3⟩ := lo_196 (x := lt8 (s.1 7) (s.1 8) (s.1 9) 401 0 k (kc8 s.1 l) (pu_s s.1 l)) hz1 hz2 ha hG hT hl hk rfl (by
      by_cases e : la9' (pu_s s.1 l) k ≤ 20
      · exact Or.inr e
      · exact Or.inl (el.mpr e))
    refine ⟨s', g1, g2, fun M B hB hp => ?_⟩
    unfold f_L_lorry_b90
    rw [if_neg (nI_ne0 (by omega) (by omega)), rk, sb_k]
    refine o_q (u_through hl hk) hz1 ha (by omega) hp (fun M hp => ?_)
    refine o_q (u_veh (w := 1) hl hk (by omega)) hz1 ha (by omega) hp (fun M hp => ?_)
    refine o_q (u_veh (w := 0) hl hk (by omega)) hz1 ha (by omega) hp (fun M hp => ?_)
    rw [nm_k, if_neg (by decide)]
    have etail : pu_s s.1 l (7 + 5 * k + 1) - pu_s s.1 l (7 + 5 * k + 0) + 1 = la9' (pu_s s.1 l) k := rfl
    rw [etail]
    have go : ∀ u : Int32, RT8 (f_L_lorry_b188 z b1 b2 (nI l) (nI (kc8 s.1 l)) (nI k) (lt8 (s.1 7) (s.1 8) (s.1 9) 401 0 k (kc8 s.1 l) (pu_s s.1 l)) u u M) 1 (fun M' => PR8 M' b1 b2 s' s' (B + 720)) := fun u => by
      unfold f_L_lorry_b188
      rw [if_pos rfl]
      exact g3 M B hB hp
    by_cases e : la9' (pu_s s.1 l) k ≤ 20
    · rw [if_neg (fun h => el.mp h e)]
      unfold f_L_lorry_b176
      rw [if_pos e]
      exact go 0
    · rw [if_pos (el.mpr e)]
      unfold f_L_lorry_b176
      rw [if_neg e]
      exact go 1
theorem u_lorry (hz1 : HZ8 z b1) (hz2 : HZ8 z b2) (ha : AP8 b1 b2) (hG : SG8 s T) (hT : T ≤ 10000000) (hl : l < kn8 s.1) (hX : X < 2 ^ 31) : ∃ s', SG8 s' T ∧ s'.1 = s.1 ∧ ∀ M B, B < 700000000 → PR8 M b1 b2 s s B → RT8 (f_L_lorry z b1 b2 (nI l) (nI X) M) 1 (fun M' => PR8 M' b1 b2 s' s' (B + 3000)) := by
  have hR := hG.1.1
  have hI := hR.2.2.2 l hl
  have h6 := hI.2.1
  have e0 : nu8 s.1 l 0 = nI (kc8 s.1 l) := hI.1
  obtain ⟨H0, hH0⟩ : ∃ H0, H0 = lh8 (qb8 l 1 s.1 7) (qb8 l 1 s.1 8) (qb8 l 1 s.1 9) 400 1 (kc8 (qb8 l 1 s.1) l) (pu_s (qb8 l 1 s.1) l) := ⟨_, rfl⟩
  have e51 : pu_s (qb8 l 1 s.1) l 5 = pu_s s.1 l 5 := (ps_l (by decide)).trans (pu_u_ne (by decide))
  -- behind the breaks
  have tail : ∀ t, SG8 t T → t.1 = s.1 → ∃ s', SG8 s' T ∧ s'.1 = s.1 ∧ ∀ M B, B < 800000000 → PR8 M b1 b2 t t B → RT8 (f_L_lorry_b90 z b1 b2 (nI l) (nI X) (nI (kc8 s.1 l)) 1 M) 1 (fun M' => PR8 M' b1 b2 s' s' (B + 720)) := fun t g1 g2 => by
    obtain ⟨s', a1, a2, a3⟩ := lo_90 (l := l) (X := X) hz1 hz2 ha g1 hT (by rw [g2]; exact hl) hX
    rw [g2] at a2 a3
    exact ⟨s', a1, a2, a3⟩
  -- ahead of them
  have start : ∀ M B (s' : St8), B < 700000000 → PR8 M b1 b2 s s B → (∀ M, PR8 M b1 b2 s s B → RT8 (f_L_lorry_b43 z b1 b2 (nI l) (nI X) (nI (kc8 s.1 l)) H0 1 M) 1 (fun M' => PR8 M' b1 b2 s' s' (B + 3000))) → RT8 (f_L_lorry z b1 b2 (nI l) (nI X) M) 1 (fun M' => PR8 M' b1 b2 s' s' (B + 3000)) := by
    intro M B s' hB hp k
    unfold f_L_lorry f_L_lorry_b0
    refine o_q (u_lane (w := 0) hl (by omega)) hz1 ha (by omega) hp (fun M hp => ?_)
    refine o_q (u_hits hl) hz1 ha (by omega) hp (fun M hp => ?_)
    rw [← hH0, e0]
    by_cases q : H0 = -1
    · rw [if_pos q]
      unfold f_L_lorry_b38
      exact k M hp
    · rw [if_neg q]
      refine o_q (u_lane (w := 5) hl (by omega)) hz1 ha (by omega) hp (fun M hp => ?_)
      have e5 : nu8 s.1 l 5 = 0 := Decidable.byContradiction (fun e => q (by
        rw [hH0]
        exact lh_broken _ _ _ _ (by rw [e51]; exact e)))
      rw [if_pos e5]
      unfold f_L_lorry_b38
      exact k M hp
  have none' : (∀ M B, PR8 M b1 b2 s s B → f_L_lorry_b43 z b1 b2 (nI l) (nI X) (nI (kc8 s.1 l)) H0 1 M = f_L_lorry_b90 z b1 b2 (nI l) (nI X) (nI (kc8 s.1 l)) 1 M) → ∃ s', SG8 s' T ∧ s'.1 = s.1 ∧ ∀ M B, B < 700000000 → PR8 M b1 b2 s s B → RT8 (f_L_lorry z b1 b2 (nI l) (nI X) M) 1 (fun M' => PR8 M' b1 b2 s' s' (B + 3000)) := by
    intro e
    obtain ⟨s', g1, g2, g3⟩ := tail s hG rfl
    refine ⟨s', g1, g2, fun M B hB hp => start M B s' hB hp (fun M hp => ?_)⟩
    rw [e M B hp]
    obtain ⟨M', u1, u2⟩ := g3 M B (by omega) hp
    exact ⟨M', u1, ob_mono u2.1 (by omega), ob_mono u2.2 (by omega)⟩
  by_cases q : H0 = -1
  · exact none' (fun M B hp => by unfold f_L_lorry_b43; rw [if_pos q])
  · by_cases q60 : (60 : Int32) < H0
    · exact none' (fun M B hp => by unfold f_L_lorry_b43; rw [if_neg q, if_pos q60])
    · obtain ⟨H, hH1, hH60, hH⟩ : ∃ H, 1 ≤ H ∧ H ≤ 60 ∧ H0 = nI H := by
        rcases lh_ge (g0 := qb8 l 1 s.1 7) (g1 := qb8 l 1 s.1 8) (g2 := qb8 l 1 s.1 9) 400 1 (kc8 (qb8 l 1 s.1) l) (pu_s (qb8 l 1 s.1) l) with e | ⟨H, h1, h2, h3⟩
        · exact absurd (hH0.trans e) q
        · rw [← hH0] at h3
          rw [h3, i32_lt, nI_toInt (by omega), i32_60] at q60
          exact ⟨H, h1, by omega, h3⟩
      obtain ⟨t, g1, g2, g3⟩ := u_breaks (z := z) hG hT hl hH1 hH60 (by rw [← hH0, hH])
      obtain ⟨s', a1, a2, a3⟩ := tail t g1 g2
      refine ⟨s', a1, a2, fun M B hB hp => start M B s' hB hp (fun M hp => ?_)⟩
      unfold f_L_lorry_b43
      rw [if_neg q, if_neg q60, if_neg (by decide), hH]
      refine o_n g3 hz1 ha (by omega) hp (fun M hp => ?_)
      rw [if_neg (by decide)]
      refine q_n g3 hz2 ha (by omega) hp (fun M hp => ?_)
      rw [if_neg (by decide)]
      unfold f_L_lorry_b88
      obtain ⟨M', u1, u2⟩ := a3 M _ (by omega) hp
      exact ⟨M', u1, ob_mono u2.1 (by omega), ob_mono u2.2 (by omega)⟩
end UG
