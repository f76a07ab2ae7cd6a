section UI
variable {z : Sh9} {M M' : Mem9} {b1 b2 k l n B T X L : Nat} {s t s' : St8} {xs : Nat → Int32} {x y v : Int32} {Post : Mem9 → Prop} {R : Nat → Nat → Int32 → Int32 → Int32 → Mem9 → Re9} {x4 x5 : Int32}
theorem i_back {a b : Int32} : a + (b - a) = b := by rw [Int32.add_comm, Int32.sub_add_cancel]
/-- behind the test that the two gates are alike: ticks to come, and back -/
theorem w_170 (hz1 : HZ8 z b1) (hz2 : HZ8 z b2) (ha : AP8 b1 b2) (hG : SG8 s T) (hT : T ≤ 9000000) (hX : X < 2 ^ 31) (hr : ∀ s' B' M, SG8 s' T → B' ≤ B + 3720 → PR8 M b1 b2 s' s' B' → RT8 (R b1 b2 1 x4 (x5 + 1) M) 1 Post) (hB : B < 600000000) (hp : PR8 M b1 b2 s s B) : RT8 (f_L_law_b170 z L xs R b1 b2 x4 x5 (nI X) 1 M) 1 Post := by
  have hR := hG.1.1
  have hn3 := hR.2.1
  have hk1 := hG.2.1
  have hA14 := hG.2.2.1
  obtain ⟨l, hl0, hl⟩ : ∃ l, l = X / 7 % kn8 s.1 ∧ l < kn8 s.1 := ⟨_, rfl, Nat.mod_lt _ (by omega)⟩
  obtain ⟨n, hn0, hn1, hn60⟩ : ∃ n, n = 1 + X / 21 % 60 ∧ 1 ≤ n ∧ n ≤ 60 := ⟨_, rfl, by omega, by omega⟩
  have d7 : dv9 (nI X) 7 = some (nI (X / 7)) := dv_n (D := 7) (d := 7) rfl (by omega) hX (by omega) rfl
  have rl : rm9 (nI (X / 7)) (nI (kn8 s.1)) = some (nI l) := rm_n (D := nI (kn8 s.1)) (d := kn8 s.1) rfl (by omega) (by omega) (by omega) hl0.symm
  have d21 : dv9 (nI X) 21 = some (nI (X / 21)) := dv_n (D := 21) (d := 21) rfl (by omega) hX (by omega) rfl
  have r60 : rm9 (nI (X / 21)) 60 = some (nI (X / 21 % 60)) := rm_n (D := 60) (d := 60) rfl (by omega) (by omega) (by omega) rfl
  have e1 : (1 : Int32) + nI (X / 21 % 60) = nI n := by rw [hn0]; exact ad_n rfl
  have d9 : dv9 (nI X) 9 = some (nI (X / 9)) := dv_n (D := 9) (d := 9) rfl (by omega) hX (by omega) rfl
  have e0 : aw8 s.1 0 = nI (kn8 s.1) := hR.1
  obtain ⟨wr, wr1, wr2, wr3⟩ := rv_nat (n := n) hG.1 (by omega)
  obtain ⟨s1, hs1⟩ : ∃ s1, s1 = pus8 s (rn8 n s.1) := ⟨_, rfl⟩
  obtain ⟨s2, hs2⟩ : ∃ s2, s2 = pop8 s1 := ⟨_, rfl⟩
  have e11 : s1.1 = rn8 n s.1 := by rw [hs1]; rfl
  have e21 : s2.1 = s.1 := by rw [hs2, hs1]; exact pp_1 hA14
  have hA1 : 1 ≤ s1.2.1 ∧ s1.2.1 ≤ 14 := by rw [hs1]; exact ⟨ra_1, ra_14 hA14⟩
  have hG2 : SG8 s2 T := by rw [hs2, hs1]; exact sg_pp hG
  have hRn : RI8 s1.1 := by rw [e11]; exact ri_rn hR
  have hl1 : l < kn8 s1.1 := by rw [e11, rn_kn]; exact hl
  have hem := em_iff n 401 0 s.1 hR hl (by omega) (by omega)
  obtain ⟨s', g1, g2, g3⟩ := u_lorry (z := z) (b1 := b1) (b2 := b2) (X := X / 9) hz1 hz2 ha hG2 (by omega) (l := l) (by rw [e21]; exact hl) (by omega)
  unfold f_L_law_b170
  refine o_q (u_about (w := 0) (by omega)) hz1 ha (by omega) hp (fun M hp => ?_)
  rw [d7, sb_k, e0, rl, sb_k, d21, sb_k, r60, sb_k, nm_k, e1]
  refine o_q (u_coming (w := 0) hn1 (by omega) (by omega)) hz1 ha (by omega) hp (fun M hp => ?_)
  refine o_q (u_coming (w := 1) hn1 (by omega) (by omega)) hz1 ha (by omega) hp (fun M hp => ?_)
  refine o_q (u_coming (w := 2) hn1 (by omega) (by omega)) hz1 ha (by omega) hp (fun M hp => ?_)
  refine o_q (u_coming (w := 3) hn1 (by omega) (by omega)) hz1 ha (by omega) hp (fun M hp => ?_)
  refine o_q (u_empty hl) hz1 ha (by omega) hp (fun M hp => ?_)
  refine o_q (u_about (w := 4) (by omega)) hz1 ha (by omega) hp (fun M hp => ?_)
  refine o_q (u_about (w := 5) (by omega)) hz1 ha (by omega) hp (fun M hp => ?_)
  refine o_q (u_about (w := 6) (by omega)) hz1 ha (by omega) hp (fun M hp => ?_)
  refine o_q (u_about (w := 1) (by omega)) hz1 ha (by omega) hp (fun M hp => ?_)
  have c0 : co8 s.1 s.1 n 0 = rn8 n s.1 3 - s.1 3 := rfl
  have c1 : co8 s.1 s.1 n 1 = rn8 n s.1 4 - s.1 4 := rfl
  have c2 : co8 s.1 s.1 n 2 = rn8 n s.1 5 - s.1 5 := rfl
  have c3 : co8 s.1 s.1 n 3 = rs8 (rn8 n s.1) 0 := rfl
  have b4 : aw8 s.1 4 = s.1 3 := rfl
  have b5 : aw8 s.1 5 = s.1 4 := rfl
  have b6 : aw8 s.1 6 = s.1 5 := rfl
  have b1' : aw8 s.1 1 = s.1 1 := rfl
  rw [c0, c1, c2, c3, b4, b5, b6, b1', if_neg (by decide)]
  refine o_a (a_run (s := s) hn1 hn60) hz1 ha (by omega) hp (fun M hp => ?_)
  rw [← hs1] at hp
  rw [if_pos wr3]
  refine q_a (a_run (s := s) hn1 hn60) hz2 ha (by omega) hp (fun M hp => ?_)
  rw [← hs1] at hp
  rw [if_pos wr3]
  refine o_q (u_about (s := s1) (w := 4) (by omega)) hz1 ha (by omega) hp (fun M hp => ?_)
  rw [if_pos (show aw8 s1.1 4 = s.1 3 + (rn8 n s.1 3 - s.1 3) by rw [i_back, e11]; rfl)]
  refine o_q (u_about (s := s1) (w := 5) (by omega)) hz1 ha (by omega) hp (fun M hp => ?_)
  rw [if_pos (show aw8 s1.1 5 = s.1 4 + (rn8 n s.1 4 - s.1 4) by rw [i_back, e11]; rfl)]
  refine o_q (u_about (s := s1) (w := 6) (by omega)) hz1 ha (by omega) hp (fun M hp => ?_)
  rw [if_pos (show aw8 s1.1 6 = s.1 5 + (rn8 n s.1 5 - s.1 5) by rw [i_back, e11]; rfl)]
  refine o_q (u_about (s := s1) (w := 2) (by omega)) hz1 ha (by omega) hp (fun M hp => ?_)
  rw [if_pos (show aw8 s1.1 2 = rs8 (rn8 n s.1) 0 by rw [e11]; rfl)]
  refine o_q (u_lane (s := s1) (w := 0) hl1 (by omega)) hz1 ha (by omega) hp (fun M hp => ?_)
  have ec : nu8 s1.1 l 0 = nI (kc8 s1.1 l) := (hRn.2.2.2 l hl1).1
  have h61 := (hRn.2.2.2 l hl1).2.1
  rw [ec]
  -- the end of a turn
  have fin : ∀ u : Int32, RT8 (f_L_law_b441 z L xs R b1 b2 x4 x5 (nI X) (nI l) (s.1 1) u u M) 1 Post := fun u => by
    unfold f_L_law_b441
    rw [if_pos rfl]
    refine o_a (a_undo (s := s1) hA1.1) hz1 ha (by omega) hp (fun M hp => ?_)
    rw [← hs2] at hp
    refine bi_rt (th_k (by omega)) ?_
    rw [if_pos rfl]
    refine q_a (a_undo (s := s1) hA1.1) hz2 ha (by omega) hp (fun M hp => ?_)
    rw [← hs2] at hp
    refine bi_rt (th_k (by omega)) ?_
    rw [if_pos rfl]
    refine o_q (u_about (s := s2) (w := 1) (by omega)) hz1 ha (by omega) hp (fun M hp => ?_)
    rw [if_pos (show aw8 s2.1 1 = s.1 1 by rw [e21]; rfl), d9, sb_k]
    obtain ⟨M2, u1, u2⟩ := g3 M _ (by omega) hp
    refine bi_rt u1 ?_
    rw [if_neg (by decide)]
    unfold f_L_law_b507
    exact hr s' _ M2 g1 (by omega) u2
  have hle := le_ge (g0 := s.1 7) (g1 := s.1 8) (g2 := s.1 9) 401 0 (kc8 s.1 l) (pu_s s.1 l)
  rw [← e11] at hem
  by_cases q : kc8 s1.1 l = 0
  · obtain ⟨k, k1, k2⟩ := hem.mp q
    rw [Nat.zero_add] at k2
    rw [q, if_pos (show nI 0 = 0 from rfl)]
    unfold f_L_law_b423
    rw [k2, if_neg (nI_m1 (by omega)), if_neg (nI_nlt k1 (by omega))]
    exact fin 1
  · rw [if_neg (nI_ne0 (by omega) (by omega))]
    unfold f_L_law_b423
    rcases hle with e | ⟨k, k1, k2, k3⟩
    · rw [if_pos e]
      unfold f_L_law_b440
      exact fin 0
    · have hkn : n < k := by
        rcases Nat.lt_or_ge n k with h | h
        · exact h
        · exact absurd (hem.mpr ⟨k, h, by rw [Nat.zero_add]; exact k3⟩) q
      rw [k3, if_neg (nI_m1 (by omega)), if_pos (nI_lt hkn (by omega))]
      unfold f_L_law_b440
      exact fin 0
theorem w_loop (hL : L ≤ 260) (hz1 : HZ8 z b1) (hz2 : HZ8 z b2) (ha : AP8 b1 b2) {turns : Nat} (ht : turns ≤ 24) : ∀ rem k m M s B T, k + rem = turns → rem < m → SG8 s T → T ≤ 100 * k → B ≤ 100000 * k + 1000 → PR8 M b1 b2 s s B → RT8 (fx9 (fun _ _ _ _ _ _ => none) (f_L_law_b62 z L xs) m b1 b2 1 (nI turns) (nI k) M) 1 (fun _ => True) := by
  intro rem
  induction rem with
  | zero =>
    intro k m M s B T hk hm hG hT hB hp
    obtain ⟨m, rfl⟩ : ∃ q, m = q + 1 := ⟨m - 1, by omega⟩
    rw [fx_k]
    unfold f_L_law_b62
    rw [if_pos (nI_le (by omega) (by omega))]
    exact rt_1 trivial
  | succ rem ih =>
    intro k m M s B T hk hm hG hT hB hp
    obtain ⟨m, rfl⟩ : ∃ q, m = q + 1 := ⟨m - 1, by omega⟩
    obtain ⟨X, hX, hc⟩ := cell_ok (z := z) (L := L) (I := 1 + k) (xs := xs) hL (by omega)
    obtain ⟨va, s1, hG1, haa⟩ := u_act (z := z) (X := X) hG hX
    have e1 : (1 : Int32) + nI k = nI (1 + k) := ad_n rfl
    have r1 : rm9 (nI X) 100000 = some (nI (X % 100000)) := rm_n (D := 100000) (d := 100000) rfl (by omega) hX (by omega) rfl
    have r2 : rm9 (nI X) 1000 = some (nI (X % 1000)) := rm_n (D := 1000) (d := 1000) rfl (by omega) hX (by omega) rfl
    have r3 : rm9 (nI X) 5000 = some (nI (X % 5000)) := rm_n (D := 5000) (d := 5000) rfl (by omega) hX (by omega) rfl
    have r4 : rm9 (nI k) 2 = some (nI (k % 2)) := rm_n (D := 2) (d := 2) rfl (by omega) (by omega) (by omega) rfl
    have next : ∀ M, PR8 M b1 b2 s1 s1 (B + 180 + 180) → RT8 (f_L_law_b165 z L xs (fx9 (fun _ _ _ _ _ _ => none) (f_L_law_b62 z L xs) m) b1 b2 (nI turns) (nI k) (nI X) M) 1 (fun _ => True) := fun M hp => by
      unfold f_L_law_b165
      refine w_170 hz1 hz2 ha hG1 (by omega) hX (fun s' B' M g1 g2 g3 => ?_) (by omega) hp
      rw [nI_1]
      exact ih (k + 1) m M s' B' (T + 40) (by omega) (by omega) g1 (by omega) (by omega) g3
    rw [fx_k]
    unfold f_L_law_b62
    rw [if_neg (nI_ge (by omega) (by omega)), if_neg (by decide), e1]
    refine bi_rt (hc M) ?_
    refine o_a haa hz1 ha (by omega) hp (fun M hp => ?_)
    rw [r1, sb_k]
    refine q_q (u_refuses (X := X % 100000) hG (by omega)) hz2 ha (by omega) hp (fun M hp => ?_)
    rw [if_neg (by decide)]
    refine q_a haa hz2 ha (by omega) hp (fun M hp => ?_)
    rw [if_pos rfl, r2, sb_k]
    refine q_q (u_refuses (X := X % 1000) hG1 (by omega)) hz2 ha (by omega) hp (fun M hp => ?_)
    rw [if_neg (by decide), r3, sb_k]
    obtain ⟨M2, u1, u2⟩ := u_alike (X := X % 5000) hz1 hz2 ha (by omega) hG1.1.1 (by omega) hp
    refine bi_rt u1 ?_
    rw [if_neg (by decide), r4, sb_k]
    by_cases q : nI (k % 2) = 0
    · rw [if_pos q]
      refine o_q (u_holds hG1 (by omega)) hz1 ha (by omega) u2 (fun M hp => ?_)
      rw [if_neg (by decide)]
      exact next M hp
    · rw [if_neg q]
      refine q_q (u_holds hG1 (by omega)) hz2 ha (by omega) u2 (fun M hp => ?_)
      rw [if_neg (by decide)]
      exact next M hp
theorem w_start (hL : L ≤ 260) (hz1 : HZ8 z b1) (hz2 : HZ8 z b2) (ha : AP8 b1 b2) (hp : PR8 M b1 b2 s0_8 s0_8 0) : RT8 (f_L_law_b16 z L xs b1 b2 M) 1 (fun _ => True) := by
  have hn : kn8 s0_8.1 < 3 := by show kn8 Q0_8 < 3; rw [kn_0]; omega
  obtain ⟨g1, g2⟩ := rg_ql rg_0 (show kn8 Q0_8 < 3 by rw [kn_0]; omega)
  have hk1 : kn8 (ql8 Q0_8) = 1 := by rw [g2, kn_0]
  have hG : SG8 (pus8 s0_8 (ql8 Q0_8)) 0 := by
    refine ⟨g1, by show 1 ≤ kn8 (ql8 Q0_8); omega, by show ra8 0 ≤ 14; decide, fun j hj => ?_, fun j hj => ⟨Or.inl rfl, fun h => ?_⟩⟩
    · have hj : j < 1 := hj
      have hj : j = 0 := by omega
      subst hj
      refine ⟨rg_0, ?_⟩
      show kn8 (ql8 Q0_8) ≤ kn8 Q0_8 + 1
      omega
    · have h : (0 : Int32) = 1 := h
      exact absurd h (by decide)
  have ev : nI (kn8 s0_8.1) = 0 := by show nI (kn8 Q0_8) = 0; rw [kn_0]; rfl
  obtain ⟨X, hX, hc⟩ := cell_ok (z := z) (L := L) (I := 0) (xs := xs) hL (by omega)
  have r17 : rm9 (nI X) 17 = some (nI (X % 17)) := rm_n (D := 17) (d := 17) rfl (by omega) hX (by omega) rfl
  have e8 : (8 : Int32) + nI (X % 17) = nI (8 + X % 17) := ad_n rfl
  unfold f_L_law_b16
  refine o_a (a_add (s := s0_8) hn) hz1 ha (by omega) hp (fun M hp => ?_)
  rw [if_pos ev]
  refine q_a (a_add (s := s0_8) hn) hz2 ha (by omega) hp (fun M hp => ?_)
  rw [if_pos ev]
  unfold f_L_law_b45
  refine bi_rt (hc M) ?_
  rw [r17, sb_k, nm_k, e8]
  exact w_loop hL hz1 hz2 ha (turns := 8 + X % 17) (by omega) (8 + X % 17) 0 26 M _ _ 0 (by omega) (by omega) hG (by omega) (by omega) hp
end UI
theorem law_pure {a L : Nat} {xs : Nat → Int32} (hL : L ≤ 260) : ∃ M', f_L_law_b16 (a, 766, kd9) L xs a (a + 383) (mem9 a) = some (.inl (some (.int 1)), M') := by
  obtain ⟨M', h, -⟩ := w_start (xs := xs) hL hz_mk hz_mk2 (Or.inl (Nat.le_refl _)) ⟨mem_1 (a := a), mem_2⟩
  exact ⟨M', h⟩
