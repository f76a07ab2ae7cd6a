section UD
variable {z : Sh9} {M M0 M1 : Mem9} {b1 b2 k l w n B T X : Nat} {s t : St8} {x y v : Int32} {Post : Mem9 → Prop}
theorem u_veh_any (hR : RI8 s.1) (hl : l < kn8 s.1) (hk : k < 8) (hw : w ≤ 4) : ∃ v, QU8 z (fun b M => f_L_call z b 4 (nI l) (nI k) (nI w) M) s v := by
  have hn3 := hR.2.1
  by_cases h : k < kc8 s.1 l
  · exact ⟨_, u_veh hl h hw⟩
  · refine ⟨_, u_veh_i (fun e => ?_)⟩
    have := (e.2 l rfl (by omega)).2
    rw [nI_toInt (by omega)] at this
    omega
theorem u_set_any (hk : k < 10) : ∃ v, QU8 z (fun b M => f_L_call z b 6 (nI k) 0 0 M) s v := by
  by_cases h : k ≤ 2
  · exact ⟨_, u_set h⟩
  · exact ⟨_, u_set_a (by rw [nI_toInt (by omega)]; omega)⟩
section UD2
variable (hz1 : HZ8 z b1) (hz2 : HZ8 z b2) (ha : AP8 b1 b2) (hB : B < 1000000000) (hR : RI8 s.1) (hX : X < 5000)
theorem l_in (hz1 : HZ8 z b1) (hz2 : HZ8 z b2) (ha : AP8 b1 b2) (hB : B < 1000000000) (hR : RI8 s.1) (hX : X < 5000) (hl : l < kn8 s.1) {R : Nat → Nat → Int32 → Int32 → Int32 → Int32 → Mem9 → Re9} (hr : ∀ M, PR8 M b1 b2 s s B → RT8 (R b1 b2 (nI X) (nI (kn8 s.1)) 1 (nI l + 1) M) 1 Post) : ∀ rem k m M, k + rem = 8 → rem < m → PR8 M b1 b2 s s B → RT8 (fx9 (fun _ _ _ _ _ _ _ _ => none) (f_L_alike_b132 z R) m b1 b2 (nI X) (nI (kn8 s.1)) 1 (nI l) (nI k) M) 1 Post := by
  have r5 : rm9 (nI X) 5 = some (nI (X % 5)) := rm_n (D := 5) (d := 5) rfl (by omega) (by omega) (by omega) rfl
  intro rem
  induction rem with
  | zero =>
    intro k m M hk hm hp
    obtain ⟨m, rfl⟩ : ∃ q, m = q + 1 := ⟨m - 1, by omega⟩
    rw [fx_k]
    unfold f_L_alike_b132
    rw [if_pos (show (8 : Int32) ≤ nI k from nI_le (a := 8) (by omega) (by omega))]
    exact hr M hp
  | succ rem ih =>
    intro k m M hk hm hp
    obtain ⟨m, rfl⟩ : ∃ q, m = q + 1 := ⟨m - 1, by omega⟩
    obtain ⟨va, qa⟩ := u_veh_any (z := z) (w := 1) hR hl (show k < 8 by omega) (by omega)
    obtain ⟨vb, qb⟩ := u_veh_any (z := z) (w := X % 5) hR hl (show k < 8 by omega) (by omega)
    rw [fx_k]
    unfold f_L_alike_b132
    rw [if_neg (show ¬ (8 : Int32) ≤ nI k from nI_ge (b := 8) (by omega) (by decide)), if_neg (by decide)]
    refine o_q (u_lane hl (show k ≤ 7 by omega)) hz1 ha hB hp (fun M hp => ?_)
    refine q_q (u_lane hl (show k ≤ 7 by omega)) hz2 ha hB hp (fun M hp => ?_)
    rw [if_pos rfl]
    refine o_q qa hz1 ha hB hp (fun M hp => ?_)
    refine q_q qa hz2 ha hB hp (fun M hp => ?_)
    rw [if_pos rfl, r5, sb_k]
    refine o_q qb hz1 ha hB hp (fun M hp => ?_)
    rw [sb_k]
    refine q_q qb hz2 ha hB hp (fun M hp => ?_)
    rw [if_pos rfl]
    unfold f_L_alike_b222
    rw [nI_1]
    exact ih (k + 1) m M (by omega) (by omega) hp
theorem l_out (hz1 : HZ8 z b1) (hz2 : HZ8 z b2) (ha : AP8 b1 b2) (hB : B < 1000000000) (hR : RI8 s.1) (hX : X < 5000) : ∀ rem l m M, l + rem = kn8 s.1 → rem < m → PR8 M b1 b2 s s B → RT8 (fx9 (fun _ _ _ _ _ _ _ => none) (f_L_alike_b118 z) m b1 b2 (nI X) (nI (kn8 s.1)) 1 (nI l) M) 1 (fun M' => PR8 M' b1 b2 s s B) := by
  have hn3 := hR.2.1
  intro rem
  induction rem with
  | zero =>
    intro l m M hl hm hp
    obtain ⟨m, rfl⟩ : ∃ q, m = q + 1 := ⟨m - 1, by omega⟩
    rw [fx_k]
    unfold f_L_alike_b118
    rw [if_pos (nI_le (by omega) (by omega))]
    exact rt_1 hp
  | succ rem ih =>
    intro l m M hl hm hp
    obtain ⟨m, rfl⟩ : ∃ q, m = q + 1 := ⟨m - 1, by omega⟩
    rw [fx_k]
    unfold f_L_alike_b118
    rw [if_neg (nI_ge (by omega) (by omega)), if_neg (by decide)]
    exact l_in hz1 hz2 ha hB hR hX (by omega) (fun M hp => by rw [nI_1]; exact ih (l + 1) m M (by omega) (by omega) hp) 8 0 26 M (by omega) (by omega) hp
theorem l_first (hz1 : HZ8 z b1) (hz2 : HZ8 z b2) (ha : AP8 b1 b2) (hB : B < 1000000000) (hR : RI8 s.1) (hX : X < 5000) : ∀ rem k m M, k + rem = 10 → rem < m → PR8 M b1 b2 s s B → RT8 (fx9 (fun _ _ _ _ _ _ _ => none) (f_L_alike_b46 z) m b1 b2 (nI X) (nI (kn8 s.1)) 1 (nI k) M) 1 (fun M' => PR8 M' b1 b2 s s B) := by
  have hn3 := hR.2.1
  intro rem
  induction rem with
  | zero =>
    intro k m M hk hm hp
    obtain ⟨m, rfl⟩ : ∃ q, m = q + 1 := ⟨m - 1, by omega⟩
    rw [fx_k]
    unfold f_L_alike_b46
    rw [if_pos (show (10 : Int32) ≤ nI k from nI_le (a := 10) (by omega) (by omega))]
    unfold f_L_alike_b115
    exact l_out hz1 hz2 ha hB hR hX (kn8 s.1) 0 26 M (by omega) (by omega) hp
  | succ rem ih =>
    intro k m M hk hm hp
    obtain ⟨m, rfl⟩ : ∃ q, m = q + 1 := ⟨m - 1, by omega⟩
    obtain ⟨va, qa⟩ := u_set_any (z := z) (s := s) (show k < 10 by omega)
    rw [fx_k]
    unfold f_L_alike_b46
    rw [if_neg (show ¬ (10 : Int32) ≤ nI k from nI_ge (b := 10) (by omega) (by decide)), if_neg (by decide)]
    refine o_q (u_about (show k ≤ 9 by omega)) hz1 ha hB hp (fun M hp => ?_)
    refine q_q (u_about (show k ≤ 9 by omega)) hz2 ha hB hp (fun M hp => ?_)
    rw [if_pos rfl]
    refine o_q qa hz1 ha hB hp (fun M hp => ?_)
    refine q_q qa hz2 ha hB hp (fun M hp => ?_)
    rw [if_pos rfl]
    unfold f_L_alike_b107
    rw [nI_1]
    exact ih (k + 1) m M (by omega) (by omega) hp
theorem u_alike (hz1 : HZ8 z b1) (hz2 : HZ8 z b2) (ha : AP8 b1 b2) (hB : B < 1000000000) (hR : RI8 s.1) (hX : X < 5000) (hp : PR8 M b1 b2 s s B) : RT8 (f_L_alike z b1 b2 (nI X) M) 1 (fun M' => PR8 M' b1 b2 s s B) := by
  have r20 : rm9 (nI X) 20 = some (nI (X % 20)) := rm_n (D := 20) (d := 20) rfl (by omega) (by omega) (by omega) rfl
  have e1 : (1 : Int32) + nI (X % 20) = nI (1 + X % 20) := ad_n rfl
  have e0 : aw8 s.1 0 = nI (kn8 s.1) := hR.1
  obtain ⟨vs, qs⟩ := q_sim (z := z) (n := 1 + X % 20) hR (Int32.toInt64 (nI X)) (by omega) (by omega)
  unfold f_L_alike f_L_alike_b0
  refine o_q (u_about (w := 0) (by omega)) hz1 ha hB hp (fun M hp => ?_)
  rw [r20, sb_k, e1]
  refine o_q qs hz1 ha hB hp (fun M hp => ?_)
  rw [sb_k, e1]
  refine q_q qs hz2 ha hB hp (fun M hp => ?_)
  rw [if_pos rfl, e0]
  unfold f_L_alike_b41
  exact l_first hz1 hz2 ha hB hR hX 10 0 26 M (by omega) (by omega) hp
end UD2
end UD
