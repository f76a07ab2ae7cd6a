section UC
variable {z : Sh9} {M M0 M1 : Mem9} {b k l B T X : Nat} {s s' : St8} {x y v : Int32} {g : Nat → Mem9 → Re9}
/-- act behind its first question -/
def ar8 (z : Sh9) (x0 : Nat) (x1 v2 : Int32) (M1 : Mem9) : Re9 :=
  ((dv9 x1 (16 : Int32)).bind fun v3 => ((rm9 v3 v2).bind fun v4 => ((rm9 x1 (16 : Int32)).bind fun v5 => (if v5 = (0 : Int32) then (bi9 (f_L_call z x0 (7 : Int32) (0 : Int32) (0 : Int32) (0 : Int32) M1) fun v7 M6 => (ri9 v7 M6)) else (if v5 = (1 : Int32) then (f_L_act_b94 z  x0 x1 v4 M1) else (if v5 = (2 : Int32) then (f_L_act_b94 z  x0 x1 v4 M1) else (if v5 = (3 : Int32) then (f_L_act_b94 z  x0 x1 v4 M1) else (if v5 = (4 : Int32) then (f_L_act_b94 z  x0 x1 v4 M1) else (if v5 = (5 : Int32) then (f_L_act_b94 z  x0 x1 v4 M1) else (if v5 = (6 : Int32) then ((dv9 x1 (48 : Int32)).bind fun v14 => ((rm9 v14 (3 : Int32)).bind fun v15 => (if v15 ≤ 0 then (f_L_act_b155 z  (0 : Int32) v4 x0 M1) else (f_L_act_b155 z  (1 : Int32) v4 x0 M1)))) else (if v5 = (7 : Int32) then (bi9 (f_L_call z x0 (8 : Int32) v4 (0 : Int32) (0 : Int32) M1) fun v19 M18 => (ri9 v19 M18)) else (if v5 = (8 : Int32) then ((dv9 x1 (16 : Int32)).bind fun v21 => ((rm9 v21 (3 : Int32)).bind fun v22 => ((dv9 x1 (48 : Int32)).bind fun v23 => ((rm9 v23 (24 : Int32)).bind fun v24 => (bi9 (f_L_call z x0 (10 : Int32) v22 v24 (0 : Int32) M1) fun v26 M25 => (ri9 v26 M25)))))) else (if v5 = (9 : Int32) then (if (2 : Int32) ≤ v2 then (bi9 (f_L_call z x0 (11 : Int32) (0 : Int32) (0 : Int32) (0 : Int32) M1) fun v29 M28 => (ri9 v29 M28)) else (ri9 (-1 : Int32) M1)) else (if v5 = (10 : Int32) then ((dv9 x1 (16 : Int32)).bind fun v32 => ((rm9 v32 (2 : Int32)).bind fun v33 => (bi9 (f_L_call z x0 (17 : Int32) v33 (0 : Int32) (0 : Int32) M1) fun v35 M34 => (ri9 v35 M34)))) else (if v5 = (11 : Int32) then ((dv9 x1 (16 : Int32)).bind fun v37 => ((rm9 v37 (2 : Int32)).bind fun v38 => (bi9 (f_L_call z x0 (18 : Int32) v38 (0 : Int32) (0 : Int32) M1) fun v40 M39 => (ri9 v40 M39)))) else ((dv9 x1 (16 : Int32)).bind fun v42 => ((rm9 v42 (40 : Int32)).bind fun v43 => (bi9 (f_L_call z x0 (9 : Int32) ((1 : Int32) + v43) (0 : Int32) (0 : Int32) M1) fun v45 M44 => (ri9 v45 M44)))))))))))))))))))
theorem act_b0 : f_L_act z b x M = bi9 (f_L_call z b 2 0 0 0 M) fun v2 M1 => ar8 z b x v2 M1 := rfl
theorem act_of (hR : RI8 s.1) (hq : AC8 z g s v s') (e : ∀ b M1, HZ8 z b → ar8 z b x (nI (kn8 s.1)) M1 = bi9 (g b M1) fun v M => ri9 v M) : AC8 z (fun b M => f_L_act z b x M) s v s' := ac_of (fun b M B hz hB h => by
  show RT8 (f_L_act z b x M) v _
  rw [act_b0]
  refine s_q (u_about (w := 0) (by omega)) hz hB h f8_refl (fun M1 h1 f1 => ?_)
  have e0 : aw8 s.1 0 = nI (kn8 s.1) := hR.1
  rw [e0, e b M1 hz]
  exact s_a hq hz hB h1 (f8_383 f1) (fun M2 h2 f2 => rt_i ⟨f2, h2⟩))
theorem arr_94 {x4 : Int32} (hX : X < 2 ^ 31) : f_L_act_b94 z b (nI X) x4 M = bi9 (f_L_comes z b x4 (nI (2 + X / 48 % 11)) (if nI (X / 528 % 4) = 0 then (1 : Int32) else 0) (if nI (X / 2112 % 3) = 0 then (1 : Int32) else 0) M) fun v M => ri9 v M := by
  have d48 : dv9 (nI X) 48 = some (nI (X / 48)) := dv_n (D := 48) (d := 48) rfl (by omega) hX (by omega) rfl
  have r11 : rm9 (nI (X / 48)) 11 = some (nI (X / 48 % 11)) := rm_n (D := 11) (d := 11) rfl (by omega) (by omega) (by omega) rfl
  have d528 : dv9 (nI X) 528 = some (nI (X / 528)) := dv_n (D := 528) (d := 528) rfl (by omega) hX (by omega) rfl
  have r4 : rm9 (nI (X / 528)) 4 = some (nI (X / 528 % 4)) := rm_n (D := 4) (d := 4) rfl (by omega) (by omega) (by omega) rfl
  have d2112 : dv9 (nI X) 2112 = some (nI (X / 2112)) := dv_n (D := 2112) (d := 2112) rfl (by omega) hX (by omega) rfl
  have r3 : rm9 (nI (X / 2112)) 3 = some (nI (X / 2112 % 3)) := rm_n (D := 3) (d := 3) rfl (by omega) (by omega) (by omega) rfl
  have e2 : (2 : Int32) + nI (X / 48 % 11) = nI (2 + X / 48 % 11) := ad_n rfl
  have e120 : ∀ u : Int32, f_L_act_b120 z (nI X) u (nI (2 + X / 48 % 11)) x4 b M = bi9 (f_L_comes z b x4 (nI (2 + X / 48 % 11)) u (if nI (X / 2112 % 3) = 0 then (1 : Int32) else 0) M) fun v M => ri9 v M := fun u => by
    unfold f_L_act_b120
    rw [d2112, sb_k, r3, sb_k]
    by_cases q : nI (X / 2112 % 3) = 0
    · rw [if_pos q, if_pos q]
      rfl
    · rw [if_neg q, if_neg q]
      rfl
  unfold f_L_act_b94
  rw [d48, sb_k, r11, sb_k, d528, sb_k, r4, sb_k, e2]
  by_cases q : nI (X / 528 % 4) = 0
  · rw [if_pos q, if_pos q, e120]
  · rw [if_neg q, if_neg q, e120]
set_option maxRecDepth 20000 in
set_option maxHeartbeats 4000000 in
theorem u_act (hG : SG8 s T) (hX : X < 2 ^ 31) : ∃ v s', SG8 s' (T + 40) ∧ AC8 z (fun b M => f_L_act z b (nI X) M) s v s' := by
  have hk1 := hG.2.1
  have hR := hG.1.1
  have hn3 := hR.2.1
  have hG' : SG8 s (T + 40) := sg_mono hG (by omega)
  have d16 : dv9 (nI X) 16 = some (nI (X / 16)) := dv_n (D := 16) (d := 16) rfl (by omega) hX (by omega) rfl
  have rl : rm9 (nI (X / 16)) (nI (kn8 s.1)) = some (nI (X / 16 % kn8 s.1)) := rm_n (D := nI (kn8 s.1)) (d := kn8 s.1) rfl (by omega) (by omega) (by omega) rfl
  obtain ⟨k, hk, hk16⟩ : ∃ k, k = X % 16 ∧ k < 16 := ⟨_, rfl, by omega⟩
  have r16 : rm9 (nI X) 16 = some (nI k) := rm_n (D := 16) (d := 16) rfl (by omega) hX (by omega) hk.symm
  obtain ⟨l, hl0, hl⟩ : ∃ l, l = X / 16 % kn8 s.1 ∧ l < kn8 s.1 := ⟨_, rfl, Nat.mod_lt _ (by omega)⟩
  rw [← hl0] at rl
  rcases (show k = 0 ∨ k = 1 ∨ k = 2 ∨ k = 3 ∨ k = 4 ∨ k = 5 ∨ k = 6 ∨ k = 7 ∨ k = 8 ∨ k = 9 ∨ k = 10 ∨ k = 11 ∨ k = 12 ∨ k = 13 ∨ k = 14 ∨ k = 15 by omega) with rfl | rfl | rfl | rfl | rfl | rfl | rfl | rfl | rfl | rfl | rfl | rfl | rfl | rfl | rfl | rfl
  · have e : ∀ b M1, HZ8 z b → ar8 z b (nI X) (nI (kn8 s.1)) M1 = bi9 (f_L_call z b 7 0 0 0 M1) fun v M => ri9 v M := fun b M1 hz => by
      unfold ar8; rw [d16, sb_k, rl, sb_k, r16, sb_k, if_pos (show nI 0 = 0 from rfl)]
    by_cases hn : kn8 s.1 < 3
    · obtain ⟨g1, g2⟩ := rg_ql hG.1 hn
      exact ⟨_, _, sg_push hG (rg_mono g1 (by omega)) (by omega) (by omega) (by omega), act_of hR (a_add hn) e⟩
    · exact ⟨_, _, hG', act_of hR (qu_ac (u_add_s hn)) e⟩
  · have e : ∀ b M1, HZ8 z b → ar8 z b (nI X) (nI (kn8 s.1)) M1 = bi9 (f_L_comes z b (nI l) (nI (2 + X / 48 % 11)) (if nI (X / 528 % 4) = 0 then (1 : Int32) else 0) (if nI (X / 2112 % 3) = 0 then (1 : Int32) else 0) M1) fun v M => ri9 v M := fun b M1 hz => by
      unfold ar8; rw [d16, sb_k, rl, sb_k, r16, sb_k, if_neg (show ¬ nI 1 = 0 by decide), if_pos (show nI 1 = 1 from rfl)]
      exact arr_94 hX
    have hlen : 2 ≤ (nI (2 + X / 48 % 11)).toInt ∧ (nI (2 + X / 48 % 11)).toInt ≤ 12 := by rw [nI_toInt (by omega)]; omega
    have hlo : b9 (if nI (X / 528 % 4) = 0 then (1 : Int32) else 0) := int_or _
    have hfo : b9 (if nI (X / 2112 % 3) = 0 then (1 : Int32) else 0) := int_or _
    by_cases hc : kc8 s.1 l < 6
    · obtain ⟨g1, g2⟩ := rg_qa hG.1 hl hc hlen.1 hlen.2 hlo hfo
      exact ⟨_, _, sg_push hG (rg_mono g1 (by omega)) (by omega) (by omega) (by omega), act_of hR (a_comes hl hlen hc hlo hfo) e⟩
    · exact ⟨_, _, hG', act_of hR (qu_ac (u_comes_s hl hlen hc)) e⟩
  · have e : ∀ b M1, HZ8 z b → ar8 z b (nI X) (nI (kn8 s.1)) M1 = bi9 (f_L_comes z b (nI l) (nI (2 + X / 48 % 11)) (if nI (X / 528 % 4) = 0 then (1 : Int32) else 0) (if nI (X / 2112 % 3) = 0 then (1 : Int32) else 0) M1) fun v M => ri9 v M := fun b M1 hz => by
      unfold ar8; rw [d16, sb_k, rl, sb_k, r16, sb_k, if_neg (show ¬ nI 2 = 0 by decide), if_neg (show ¬ nI 2 = 1 by decide), if_pos (show nI 2 = 2 from rfl)]
      exact arr_94 hX
    have hlen : 2 ≤ (nI (2 + X / 48 % 11)).toInt ∧ (nI (2 + X / 48 % 11)).toInt ≤ 12 := by rw [nI_toInt (by omega)]; omega
    have hlo : b9 (if nI (X / 528 % 4) = 0 then (1 : Int32) else 0) := int_or _
    have hfo : b9 (if nI (X / 2112 % 3) = 0 then (1 : Int32) else 0) := int_or _
    by_cases hc : kc8 s.1 l < 6
    · obtain ⟨g1, g2⟩ := rg_qa hG.1 hl hc hlen.1 hlen.2 hlo hfo
      exact ⟨_, _, sg_push hG (rg_mono g1 (by omega)) (by omega) (by omega) (by omega), act_of hR (a_comes hl hlen hc hlo hfo) e⟩
    · exact ⟨_, _, hG', act_of hR (qu_ac (u_comes_s hl hlen hc)) e⟩
  · have e : ∀ b M1, HZ8 z b → ar8 z b (nI X) (nI (kn8 s.1)) M1 = bi9 (f_L_comes z b (nI l) (nI (2 + X / 48 % 11)) (if nI (X / 528 % 4) = 0 then (1 : Int32) else 0) (if nI (X / 2112 % 3) = 0 then (1 : Int32) else 0) M1) fun v M => ri9 v M := fun b M1 hz => by
      unfold ar8; rw [d16, sb_k, rl, sb_k, r16, sb_k, if_neg (show ¬ nI 3 = 0 by decide), if_neg (show ¬ nI 3 = 1 by decide), if_neg (show ¬ nI 3 = 2 by decide), if_pos (show nI 3 = 3 from rfl)]
      exact arr_94 hX
    have hlen : 2 ≤ (nI (2 + X / 48 % 11)).toInt ∧ (nI (2 + X / 48 % 11)).toInt ≤ 12 := by rw [nI_toInt (by omega)]; omega
    have hlo : b9 (if nI (X / 528 % 4) = 0 then (1 : Int32) else 0) := int_or _
    have hfo : b9 (if nI (X / 2112 % 3) = 0 then (1 : Int32) else 0) := int_or _
    by_cases hc : kc8 s.1 l < 6
    · obtain ⟨g1, g2⟩ := rg_qa hG.1 hl hc hlen.1 hlen.2 hlo hfo
      exact ⟨_, _, sg_push hG (rg_mono g1 (by omega)) (by omega) (by omega) (by omega), act_of hR (a_comes hl hlen hc hlo hfo) e⟩
    · exact ⟨_, _, hG', act_of hR (qu_ac (u_comes_s hl hlen hc)) e⟩
  · have e : ∀ b M1, HZ8 z b → ar8 z b (nI X) (nI (kn8 s.1)) M1 = bi9 (f_L_comes z b (nI l) (nI (2 + X / 48 % 11)) (if nI (X / 528 % 4) = 0 then (1 : Int32) else 0) (if nI (X / 2112 % 3) = 0 then (1 : Int32) else 0) M1) fun v M => ri9 v M := fun b M1 hz => by
      unfold ar8; rw [d16, sb_k, rl, sb_k, r16, sb_k, if_neg (show ¬ nI 4 = 0 by decide), if_neg (show ¬ nI 4 = 1 by decide), if_neg (show ¬ nI 4 = 2 by decide), if_neg (show ¬ nI 4 = 3 by decide), if_pos (show nI 4 = 4 from rfl)]
      exact arr_94 hX
    have hlen : 2 ≤ (nI (2 + X / 48 % 11)).toInt ∧ (nI (2 + X / 48 % 11)).toInt ≤ 12 := by rw [nI_toInt (by omega)]; omega
    have hlo : b9 (if nI (X / 528 % 4) = 0 then (1 : Int32) else 0) := int_or _
    have hfo : b9 (if nI (X / 2112 % 3) = 0 then (1 : Int32) else 0) := int_or _
    by_cases hc : kc8 s.1 l < 6
    · obtain ⟨g1, g2⟩ := rg_qa hG.1 hl hc hlen.1 hlen.2 hlo hfo
      exact ⟨_, _, sg_push hG (rg_mono g1 (by omega)) (by omega) (by omega) (by omega), act_of hR (a_comes hl hlen hc hlo hfo) e⟩
    · exact ⟨_, _, hG', act_of hR (qu_ac (u_comes_s hl hlen hc)) e⟩
  · have e : ∀ b M1, HZ8 z b → ar8 z b (nI X) (nI (kn8 s.1)) M1 = bi9 (f_L_comes z b (nI l) (nI (2 + X / 48 % 11)) (if nI (X / 528 % 4) = 0 then (1 : Int32) else 0) (if nI (X / 2112 % 3) = 0 then (1 : Int32) else 0) M1) fun v M => ri9 v M := fun b M1 hz => by
      unfold ar8; rw [d16, sb_k, rl, sb_k, r16, sb_k, if_neg (show ¬ nI 5 = 0 by decide), if_neg (show ¬ nI 5 = 1 by decide), if_neg (show ¬ nI 5 = 2 by decide), if_neg (show ¬ nI 5 = 3 by decide), if_neg (show ¬ nI 5 = 4 by decide), if_pos (show nI 5 = 5 from rfl)]
      exact arr_94 hX
    have hlen : 2 ≤ (nI (2 + X / 48 % 11)).toInt ∧ (nI (2 + X / 48 % 11)).toInt ≤ 12 := by rw [nI_toInt (by omega)]; omega
    have hlo : b9 (if nI (X / 528 % 4) = 0 then (1 : Int32) else 0) := int_or _
    have hfo : b9 (if nI (X / 2112 % 3) = 0 then (1 : Int32) else 0) := int_or _
    by_cases hc : kc8 s.1 l < 6
    · obtain ⟨g1, g2⟩ := rg_qa hG.1 hl hc hlen.1 hlen.2 hlo hfo
      exact ⟨_, _, sg_push hG (rg_mono g1 (by omega)) (by omega) (by omega) (by omega), act_of hR (a_comes hl hlen hc hlo hfo) e⟩
    · exact ⟨_, _, hG', act_of hR (qu_ac (u_comes_s hl hlen hc)) e⟩
  · have d48 : dv9 (nI X) 48 = some (nI (X / 48)) := dv_n (D := 48) (d := 48) rfl (by omega) hX (by omega) rfl
    have r3 : rm9 (nI (X / 48)) 3 = some (nI (X / 48 % 3)) := rm_n (D := 3) (d := 3) rfl (by omega) (by omega) (by omega) rfl
    have e : ∀ b M1, HZ8 z b → ar8 z b (nI X) (nI (kn8 s.1)) M1 = bi9 (f_L_loops z b (nI l) (if nI (X / 48 % 3) ≤ 0 then (0 : Int32) else 1) M1) fun v M => ri9 v M := fun b M1 hz => by
      unfold ar8; rw [d16, sb_k, rl, sb_k, r16, sb_k, if_neg (show ¬ nI 6 = 0 by decide), if_neg (show ¬ nI 6 = 1 by decide), if_neg (show ¬ nI 6 = 2 by decide), if_neg (show ¬ nI 6 = 3 by decide), if_neg (show ¬ nI 6 = 4 by decide), if_neg (show ¬ nI 6 = 5 by decide), if_pos (show nI 6 = 6 from rfl), d48, sb_k, r3, sb_k]
      by_cases q : nI (X / 48 % 3) ≤ 0
      · rw [if_pos q, if_pos q]; rfl
      · rw [if_neg q, if_neg q]; rfl
    have hv : b9 (if nI (X / 48 % 3) ≤ 0 then (0 : Int32) else 1) := by
      by_cases q : nI (X / 48 % 3) ≤ 0
      · rw [if_pos q]; exact Or.inl rfl
      · rw [if_neg q]; exact Or.inr rfl
    obtain ⟨g1, g2⟩ := rg_qb hG.1 hl hv
    exact ⟨_, _, sg_push hG (rg_mono g1 (by omega)) (by omega) (by omega) (by omega), act_of hR (a_loops hl hv) e⟩
  · have e : ∀ b M1, HZ8 z b → ar8 z b (nI X) (nI (kn8 s.1)) M1 = bi9 (f_L_call z b 8 (nI l) 0 0 M1) fun v M => ri9 v M := fun b M1 hz => by
      unfold ar8; rw [d16, sb_k, rl, sb_k, r16, sb_k, if_neg (show ¬ nI 7 = 0 by decide), if_neg (show ¬ nI 7 = 1 by decide), if_neg (show ¬ nI 7 = 2 by decide), if_neg (show ¬ nI 7 = 3 by decide), if_neg (show ¬ nI 7 = 4 by decide), if_neg (show ¬ nI 7 = 5 by decide), if_neg (show ¬ nI 7 = 6 by decide), if_pos (show nI 7 = 7 from rfl)]
    by_cases hc : cb8 s.1 l
    · obtain ⟨g1, g2⟩ := rg_qm hG.1 hl
      exact ⟨_, _, sg_push hG (rg_mono g1 (by omega)) (by omega) (by omega) (by omega), act_of hR (a_mend hl hc) e⟩
    · exact ⟨_, _, hG', act_of hR (qu_ac (u_mend_s hl hc)) e⟩
  · have d48 : dv9 (nI X) 48 = some (nI (X / 48)) := dv_n (D := 48) (d := 48) rfl (by omega) hX (by omega) rfl
    have r24 : rm9 (nI (X / 48)) 24 = some (nI (X / 48 % 24)) := rm_n (D := 24) (d := 24) rfl (by omega) (by omega) (by omega) rfl
    have r3 : rm9 (nI (X / 16)) 3 = some (nI (X / 16 % 3)) := rm_n (D := 3) (d := 3) rfl (by omega) (by omega) (by omega) rfl
    have e : ∀ b M1, HZ8 z b → ar8 z b (nI X) (nI (kn8 s.1)) M1 = bi9 (f_L_call z b 10 (nI (X / 16 % 3)) (nI (X / 48 % 24)) 0 M1) fun v M => ri9 v M := fun b M1 hz => by
      unfold ar8; rw [d16, sb_k, rl, sb_k, r16, sb_k, if_neg (show ¬ nI 8 = 0 by decide), if_neg (show ¬ nI 8 = 1 by decide), if_neg (show ¬ nI 8 = 2 by decide), if_neg (show ¬ nI 8 = 3 by decide), if_neg (show ¬ nI 8 = 4 by decide), if_neg (show ¬ nI 8 = 5 by decide), if_neg (show ¬ nI 8 = 6 by decide), if_neg (show ¬ nI 8 = 7 by decide), if_pos (show nI 8 = 8 from rfl), sb_k, r3, sb_k, d48, sb_k, r24, sb_k]
    by_cases hs : se8 (nI (X / 16 % 3)) (nI (X / 48 % 24))
    · obtain ⟨i, hi, ei, ha⟩ := a_lay (z := z) (s := s) (w9 := 0) hs
      obtain ⟨g1, g2⟩ := rg_qs (i := i) hG.1 (by rw [← ei]; exact hs) hi
      exact ⟨_, _, sg_push hG (rg_mono g1 (by omega)) (by omega) (by omega) (by omega), act_of hR ha e⟩
    · exact ⟨_, _, hG', act_of hR (qu_ac (u_lay_a hs)) e⟩
  · by_cases h2 : 2 ≤ kn8 s.1
    · have e : ∀ b M1, HZ8 z b → ar8 z b (nI X) (nI (kn8 s.1)) M1 = bi9 (f_L_call z b 11 0 0 0 M1) fun v M => ri9 v M := fun b M1 hz => by
        unfold ar8; rw [d16, sb_k, rl, sb_k, r16, sb_k, if_neg (show ¬ nI 9 = 0 by decide), if_neg (show ¬ nI 9 = 1 by decide), if_neg (show ¬ nI 9 = 2 by decide), if_neg (show ¬ nI 9 = 3 by decide), if_neg (show ¬ nI 9 = 4 by decide), if_neg (show ¬ nI 9 = 5 by decide), if_neg (show ¬ nI 9 = 6 by decide), if_neg (show ¬ nI 9 = 7 by decide), if_neg (show ¬ nI 9 = 8 by decide), if_pos (show nI 9 = 9 from rfl), if_pos (show (2 : Int32) ≤ nI (kn8 s.1) from nI_le (a := 2) h2 (by omega))]
      by_cases hA : s.2.1 = 0
      · exact ⟨_, _, hG', act_of hR (qu_ac (q_undo_s hA)) e⟩
      · exact ⟨_, _, sg_mono (sg_pop2 hG (by omega) h2) (by omega), act_of hR (a_undo (by omega)) e⟩
    · have e : ∀ b M1, HZ8 z b → ar8 z b (nI X) (nI (kn8 s.1)) M1 = bi9 (ri9 (-1) M1) fun v M => ri9 v M := fun b M1 hz => by
        unfold ar8; rw [d16, sb_k, rl, sb_k, r16, sb_k, if_neg (show ¬ nI 9 = 0 by decide), if_neg (show ¬ nI 9 = 1 by decide), if_neg (show ¬ nI 9 = 2 by decide), if_neg (show ¬ nI 9 = 3 by decide), if_neg (show ¬ nI 9 = 4 by decide), if_neg (show ¬ nI 9 = 5 by decide), if_neg (show ¬ nI 9 = 6 by decide), if_neg (show ¬ nI 9 = 7 by decide), if_neg (show ¬ nI 9 = 8 by decide), if_pos (show nI 9 = 9 from rfl), if_neg (show ¬ (2 : Int32) ≤ nI (kn8 s.1) from nI_ge (b := 2) (by omega) (by decide))]
        rfl
      have hq : QU8 z (fun b M => ri9 (-1) M) s (-1) := qu_same (fun b M B hz h => rfl)
      exact ⟨_, _, hG', act_of hR (qu_ac hq) e⟩
  · have r2 : rm9 (nI (X / 16)) 2 = some (nI (X / 16 % 2)) := rm_n (D := 2) (d := 2) rfl (by omega) (by omega) (by omega) rfl
    have e : ∀ b M1, HZ8 z b → ar8 z b (nI X) (nI (kn8 s.1)) M1 = bi9 (f_L_call z b 17 (nI (X / 16 % 2)) 0 0 M1) fun v M => ri9 v M := fun b M1 hz => by
      unfold ar8; rw [d16, sb_k, rl, sb_k, r16, sb_k, if_neg (show ¬ nI 10 = 0 by decide), if_neg (show ¬ nI 10 = 1 by decide), if_neg (show ¬ nI 10 = 2 by decide), if_neg (show ¬ nI 10 = 3 by decide), if_neg (show ¬ nI 10 = 4 by decide), if_neg (show ¬ nI 10 = 5 by decide), if_neg (show ¬ nI 10 = 6 by decide), if_neg (show ¬ nI 10 = 7 by decide), if_neg (show ¬ nI 10 = 8 by decide), if_neg (show ¬ nI 10 = 9 by decide), if_pos (show nI 10 = 10 from rfl), sb_k, r2, sb_k]
    exact ⟨_, _, sg_keep hG', act_of hR (a_keep (by omega)) e⟩
  · have r2 : rm9 (nI (X / 16)) 2 = some (nI (X / 16 % 2)) := rm_n (D := 2) (d := 2) rfl (by omega) (by omega) (by omega) rfl
    have e : ∀ b M1, HZ8 z b → ar8 z b (nI X) (nI (kn8 s.1)) M1 = bi9 (f_L_call z b 18 (nI (X / 16 % 2)) 0 0 M1) fun v M => ri9 v M := fun b M1 hz => by
      unfold ar8; rw [d16, sb_k, rl, sb_k, r16, sb_k, if_neg (show ¬ nI 11 = 0 by decide), if_neg (show ¬ nI 11 = 1 by decide), if_neg (show ¬ nI 11 = 2 by decide), if_neg (show ¬ nI 11 = 3 by decide), if_neg (show ¬ nI 11 = 4 by decide), if_neg (show ¬ nI 11 = 5 by decide), if_neg (show ¬ nI 11 = 6 by decide), if_neg (show ¬ nI 11 = 7 by decide), if_neg (show ¬ nI 11 = 8 by decide), if_neg (show ¬ nI 11 = 9 by decide), if_neg (show ¬ nI 11 = 10 by decide), if_pos (show nI 11 = 11 from rfl), sb_k, r2, sb_k]
    rcases (hG.2.2.2.2 (X / 16 % 2) (by omega)).1 with hv | hv
    · exact ⟨_, _, hG', act_of hR (qu_ac (q_back_s (by omega) hv)) e⟩
    · exact ⟨_, _, sg_back hG' (by omega) hv, act_of hR (a_back (by omega) hv) e⟩
  · have r40 : rm9 (nI (X / 16)) 40 = some (nI (X / 16 % 40)) := rm_n (D := 40) (d := 40) rfl (by omega) (by omega) (by omega) rfl
    have e1 : (1 : Int32) + nI (X / 16 % 40) = nI (1 + X / 16 % 40) := ad_n rfl
    have e : ∀ b M1, HZ8 z b → ar8 z b (nI X) (nI (kn8 s.1)) M1 = bi9 (f_L_call z b 9 (nI (1 + X / 16 % 40)) 0 0 M1) fun v M => ri9 v M := fun b M1 hz => by
      unfold ar8; rw [d16, sb_k, rl, sb_k, r16, sb_k, if_neg (show ¬ nI 12 = 0 by decide), if_neg (show ¬ nI 12 = 1 by decide), if_neg (show ¬ nI 12 = 2 by decide), if_neg (show ¬ nI 12 = 3 by decide), if_neg (show ¬ nI 12 = 4 by decide), if_neg (show ¬ nI 12 = 5 by decide), if_neg (show ¬ nI 12 = 6 by decide), if_neg (show ¬ nI 12 = 7 by decide), if_neg (show ¬ nI 12 = 8 by decide), if_neg (show ¬ nI 12 = 9 by decide), if_neg (show ¬ nI 12 = 10 by decide), if_neg (show ¬ nI 12 = 11 by decide), sb_k, r40, sb_k, e1]
    have g1 := rg_rn (n := 1 + X / 16 % 40) hG.1
    have g2 : kn8 (rn8 (1 + X / 16 % 40) s.1) = kn8 s.1 := rn_kn
    exact ⟨_, _, sg_push hG (rg_mono g1 (by omega)) (by omega) (by omega) (by omega), act_of hR (a_run (by omega) (by omega)) e⟩
  · have r40 : rm9 (nI (X / 16)) 40 = some (nI (X / 16 % 40)) := rm_n (D := 40) (d := 40) rfl (by omega) (by omega) (by omega) rfl
    have e1 : (1 : Int32) + nI (X / 16 % 40) = nI (1 + X / 16 % 40) := ad_n rfl
    have e : ∀ b M1, HZ8 z b → ar8 z b (nI X) (nI (kn8 s.1)) M1 = bi9 (f_L_call z b 9 (nI (1 + X / 16 % 40)) 0 0 M1) fun v M => ri9 v M := fun b M1 hz => by
      unfold ar8; rw [d16, sb_k, rl, sb_k, r16, sb_k, if_neg (show ¬ nI 13 = 0 by decide), if_neg (show ¬ nI 13 = 1 by decide), if_neg (show ¬ nI 13 = 2 by decide), if_neg (show ¬ nI 13 = 3 by decide), if_neg (show ¬ nI 13 = 4 by decide), if_neg (show ¬ nI 13 = 5 by decide), if_neg (show ¬ nI 13 = 6 by decide), if_neg (show ¬ nI 13 = 7 by decide), if_neg (show ¬ nI 13 = 8 by decide), if_neg (show ¬ nI 13 = 9 by decide), if_neg (show ¬ nI 13 = 10 by decide), if_neg (show ¬ nI 13 = 11 by decide), sb_k, r40, sb_k, e1]
    have g1 := rg_rn (n := 1 + X / 16 % 40) hG.1
    have g2 : kn8 (rn8 (1 + X / 16 % 40) s.1) = kn8 s.1 := rn_kn
    exact ⟨_, _, sg_push hG (rg_mono g1 (by omega)) (by omega) (by omega) (by omega), act_of hR (a_run (by omega) (by omega)) e⟩
  · have r40 : rm9 (nI (X / 16)) 40 = some (nI (X / 16 % 40)) := rm_n (D := 40) (d := 40) rfl (by omega) (by omega) (by omega) rfl
    have e1 : (1 : Int32) + nI (X / 16 % 40) = nI (1 + X / 16 % 40) := ad_n rfl
    have e : ∀ b M1, HZ8 z b → ar8 z b (nI X) (nI (kn8 s.1)) M1 = bi9 (f_L_call z b 9 (nI (1 + X / 16 % 40)) 0 0 M1) fun v M => ri9 v M := fun b M1 hz => by
      unfold ar8; rw [d16, sb_k, rl, sb_k, r16, sb_k, if_neg (show ¬ nI 14 = 0 by decide), if_neg (show ¬ nI 14 = 1 by decide), if_neg (show ¬ nI 14 = 2 by decide), if_neg (show ¬ nI 14 = 3 by decide), if_neg (show ¬ nI 14 = 4 by decide), if_neg (show ¬ nI 14 = 5 by decide), if_neg (show ¬ nI 14 = 6 by decide), if_neg (show ¬ nI 14 = 7 by decide), if_neg (show ¬ nI 14 = 8 by decide), if_neg (show ¬ nI 14 = 9 by decide), if_neg (show ¬ nI 14 = 10 by decide), if_neg (show ¬ nI 14 = 11 by decide), sb_k, r40, sb_k, e1]
    have g1 := rg_rn (n := 1 + X / 16 % 40) hG.1
    have g2 : kn8 (rn8 (1 + X / 16 % 40) s.1) = kn8 s.1 := rn_kn
    exact ⟨_, _, sg_push hG (rg_mono g1 (by omega)) (by omega) (by omega) (by omega), act_of hR (a_run (by omega) (by omega)) e⟩
  · have r40 : rm9 (nI (X / 16)) 40 = some (nI (X / 16 % 40)) := rm_n (D := 40) (d := 40) rfl (by omega) (by omega) (by omega) rfl
    have e1 : (1 : Int32) + nI (X / 16 % 40) = nI (1 + X / 16 % 40) := ad_n rfl
    have e : ∀ b M1, HZ8 z b → ar8 z b (nI X) (nI (kn8 s.1)) M1 = bi9 (f_L_call z b 9 (nI (1 + X / 16 % 40)) 0 0 M1) fun v M => ri9 v M := fun b M1 hz => by
      unfold ar8; rw [d16, sb_k, rl, sb_k, r16, sb_k, if_neg (show ¬ nI 15 = 0 by decide), if_neg (show ¬ nI 15 = 1 by decide), if_neg (show ¬ nI 15 = 2 by decide), if_neg (show ¬ nI 15 = 3 by decide), if_neg (show ¬ nI 15 = 4 by decide), if_neg (show ¬ nI 15 = 5 by decide), if_neg (show ¬ nI 15 = 6 by decide), if_neg (show ¬ nI 15 = 7 by decide), if_neg (show ¬ nI 15 = 8 by decide), if_neg (show ¬ nI 15 = 9 by decide), if_neg (show ¬ nI 15 = 10 by decide), if_neg (show ¬ nI 15 = 11 by decide), sb_k, r40, sb_k, e1]
    have g1 := rg_rn (n := 1 + X / 16 % 40) hG.1
    have g2 : kn8 (rn8 (1 + X / 16 % 40) s.1) = kn8 s.1 := rn_kn
    exact ⟨_, _, sg_push hG (rg_mono g1 (by omega)) (by omega) (by omega) (by omega), act_of hR (a_run (by omega) (by omega)) e⟩
end UC
