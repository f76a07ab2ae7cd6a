section SC
variable {z : Sh9} {M M' M1 M2 : Mem9} {a B B' L i : Nat} {xs : Nat → Int32} {x4 v1 v2 v3 v4 v5 : Int32}
/-! one step of the law, for each of its calls -/
def LK8 (z : Sh9) (a : Nat) (B : Nat) (x4 : Int32) (f : (Nat → Nat → Nat → Int32 → Mem9 → Re9) → Re9) : Prop := ∃ M2, SR8 M2 a (B + 30000) ∧ ∀ G, f G = G a (a + 383) (a + 391) (x4 + 5) M2
theorem tl8_go {G : Mem9 → Re9} {k b : Int32} {r : Re9} (hz : HZ8 z a) (e2 : r = some (.inl (some (.int b)), M2)) (e3 : M2 (a + 383) 0 = k) (e4 : k = 0 → M2 (a + 391) 0 = b) : tl8 z (a + 383) (a + 391) G k r = G M2 := by
  rw [e2]
  exact tl8_ok (hz_x0 hz) hz.2.1.2.2.2.2.2.2.2.2 e3 e4
theorem lk_152 (hz : HZ8 z a) (h : SR8 M a B) (h1 : sx9 L xs (x4 + 1) = some v1) : LK8 z a B x4 (fun G => f_L_law_b152 z L xs G a (a + 383) (a + 391) x4 M) := by
  obtain ⟨k, b, M1, M2, e1, e2, e3, e4, e5⟩ := q_append (y := v1) hz h
  have d1 : f_L_append z a v1 (a + 391) M = some (.inl (some (.int k)), M1) := e1
  refine ⟨M2, sr_mono e5 (by omega), fun G => ?_⟩
  show f_L_law_b152 z L xs G a (a + 383) (a + 391) x4 M = _
  unfold f_L_law_b152
  rw [h1, sb_k, d1, bi_k, sb_k]
  exact tl8_go (G := fun M => G a (a + 383) (a + 391) (x4 + 5) M) hz e2 e3 e4
theorem lk_234 (hz : HZ8 z a) (h : SR8 M a B) : LK8 z a B x4 (fun G => f_L_law_b234 z L xs G a (a + 383) (a + 391) x4 M) := by
  obtain ⟨k, b, M1, M2, e1, e2, e3, e4, e5⟩ := q_load hz h
  have d1 : f_L_load z a (a + 391) M = some (.inl (some (.int k)), M1) := e1
  refine ⟨M2, sr_mono e5 (by omega), fun G => ?_⟩
  show f_L_law_b234 z L xs G a (a + 383) (a + 391) x4 M = _
  unfold f_L_law_b234
  rw [d1, bi_k]
  exact tl8_go (G := fun M => G a (a + 383) (a + 391) (x4 + 5) M) hz e2 e3 e4
theorem lk_278 (hz : HZ8 z a) (h : SR8 M a B) (h1 : sx9 L xs (x4 + 1) = some v1) : LK8 z a B x4 (fun G => f_L_law_b278 z L xs G a (a + 383) (a + 391) x4 M) := by
  obtain ⟨k, b, M1, M2, e1, e2, e3, e4, e5⟩ := q_about (y := v1) hz h
  have d1 : f_L_about z a v1 (a + 391) M = some (.inl (some (.int k)), M1) := e1
  refine ⟨M2, sr_mono e5 (by omega), fun G => ?_⟩
  show f_L_law_b278 z L xs G a (a + 383) (a + 391) x4 M = _
  unfold f_L_law_b278
  rw [h1, sb_k, d1, bi_k, sb_k]
  exact tl8_go (G := fun M => G a (a + 383) (a + 391) (x4 + 5) M) hz e2 e3 e4
theorem lk_334 (hz : HZ8 z a) (h : SR8 M a B) (h1 : sx9 L xs (x4 + 1) = some v1) (h2 : sx9 L xs (x4 + 2) = some v2) : LK8 z a B x4 (fun G => f_L_law_b334 z L xs G a (a + 383) (a + 391) x4 M) := by
  obtain ⟨k, b, M1, M2, e1, e2, e3, e4, e5⟩ := q_laneOf (y := v1) (w := v2) hz h
  have d1 : f_L_laneOf z a v1 v2 (a + 391) M = some (.inl (some (.int k)), M1) := e1
  refine ⟨M2, sr_mono e5 (by omega), fun G => ?_⟩
  show f_L_law_b334 z L xs G a (a + 383) (a + 391) x4 M = _
  unfold f_L_law_b334
  rw [h1, sb_k, h2, sb_k, d1, bi_k, sb_k, sb_k]
  exact tl8_go (G := fun M => G a (a + 383) (a + 391) (x4 + 5) M) hz e2 e3 e4
theorem lk_402 (hz : HZ8 z a) (h : SR8 M a B) (h1 : sx9 L xs (x4 + 1) = some v1) (h2 : sx9 L xs (x4 + 2) = some v2) (h3 : sx9 L xs (x4 + 3) = some v3) : LK8 z a B x4 (fun G => f_L_law_b402 z L xs G a (a + 383) (a + 391) x4 M) := by
  obtain ⟨k, b, M1, M2, e1, e2, e3, e4, e5⟩ := q_vehicle (y := v1) (k := v2) (w := v3) hz h
  have d1 : f_L_vehicle z a v1 v2 v3 (a + 391) M = some (.inl (some (.int k)), M1) := e1
  refine ⟨M2, sr_mono e5 (by omega), fun G => ?_⟩
  show f_L_law_b402 z L xs G a (a + 383) (a + 391) x4 M = _
  unfold f_L_law_b402
  rw [h1, sb_k, h2, sb_k, h3, sb_k, d1, bi_k, sb_k, sb_k, sb_k]
  exact tl8_go (G := fun M => G a (a + 383) (a + 391) (x4 + 5) M) hz e2 e3 e4
theorem lk_482 (hz : HZ8 z a) (h : SR8 M a B) (h1 : sx9 L xs (x4 + 1) = some v1) : LK8 z a B x4 (fun G => f_L_law_b482 z L xs G a (a + 383) (a + 391) x4 M) := by
  obtain ⟨k, b, M1, M2, e1, e2, e3, e4, e5⟩ := q_why (y := v1) hz h
  have d1 : f_L_why z a v1 (a + 391) M = some (.inl (some (.int k)), M1) := e1
  refine ⟨M2, sr_mono e5 (by omega), fun G => ?_⟩
  show f_L_law_b482 z L xs G a (a + 383) (a + 391) x4 M = _
  unfold f_L_law_b482
  rw [h1, sb_k, d1, bi_k, sb_k]
  exact tl8_go (G := fun M => G a (a + 383) (a + 391) (x4 + 5) M) hz e2 e3 e4
theorem lk_538 (hz : HZ8 z a) (h : SR8 M a B) (h1 : sx9 L xs (x4 + 1) = some v1) : LK8 z a B x4 (fun G => f_L_law_b538 z L xs G a (a + 383) (a + 391) x4 M) := by
  obtain ⟨k, b, M1, M2, e1, e2, e3, e4, e5⟩ := q_setting (y := v1) hz h
  have d1 : f_L_setting z a v1 (a + 391) M = some (.inl (some (.int k)), M1) := e1
  refine ⟨M2, sr_mono e5 (by omega), fun G => ?_⟩
  show f_L_law_b538 z L xs G a (a + 383) (a + 391) x4 M = _
  unfold f_L_law_b538
  rw [h1, sb_k, d1, bi_k, sb_k]
  exact tl8_go (G := fun M => G a (a + 383) (a + 391) (x4 + 5) M) hz e2 e3 e4
theorem lk_594 (hz : HZ8 z a) (h : SR8 M a B) : LK8 z a B x4 (fun G => f_L_law_b594 z L xs G a (a + 383) (a + 391) x4 M) := by
  obtain ⟨k, b, M1, M2, e1, e2, e3, e4, e5⟩ := q_lane hz h
  have d1 : f_L_lane z a (a + 391) M = some (.inl (some (.int k)), M1) := e1
  refine ⟨M2, sr_mono e5 (by omega), fun G => ?_⟩
  show f_L_law_b594 z L xs G a (a + 383) (a + 391) x4 M = _
  unfold f_L_law_b594
  rw [d1, bi_k]
  exact tl8_go (G := fun M => G a (a + 383) (a + 391) (x4 + 5) M) hz e2 e3 e4
theorem lk_846 (hz : HZ8 z a) (h : SR8 M a B) (h1 : sx9 L xs (x4 + 1) = some v1) : LK8 z a B x4 (fun G => f_L_law_b846 z L xs G a (a + 383) (a + 391) x4 M) := by
  obtain ⟨k, b, M1, M2, e1, e2, e3, e4, e5⟩ := q_mend (y := v1) hz h
  have d1 : f_L_mend z a v1 (a + 391) M = some (.inl (some (.int k)), M1) := e1
  refine ⟨M2, sr_mono e5 (by omega), fun G => ?_⟩
  show f_L_law_b846 z L xs G a (a + 383) (a + 391) x4 M = _
  unfold f_L_law_b846
  rw [h1, sb_k, d1, bi_k, sb_k]
  exact tl8_go (G := fun M => G a (a + 383) (a + 391) (x4 + 5) M) hz e2 e3 e4
theorem lk_902 (hz : HZ8 z a) (h : SR8 M a B) (h1 : sx9 L xs (x4 + 1) = some v1) : LK8 z a B x4 (fun G => f_L_law_b902 z L xs G a (a + 383) (a + 391) x4 M) := by
  obtain ⟨k, b, M1, M2, e1, e2, e3, e4, e5⟩ := q_run (y := v1) hz h
  have d1 : f_L_run z a v1 (a + 391) M = some (.inl (some (.int k)), M1) := e1
  refine ⟨M2, sr_mono e5 (by omega), fun G => ?_⟩
  show f_L_law_b902 z L xs G a (a + 383) (a + 391) x4 M = _
  unfold f_L_law_b902
  rw [h1, sb_k, d1, bi_k, sb_k]
  exact tl8_go (G := fun M => G a (a + 383) (a + 391) (x4 + 5) M) hz e2 e3 e4
theorem lk_958 (hz : HZ8 z a) (h : SR8 M a B) (h1 : sx9 L xs (x4 + 1) = some v1) (h2 : sx9 L xs (x4 + 2) = some v2) : LK8 z a B x4 (fun G => f_L_law_b958 z L xs G a (a + 383) (a + 391) x4 M) := by
  obtain ⟨k, b, M1, M2, e1, e2, e3, e4, e5⟩ := q_set (y := v1) (w := v2) hz h
  have d1 : f_L_set z a v1 v2 (a + 391) M = some (.inl (some (.int k)), M1) := e1
  refine ⟨M2, sr_mono e5 (by omega), fun G => ?_⟩
  show f_L_law_b958 z L xs G a (a + 383) (a + 391) x4 M = _
  unfold f_L_law_b958
  rw [h1, sb_k, h2, sb_k, d1, bi_k, sb_k, sb_k]
  exact tl8_go (G := fun M => G a (a + 383) (a + 391) (x4 + 5) M) hz e2 e3 e4
theorem lk_1026 (hz : HZ8 z a) (h : SR8 M a B) : LK8 z a B x4 (fun G => f_L_law_b1026 z L xs G a (a + 383) (a + 391) x4 M) := by
  obtain ⟨k, b, M1, M2, e1, e2, e3, e4, e5⟩ := q_undo hz h
  have d1 : f_L_undo z a (a + 391) M = some (.inl (some (.int k)), M1) := e1
  refine ⟨M2, sr_mono e5 (by omega), fun G => ?_⟩
  show f_L_law_b1026 z L xs G a (a + 383) (a + 391) x4 M = _
  unfold f_L_law_b1026
  rw [d1, bi_k]
  exact tl8_go (G := fun M => G a (a + 383) (a + 391) (x4 + 5) M) hz e2 e3 e4
theorem lk_1070 (hz : HZ8 z a) (h : SR8 M a B) (h1 : sx9 L xs (x4 + 1) = some v1) : LK8 z a B x4 (fun G => f_L_law_b1070 z L xs G a (a + 383) (a + 391) x4 M) := by
  obtain ⟨k, b, M1, M2, e1, e2, e3, e4, e5⟩ := q_emptyIn (y := v1) hz h
  have d1 : f_L_emptyIn z a v1 (a + 391) M = some (.inl (some (.int k)), M1) := e1
  refine ⟨M2, sr_mono e5 (by omega), fun G => ?_⟩
  show f_L_law_b1070 z L xs G a (a + 383) (a + 391) x4 M = _
  unfold f_L_law_b1070
  rw [h1, sb_k, d1, bi_k, sb_k]
  exact tl8_go (G := fun M => G a (a + 383) (a + 391) (x4 + 5) M) hz e2 e3 e4
theorem lk_1126 (hz : HZ8 z a) (h : SR8 M a B) (h1 : sx9 L xs (x4 + 1) = some v1) (h2 : sx9 L xs (x4 + 2) = some v2) : LK8 z a B x4 (fun G => f_L_law_b1126 z L xs G a (a + 383) (a + 391) x4 M) := by
  obtain ⟨k, b, M1, M2, e1, e2, e3, e4, e5⟩ := q_throughIn (y := v1) (w := v2) hz h
  have d1 : f_L_throughIn z a v1 v2 (a + 391) M = some (.inl (some (.int k)), M1) := e1
  refine ⟨M2, sr_mono e5 (by omega), fun G => ?_⟩
  show f_L_law_b1126 z L xs G a (a + 383) (a + 391) x4 M = _
  unfold f_L_law_b1126
  rw [h1, sb_k, h2, sb_k, d1, bi_k, sb_k, sb_k]
  exact tl8_go (G := fun M => G a (a + 383) (a + 391) (x4 + 5) M) hz e2 e3 e4
theorem lk_1194 (hz : HZ8 z a) (h : SR8 M a B) (h1 : sx9 L xs (x4 + 1) = some v1) : LK8 z a B x4 (fun G => f_L_law_b1194 z L xs G a (a + 383) (a + 391) x4 M) := by
  obtain ⟨k, b, M1, M2, e1, e2, e3, e4, e5⟩ := q_bestLane (len := v1) hz h
  have d1 : f_L_bestLane z a v1 (a + 391) M = some (.inl (some (.int k)), M1) := e1
  refine ⟨M2, sr_mono e5 (by omega), fun G => ?_⟩
  show f_L_law_b1194 z L xs G a (a + 383) (a + 391) x4 M = _
  unfold f_L_law_b1194
  rw [h1, sb_k, d1, bi_k, sb_k]
  exact tl8_go (G := fun M => G a (a + 383) (a + 391) (x4 + 5) M) hz e2 e3 e4
theorem lk_1250 (hz : HZ8 z a) (h : SR8 M a B) (h1 : sx9 L xs (x4 + 1) = some v1) (h2 : sx9 L xs (x4 + 2) = some v2) : LK8 z a B x4 (fun G => f_L_law_b1250 z L xs G a (a + 383) (a + 391) x4 M) := by
  obtain ⟨k, b, M1, M2, e1, e2, e3, e4, e5⟩ := q_coming (y := v1) (w := v2) hz h
  have d1 : f_L_coming z a v1 v2 (a + 391) M = some (.inl (some (.int k)), M1) := e1
  refine ⟨M2, sr_mono e5 (by omega), fun G => ?_⟩
  show f_L_law_b1250 z L xs G a (a + 383) (a + 391) x4 M = _
  unfold f_L_law_b1250
  rw [h1, sb_k, h2, sb_k, d1, bi_k, sb_k, sb_k]
  exact tl8_go (G := fun M => G a (a + 383) (a + 391) (x4 + 5) M) hz e2 e3 e4
theorem lk_1318 (hBB : B < 1000000000) (hz : HZ8 z a) (h : SR8 M a B) (h1 : sx9 L xs (x4 + 1) = some v1) : LK8 z a B x4 (fun G => f_L_law_b1318 z L xs G a (a + 383) (a + 391) x4 M) := by
  obtain ⟨k, b, M1, M2, e1, e2, e3, e4, e5⟩ := q_hitsIn (y := v1) hBB hz h
  have d1 : f_L_hitsIn z a v1 (a + 391) M = some (.inl (some (.int k)), M1) := e1
  refine ⟨M2, sr_mono e5 (by omega), fun G => ?_⟩
  show f_L_law_b1318 z L xs G a (a + 383) (a + 391) x4 M = _
  unfold f_L_law_b1318
  rw [h1, sb_k, d1, bi_k, sb_k]
  exact tl8_go (G := fun M => G a (a + 383) (a + 391) (x4 + 5) M) hz e2 e3 e4
theorem lk_1574 (hz : HZ8 z a) (h : SR8 M a B) (h1 : sx9 L xs (x4 + 1) = some v1) : LK8 z a B x4 (fun G => f_L_law_b1574 z L xs G a (a + 383) (a + 391) x4 M) := by
  obtain ⟨k, b, M1, M2, e1, e2, e3, e4, e5⟩ := q_save (y := v1) hz h
  have d1 : f_L_save z a v1 (a + 391) M = some (.inl (some (.int k)), M1) := e1
  refine ⟨M2, sr_mono e5 (by omega), fun G => ?_⟩
  show f_L_law_b1574 z L xs G a (a + 383) (a + 391) x4 M = _
  unfold f_L_law_b1574
  rw [h1, sb_k, d1, bi_k, sb_k]
  exact tl8_go (G := fun M => G a (a + 383) (a + 391) (x4 + 5) M) hz e2 e3 e4
theorem lk_1630 (hz : HZ8 z a) (h : SR8 M a B) (h1 : sx9 L xs (x4 + 1) = some v1) : LK8 z a B x4 (fun G => f_L_law_b1630 z L xs G a (a + 383) (a + 391) x4 M) := by
  obtain ⟨k, b, M1, M2, e1, e2, e3, e4, e5⟩ := q_restore (y := v1) hz h
  have d1 : f_L_restore z a v1 (a + 391) M = some (.inl (some (.int k)), M1) := e1
  refine ⟨M2, sr_mono e5 (by omega), fun G => ?_⟩
  show f_L_law_b1630 z L xs G a (a + 383) (a + 391) x4 M = _
  unfold f_L_law_b1630
  rw [h1, sb_k, d1, bi_k, sb_k]
  exact tl8_go (G := fun M => G a (a + 383) (a + 391) (x4 + 5) M) hz e2 e3 e4
theorem lk_1474 (hz : HZ8 z a) (h : SR8 M a B) (h1 : sx9 L xs (x4 + 1) = some v1) (h2 : sx9 L xs (x4 + 2) = some v2) (h3 : sx9 L xs (x4 + 3) = some v3) : LK8 z a B x4 (fun G => f_L_law_b1474 z L xs G a (a + 383) (a + 391) x4 M) := by
  obtain ⟨k, b, M1, M2, e1, e2, e3, e4, e5⟩ := q_simulate (u := (((Int32.toInt64 v1) <<< (Int32.toInt64 (32 : Int32) &&& 63)) ||| ((Int32.toInt64 v2) &&& (4294967295 : Int64)))) (y := v3) hz h
  have d1 : f_L_simulate z a (((Int32.toInt64 v1) <<< (Int32.toInt64 (32 : Int32) &&& 63)) ||| ((Int32.toInt64 v2) &&& (4294967295 : Int64))) v3 (a + 391) M = some (.inl (some (.int k)), M1) := e1
  refine ⟨M2, sr_mono e5 (by omega), fun G => ?_⟩
  show f_L_law_b1474 z L xs G a (a + 383) (a + 391) x4 M = _
  unfold f_L_law_b1474
  rw [h1, sb_k, h2, sb_k, h3, sb_k, d1, bi_k, sb_k, sb_k, sb_k]
  exact tl8_go (G := fun M => G a (a + 383) (a + 391) (x4 + 5) M) hz e2 e3 e4
theorem lk_1374 (hz : HZ8 z a) (h : SR8 M a B) (h1 : sx9 L xs (x4 + 1) = some v1) (h2 : sx9 L xs (x4 + 2) = some v2) (h3 : sx9 L xs (x4 + 3) = some v3) : LK8 z a B x4 (fun G => f_L_law_b1374 z L xs G a (a + 383) (a + 391) x4 M) := by
  obtain ⟨k, b, M1, M2, e1, e2, e3, e4, e5⟩ := q_runScript (y := v1) (s := (((Int32.toInt64 v2) <<< (Int32.toInt64 (32 : Int32) &&& 63)) ||| ((Int32.toInt64 v3) &&& (4294967295 : Int64)))) hz h
  have d1 : f_L_runScript z a v1 (((Int32.toInt64 v2) <<< (Int32.toInt64 (32 : Int32) &&& 63)) ||| ((Int32.toInt64 v3) &&& (4294967295 : Int64))) (a + 391) M = some (.inl (some (.int k)), M1) := e1
  refine ⟨M2, sr_mono e5 (by omega), fun G => ?_⟩
  show f_L_law_b1374 z L xs G a (a + 383) (a + 391) x4 M = _
  unfold f_L_law_b1374
  rw [h1, sb_k, h2, sb_k, h3, sb_k, d1, bi_k, sb_k, sb_k, sb_k]
  exact tl8_go (G := fun M => G a (a + 383) (a + 391) (x4 + 5) M) hz e2 e3 e4
theorem lk_208 (hz : HZ8 z a) (h : SR8 M a B) : LK8 z a B x4 (fun G => f_L_law_b208 z L xs G a (a + 383) (a + 391) x4 M) := by
  obtain ⟨v, M1, M2, e1, e2, e5⟩ := q_clearText hz h
  refine ⟨M2, sr_mono e5 (by omega), fun G => ?_⟩
  show f_L_law_b208 z L xs G a (a + 383) (a + 391) x4 M = _
  unfold f_L_law_b208
  rw [iv_k hz.1.1, e1, bi_k, iv_k (hz_x0 hz), e2, bi_k]
  exact if_pos rfl
theorem lk_221 (hz : HZ8 z a) (h : SR8 M a B) : LK8 z a B x4 (fun G => f_L_law_b221 z L xs G a (a + 383) (a + 391) x4 M) := by
  obtain ⟨v, M2, e1, e2, e5⟩ := q_error hz h
  refine ⟨M2, sr_mono e5 (by omega), fun G => ?_⟩
  show f_L_law_b221 z L xs G a (a + 383) (a + 391) x4 M = _
  unfold f_L_law_b221
  rw [iv_k hz.1.1, e1, bi_k, iv_k (hz_x0 hz), e2, bi_k]
  exact if_pos rfl
/-! a truth made of a number -/
def tb8 (v : Int32) : Int32 := if v = 0 then 0 else 1
theorem tb_if {α : Type} {f : Int32 → α} {v : Int32} : (if v = 0 then f 0 else f 1) = f (tb8 v) := by
  unfold tb8
  by_cases e : v = 0
  · rw [if_pos e, if_pos e]
  · rw [if_neg e, if_neg e]
theorem tb_b {v : Int32} : b9 (tb8 v) := by
  unfold tb8
  by_cases e : v = 0
  · rw [if_pos e]; exact Or.inl rfl
  · rw [if_neg e]; exact Or.inr rfl
theorem lk_762 (hz : HZ8 z a) (h : SR8 M a B) (h1 : sx9 L xs (x4 + 1) = some v1) (h2 : sx9 L xs (x4 + 2) = some v2) : LK8 z a B x4 (fun G => f_L_law_b762 z L xs G a (a + 383) (a + 391) x4 M) := by
  obtain ⟨k, b, M1, M2, e1, e2, e3, e4, e5⟩ := q_loop (y := v1) (w := tb8 v2) tb_b hz h
  have d1 : f_L_loop z a v1 (tb8 v2) (a + 391) M = some (.inl (some (.int k)), M1) := e1
  refine ⟨M2, sr_mono e5 (by omega), fun G => ?_⟩
  show f_L_law_b762 z L xs G a (a + 383) (a + 391) x4 M = _
  unfold f_L_law_b762
  rw [h1, sb_k, h2, sb_k]
  refine Eq.trans (tb_if (f := fun s => f_L_law_b783 z L xs G a (a + 383) (a + 391) x4 s v1 a M)) ?_
  show f_L_law_b783 z L xs G a (a + 383) (a + 391) x4 (tb8 v2) v1 a M = _
  unfold f_L_law_b783
  rw [d1, bi_k, h1, sb_k, h2, sb_k]
  refine Eq.trans (tb_if (f := fun s => f_L_law_b810 z L xs G a (a + 383) (a + 391) x4 k s v1 (a + 383) M1)) ?_
  show f_L_law_b810 z L xs G a (a + 383) (a + 391) x4 k (tb8 v2) v1 (a + 383) M1 = _
  unfold f_L_law_b810
  exact tl8_go (G := fun M => G a (a + 383) (a + 391) (x4 + 5) M) hz e2 e3 e4
theorem lk_638 (hz : HZ8 z a) (h : SR8 M a B) (h1 : sx9 L xs (x4 + 1) = some v1) (h2 : sx9 L xs (x4 + 2) = some v2) (h3 : sx9 L xs (x4 + 3) = some v3) (h4 : sx9 L xs (x4 + 4) = some v4) : LK8 z a B x4 (fun G => f_L_law_b638 z L xs G a (a + 383) (a + 391) x4 M) := by
  obtain ⟨k, b, M1, M2, e1, e2, e3, e4, e5⟩ := q_arrive (y := v1) (len := v2) (lost := tb8 v3) (fol := tb8 v4) tb_b tb_b hz h
  have d1 : f_L_arrive z a v1 v2 (tb8 v3) (tb8 v4) (a + 391) M = some (.inl (some (.int k)), M1) := e1
  refine ⟨M2, sr_mono e5 (by omega), fun G => ?_⟩
  show f_L_law_b638 z L xs G a (a + 383) (a + 391) x4 M = _
  unfold f_L_law_b638
  rw [h1, sb_k, h2, sb_k, h3, sb_k]
  refine Eq.trans (tb_if (f := fun s => f_L_law_b665 z L xs G a (a + 383) (a + 391) x4 s v2 v1 a M)) ?_
  show f_L_law_b665 z L xs G a (a + 383) (a + 391) x4 (tb8 v3) v2 v1 a M = _
  unfold f_L_law_b665
  rw [h4, sb_k]
  refine Eq.trans (tb_if (f := fun s => f_L_law_b679 z L xs G a (a + 383) (a + 391) x4 s (tb8 v3) v2 v1 a M)) ?_
  show f_L_law_b679 z L xs G a (a + 383) (a + 391) x4 (tb8 v4) (tb8 v3) v2 v1 a M = _
  unfold f_L_law_b679
  rw [d1, bi_k, h1, sb_k, h2, sb_k, h3, sb_k]
  refine Eq.trans (tb_if (f := fun s => f_L_law_b712 z L xs G a (a + 383) (a + 391) x4 k s v2 v1 (a + 383) M1)) ?_
  show f_L_law_b712 z L xs G a (a + 383) (a + 391) x4 k (tb8 v3) v2 v1 (a + 383) M1 = _
  unfold f_L_law_b712
  rw [h4, sb_k]
  refine Eq.trans (tb_if (f := fun s => f_L_law_b726 z L xs G a (a + 383) (a + 391) x4 k s (tb8 v3) v2 v1 (a + 383) M1)) ?_
  show f_L_law_b726 z L xs G a (a + 383) (a + 391) x4 k (tb8 v4) (tb8 v3) v2 v1 (a + 383) M1 = _
  unfold f_L_law_b726
  exact tl8_go (G := fun M => G a (a + 383) (a + 391) (x4 + 5) M) hz e2 e3 e4
end SC
