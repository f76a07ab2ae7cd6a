section RY
variable {z : Sh9} {M M' M1 M2 M6 N N' : Mem9} {g x y x0 n c b sg B B' l a A gg w h d d1 d2 u v q k lo hi i p T : Nat} {Q Q' Q0 R : Nat → Int32} {s : Nat → Int32}
/-! the text, on both sides -/
def TT8 (M : Mem9) (a T : Nat) (s : Nat → Int32) : Prop := T ≤ 120 ∧ M a 1 = nI T ∧ M (a + 383) 2 = nI T ∧ (∀ i, i < T → M (a + 1) i = s i ∧ M (a + 384) i = s i ∧ 0 ≤ (s i).toInt ∧ (s i).toInt ≤ 255) ∧ ∀ i, T ≤ i → s i = -1
theorem tt_of (h : TX8 M a) : ∃ T s, TT8 M a T s := by
  obtain ⟨T, t1, t2, t3, t4⟩ := h
  refine ⟨T, fun i => if i < T then M (a + 384) i else -1, t1, t2, t3, fun i hi => ?_, fun i hi => if_neg (by omega)⟩
  show M (a + 1) i = (if i < T then M (a + 384) i else -1) ∧ M (a + 384) i = (if i < T then M (a + 384) i else -1) ∧ 0 ≤ (if i < T then M (a + 384) i else -1).toInt ∧ (if i < T then M (a + 384) i else -1).toInt ≤ 255
  rw [if_pos hi]
  exact ⟨(t4 i hi).1, rfl, (t4 i hi).2⟩
theorem tt_f (h : TT8 M a T s) (f : ∀ q k, (q = a + 1 ∨ q = a + 384 ∨ (q = a ∧ k = 1) ∨ (q = a + 383 ∧ k = 2)) → M' q k = M q k) : TT8 M' a T s := by
  obtain ⟨t1, t2, t3, t4, t5⟩ := h
  refine ⟨t1, by rw [f _ _ (by omega)]; exact t2, by rw [f _ _ (by omega)]; exact t3, fun i hi => ?_, t5⟩
  rw [f _ _ (by omega), f _ _ (by omega)]
  exact t4 i hi
theorem tt_in (h : TT8 M a T s) : -1 ≤ (s i).toInt ∧ (s i).toInt ≤ 255 := by
  by_cases hi : i < T
  · have := (h.2.2.2.1 i hi).2.2
    omega
  · rw [h.2.2.2.2 i (by omega)]
    decide
theorem x2_sign (hz : HZ8 z a) (h : TT8 M a T s) (hi : i < 1000) : f_X2_signAt z a (nI i) M = some (.inl (some (.int (s i))), M) := by
  obtain ⟨t1, t2, t3, t4, t5⟩ := h
  unfold f_X2_signAt
  rw [if_neg (nI_pos (by omega)), gf_k hz.1.1, sb_k, t2]
  by_cases hT : i < T
  · rw [if_neg (nI_ge hT (by omega)), if_pos (show nI i < 120 from nI_lt (b := 120) (by omega) (by decide)), rf_k hz.1.1, sb_k, ld_k hz.1.2.1 (by omega) (by decide), sb_k, (t4 i hT).1]
    rfl
  · rw [if_pos (nI_le (by omega) (by omega)), t5 i (by omega)]
    rfl
theorem m_at (hz : HZ8 z a) (h : TT8 N a T s) (hi : i < 1000) : f_X3_at z (a + 383) (nI i) N = some (.inl (some (.int (s i))), N) := by
  obtain ⟨t1, t2, t3, t4, t5⟩ := h
  unfold f_X3_at
  rw [gf_k (hz_x0 hz), sb_k, t3]
  by_cases hT : i < T
  · rw [if_neg (nI_ge hT (by omega)), hz_r1 hz, sb_k, ld_k hz.2.1.2.1 (by omega) (by decide), sb_k, (t4 i hT).2.1]
    rfl
  · rw [if_pos (nI_le (by omega) (by omega)), t5 i (by omega)]
    rfl
/-! the class's reading -/
def fl8 (v : Int32) : Nat := if v = 98 then 2 else if v = 108 then 1 else if v = 109 then 2 else if v = 116 then 3 else if v = 118 then 4 else 0
theorem x2_fix {v : Int32} : f_X2_fixedLength z v M = some (.inl (some (.int (nI (fl8 v)))), M) := by
  unfold f_X2_fixedLength fl8
  by_cases h1 : v = 98
  · rw [if_pos h1, if_pos h1]; rfl
  · rw [if_neg h1, if_neg h1]
    by_cases h2 : v = 108
    · rw [if_pos h2, if_pos h2]; rfl
    · rw [if_neg h2, if_neg h2]
      by_cases h3 : v = 109
      · rw [if_pos h3, if_pos h3]; rfl
      · rw [if_neg h3, if_neg h3]
        by_cases h4 : v = 116
        · rw [if_pos h4, if_pos h4]; rfl
        · rw [if_neg h4, if_neg h4]
          by_cases h5 : v = 118
          · rw [if_pos h5, if_pos h5]; rfl
          · rw [if_neg h5, if_neg h5]; rfl
theorem x2_bet {v l1 h1 : Int32} {a' b' : Int} (ha : l1.toInt = a') (hb : h1.toInt = b') : f_X2_isBetween z v l1 h1 M = some (.inl (some (.int (if a' ≤ v.toInt ∧ v.toInt ≤ b' then 1 else 0))), M) := by
  rw [x2_between, ha, hb]
/-- what a sign behind a letter must be -/
abbrev al8 (L : Int32) (i : Nat) (b v : Int32) : Prop := if L = 116 then (if i = 1 then 48 ≤ v.toInt ∧ v.toInt ≤ 54 else if b = 48 then 49 ≤ v.toInt ∧ v.toInt ≤ 57 else if b = 54 then 48 ≤ v.toInt ∧ v.toInt ≤ 48 else 48 ≤ v.toInt ∧ v.toInt ≤ 57) else if i = 1 then 48 ≤ v.toInt ∧ v.toInt ≤ 50 else if i = 2 then 48 ≤ v.toInt ∧ v.toInt ≤ 49 else if b = 48 then 50 ≤ v.toInt ∧ v.toInt ≤ 57 else 48 ≤ v.toInt ∧ v.toInt ≤ 50
theorem al_dec (L : Int32) (i : Nat) (b v : Int32) : al8 L i b v ∨ ¬ al8 L i b v := Classical.em _
theorem rz_ifc {P : Prop} {d : Decidable P} : rz9 (@ite Int32 P d 1 0) M = some (.inl (some (.int (@ite Int32 P d 1 0))), M) := by
  by_cases h : P
  · rw [if_pos h, rz_1]
  · rw [if_neg h, rz_0]
theorem x2_allow {L b v : Int32} (hi : i < 10) : f_X2_isAllowed z L (nI i) b v M = some (.inl (some (.int (@ite Int32 (al8 L i b v) (Classical.propDecidable _) 1 0))), M) := by
  have fin : ∀ {P : Prop} [Decidable P], (P ↔ al8 L i b v) → (some (Sum.inl (some (Value.int (if P then (1 : Int32) else 0))), M) : Re9) = some (.inl (some (.int (@ite Int32 (al8 L i b v) (Classical.propDecidable _) 1 0))), M) := by
    intro P _ hP
    by_cases h : P
    · rw [if_pos h, if_pos (hP.mp h)]
    · rw [if_neg h, if_neg (fun e => h (hP.mpr e))]
  have i1 : (nI i = 1) ↔ i = 1 := nI_eq (b := 1) (by omega) (by omega)
  have i2 : (nI i = 2) ↔ i = 2 := nI_eq (b := 2) (by omega) (by omega)
  unfold f_X2_isAllowed
  by_cases hL : L = 116
  · rw [if_pos hL]
    by_cases h1 : i = 1
    · rw [if_pos (i1.mpr h1), x2_bet (a' := 48) (b' := 54) (by decide) (by decide), bi_k, rz_ifc]
      refine fin ?_
      unfold al8
      rw [if_pos hL, if_pos h1]
    · rw [if_neg (fun e => h1 (i1.mp e))]
      unfold f_X2_isLastDigitOfTicks f_X2_isLastDigitOfTicks_b31
      by_cases hb : b = 48
      · rw [if_pos hb, x2_bet (a' := 49) (b' := 57) (by decide) (by decide), bi_k, rz_ifc, bi_k, rz_ifc]
        refine fin ?_
        unfold al8
        rw [if_pos hL, if_neg h1, if_pos hb]
      · rw [if_neg hb]
        by_cases hb2 : b = 54
        · rw [if_pos hb2, x2_bet (a' := 48) (b' := 48) (by decide) (by decide), bi_k, rz_ifc, bi_k, rz_ifc]
          refine fin ?_
          unfold al8
          rw [if_pos hL, if_neg h1, if_neg hb, if_pos hb2]
        · rw [if_neg hb2, x2_bet (a' := 48) (b' := 57) (by decide) (by decide), bi_k, rz_ifc, bi_k, rz_ifc]
          refine fin ?_
          unfold al8
          rw [if_pos hL, if_neg h1, if_neg hb, if_neg hb2]
  · rw [if_neg hL]
    by_cases h1 : i = 1
    · rw [if_pos (i1.mpr h1), x2_bet (a' := 48) (b' := 50) (by decide) (by decide), bi_k, rz_ifc]
      refine fin ?_
      unfold al8
      rw [if_neg hL, if_pos h1]
    · rw [if_neg (fun e => h1 (i1.mp e))]
      by_cases h2 : i = 2
      · rw [if_pos (i2.mpr h2), x2_bet (a' := 48) (b' := 49) (by decide) (by decide), bi_k, rz_ifc]
        refine fin ?_
        unfold al8
        rw [if_neg hL, if_neg h1, if_pos h2]
      · rw [if_neg (fun e => h2 (i2.mp e))]
        unfold f_X2_isLastDigitOfLength
        by_cases hb : b = 48
        · rw [if_pos hb, x2_bet (a' := 50) (b' := 57) (by decide) (by decide), bi_k, rz_ifc, bi_k, rz_ifc]
          refine fin ?_
          unfold al8
          rw [if_neg hL, if_neg h1, if_neg h2, if_pos hb]
        · rw [if_neg hb, x2_bet (a' := 48) (b' := 50) (by decide) (by decide), bi_k, rz_ifc, bi_k, rz_ifc]
          refine fin ?_
          unfold al8
          rw [if_neg hL, if_neg h1, if_neg h2, if_neg hb]
theorem ws_yes {G : Nat → Int32 → Int32 → Int32 → Int32 → Mem9 → Re9} {L : Int32} (hz : HZ8 z a) (h : TT8 M a T s) (hp : p < 500) (h1 : 1 ≤ i) (hi : i < n) (hn : n < 10) (hal : al8 L i (s (p + i - 1)) (s (p + i))) : f_X2_wrongSignOf_b20 z G a (nI p) L (nI n) (nI i) M = G a (nI p) L (nI n) (nI (i + 1)) M := by
  have e : nI p + nI i - 1 = nI (p + i - 1) := by
    obtain ⟨j, rfl⟩ : ∃ j, i = j + 1 := ⟨i - 1, by omega⟩
    rw [nI_add, ← Nat.add_assoc, nI_pred, Nat.add_sub_cancel]
  unfold f_X2_wrongSignOf_b20
  rw [if_neg (nI_ge hi (by omega)), e, iv_k hz.1.1, x2_sign hz h (by omega), bi_k, nI_add, iv_k hz.1.1, x2_sign hz h (by omega), bi_k, x2_allow (by omega), bi_k, if_pos hal, if_neg (by decide), nI_1]
theorem ws_no {G : Nat → Int32 → Int32 → Int32 → Int32 → Mem9 → Re9} {L : Int32} (hz : HZ8 z a) (h : TT8 M a T s) (hp : p < 500) (h1 : 1 ≤ i) (hi : i < n) (hn : n < 10) (hal : ¬ al8 L i (s (p + i - 1)) (s (p + i))) : f_X2_wrongSignOf_b20 z G a (nI p) L (nI n) (nI i) M = some (.inl (some (.int (nI (p + i)))), M) := by
  have e : nI p + nI i - 1 = nI (p + i - 1) := by
    obtain ⟨j, rfl⟩ : ∃ j, i = j + 1 := ⟨i - 1, by omega⟩
    rw [nI_add, ← Nat.add_assoc, nI_pred, Nat.add_sub_cancel]
  unfold f_X2_wrongSignOf_b20
  rw [if_neg (nI_ge hi (by omega)), e, iv_k hz.1.1, x2_sign hz h (by omega), bi_k, nI_add, iv_k hz.1.1, x2_sign hz h (by omega), bi_k, x2_allow (by omega), bi_k, if_neg hal, if_pos rfl]
  rfl
theorem ws_end {G : Nat → Int32 → Int32 → Int32 → Int32 → Mem9 → Re9} {L : Int32} : f_X2_wrongSignOf_b20 z G a (nI p) L (nI n) (nI n) M = some (.inl (some (.int (-1))), M) := by
  unfold f_X2_wrongSignOf_b20
  rw [if_pos (Int32.le_refl _)]
  rfl
theorem ws_pre (hz : HZ8 z a) (h : TT8 M a T s) (hp : p < 500) (hL : ¬ fl8 (s p) = 0) : f_X2_wrongSignOf z a (nI p) M = fx9 (fun _ _ _ _ _ _ => none) (f_X2_wrongSignOf_b20 z) FU9 a (nI p) (s p) (nI (fl8 (s p))) (nI 1) M := by
  have h4 : fl8 (s p) ≤ 4 := by
    unfold fl8
    split
    · omega
    · split
      · omega
      · split
        · omega
        · split
          · omega
          · split <;> omega
  unfold f_X2_wrongSignOf
  rw [iv_k hz.1.1, x2_sign hz h (by omega), bi_k, x2_fix, bi_k, if_neg (nI_ne0 (by omega) (by omega))]
  rfl
theorem ws_0 (hz : HZ8 z a) (h : TT8 M a T s) (hp : p < 500) (hL : fl8 (s p) = 0) : f_X2_wrongSignOf z a (nI p) M = some (.inl (some (.int (nI p))), M) := by
  unfold f_X2_wrongSignOf
  rw [iv_k hz.1.1, x2_sign hz h (by omega), bi_k, x2_fix, bi_k, hL, if_pos (show nI 0 = 0 from rfl)]
  rfl
/-! the model's reading: digits -/
theorem dg_or (h : TT8 M a T s) : (∃ d, d < 10 ∧ s i = nI (48 + d)) ∨ ¬ (48 ≤ (s i).toInt ∧ (s i).toInt ≤ 57) := by
  by_cases e : 48 ≤ (s i).toInt ∧ (s i).toInt ≤ 57
  · left
    obtain ⟨w, w1, w2⟩ := i32_ex (x := s i) (n := 57) (by omega) (by omega) (by omega)
    rw [w2, nI_toInt (by omega)] at e
    exact ⟨w - 48, by omega, by rw [w2]; exact congrArg nI (by omega)⟩
  · exact Or.inr e
theorem s48 : nI (48 + d) - 48 = nI d := by
  rw [show (48 : Int32) = nI 48 from rfl, nI_sub (by omega)]
  exact congrArg nI (by omega)
theorem fg_pre (hz : HZ8 z a) (h : TT8 N a T s) (hq : N (a + 383) 11 = nI q) (hq2 : q < 500) (hk : k < 1000) (hu1 : 1 ≤ u) (hu : u ≤ 10) {G : Nat → Int32 → Int32 → Int32 → Int32 → Int32 → Mem9 → Re9} {e5 l3 h4 : Int32} : f_X3_figures_b16 z G (a + 383) (nI k) l3 h4 e5 (nI u) N = nm9 (s q - 48) (fun y5 => nm9 (e5 + y5 * nI u) fun y6 => bi9 (f_X3_in z (Int32.toInt64 y5) 0 9 N) fun v8 M7 => (if v8 = 0 then (ri9 (-1 : Int32) M7) else (if h4 < y6 then (ri9 (-1 : Int32) M7) else (if l3 ≤ ((y6 + nI u) - (1 : Int32)) then ((gf9 z M7 (a + 383) 3 11).bind fun v9 => ((pf9 z M7 (a + 383) 3 11 (v9 + (1 : Int32))).bind fun M10 => ((dv9 (nI u) (10 : Int32)).bind fun v11 => (G (a + 383) (nI k) l3 h4 y6 v11 M10)))) else (ri9 (-1 : Int32) M7))))) := by
  unfold f_X3_figures_b16
  rw [if_neg (nI_nle (by omega) (by omega)), if_neg (nI_ne1 (by omega)), gf_k (hz_x0 hz), sb_k, hq, iv_k (hz_x0 hz), m_at hz h (by omega), bi_k]
theorem fg_non (hz : HZ8 z a) (h : TT8 N a T s) (hq : N (a + 383) 11 = nI q) (hq2 : q < 500) (hk : k < 1000) (hu1 : 1 ≤ u) (hu : u ≤ 10) {G : Nat → Int32 → Int32 → Int32 → Int32 → Int32 → Mem9 → Re9} {e5 l3 h4 : Int32} (hd : ¬ (48 ≤ (s q).toInt ∧ (s q).toInt ≤ 57)) : f_X3_figures_b16 z G (a + 383) (nI k) l3 h4 e5 (nI u) N = some (.inl (some (.int (-1))), N) := by
  have hr := tt_in (i := q) h
  have e48 : (48 : Int32).toInt = 48 := by decide
  have e : (s q - 48).toInt = (s q).toInt - 48 := by
    rw [i32_sub (by rw [e48]; omega) (by rw [e48]; omega), e48]
  rw [fg_pre hz h hq hq2 hk hu1 hu, nm_k, nm_k, m_in (a := 0) (b := 0) (a' := 0) (b' := 9) (by decide) (by decide), if_neg (show ¬ (0 ≤ (s q - 48).toInt ∧ (s q - 48).toInt ≤ 9) by rw [e]; omega), bi_k, if_pos rfl]
  rfl
theorem fg_in : f_X3_in z (Int32.toInt64 (nI d)) 0 9 N = some (.inl (some (.int (if d ≤ 9 then 1 else 0))), N) ∨ 1000 < d := by
  by_cases h : 1000 < d
  · exact Or.inr h
  · left
    rw [m_in (a := 0) (b := 0) (a' := 0) (b' := 9) (by decide) (by decide), nI_toInt (by omega)]
    by_cases e : d ≤ 9
    · rw [if_pos e, if_pos (by omega)]
    · rw [if_neg e, if_neg (by omega)]
theorem fg_big (hz : HZ8 z a) (h : TT8 N a T s) (hq : N (a + 383) 11 = nI q) (hq2 : q < 500) (hk : k < 1000) (hu1 : 1 ≤ u) (hu : u ≤ 10) {G : Nat → Int32 → Int32 → Int32 → Int32 → Int32 → Mem9 → Re9} (hd : s q = nI (48 + d)) (hd9 : d < 10) (hv : v < 1000) (hhi : hi < 1000) (hlo : lo < 1000) (hno : hi < v + d * u ∨ v + d * u + u - 1 < lo) : f_X3_figures_b16 z G (a + 383) (nI k) (nI lo) (nI hi) (nI v) (nI u) N = some (.inl (some (.int (-1))), N) := by
  have hdu : d * u ≤ 10 * 10 := Nat.mul_le_mul (by omega) hu
  have ein := (fg_in (z := z) (N := N) (d := d)).resolve_right (by omega)
  have ey : nI v + nI d * nI u = nI (v + d * u) := by rw [nI_mul, nI_add]
  have ey2 : nI (v + d * u) + nI u - 1 = nI (v + d * u + u - 1) := by
    obtain ⟨j, rfl⟩ : ∃ j, u = j + 1 := ⟨u - 1, by omega⟩
    rw [nI_add, ← Nat.add_assoc, nI_pred, Nat.add_sub_cancel]
  rw [fg_pre hz h hq hq2 hk hu1 hu, nm_k, nm_k, hd, s48, ey, ein, bi_k, if_pos (show d ≤ 9 by omega), if_neg (by decide)]
  by_cases e : hi < v + d * u
  · rw [if_pos (nI_lt e (by omega))]
    rfl
  · rw [if_neg (nI_nlt (by omega) (by omega)), ey2, if_neg (nI_ge (by omega) (by omega))]
    rfl
theorem fg_yes (hz : HZ8 z a) (h : TT8 N a T s) (hq : N (a + 383) 11 = nI q) (hq2 : q < 500) (hk : k < 1000) (hu1 : 1 ≤ u) (hu : u ≤ 10) {G : Nat → Int32 → Int32 → Int32 → Int32 → Int32 → Mem9 → Re9} (hd : s q = nI (48 + d)) (hd9 : d < 10) (hv : v < 1000) (hhi : hi < 1000) (hlo : lo < 1000) (h1 : v + d * u ≤ hi) (h2 : lo ≤ v + d * u + u - 1) : f_X3_figures_b16 z G (a + 383) (nI k) (nI lo) (nI hi) (nI v) (nI u) N = G (a + 383) (nI k) (nI lo) (nI hi) (nI (v + d * u)) (nI (u / 10)) (wr9 N (a + 383) 11 (nI (q + 1))) := by
  have hdu : d * u ≤ 10 * 10 := Nat.mul_le_mul (by omega) hu
  have ein := (fg_in (z := z) (N := N) (d := d)).resolve_right (by omega)
  have ey : nI v + nI d * nI u = nI (v + d * u) := by rw [nI_mul, nI_add]
  have ey2 : nI (v + d * u) + nI u - 1 = nI (v + d * u + u - 1) := by
    obtain ⟨j, rfl⟩ : ∃ j, u = j + 1 := ⟨u - 1, by omega⟩
    rw [nI_add, ← Nat.add_assoc, nI_pred, Nat.add_sub_cancel]
  rw [fg_pre hz h hq hq2 hk hu1 hu, nm_k, nm_k, hd, s48, ey, ein, bi_k, if_pos (show d ≤ 9 by omega), if_neg (by decide), if_neg (nI_nlt h1 (by omega)), ey2, if_pos (nI_le h2 (by omega)), gf_k (hz_x0 hz), sb_k, hq, pf_k (hz_x0 hz), sb_k, nI_1, dv_n (D := 10) (d := 10) (e := u / 10) rfl (by omega) (by omega) (by omega) rfl, sb_k]
theorem fg_end {G : Nat → Int32 → Int32 → Int32 → Int32 → Int32 → Mem9 → Re9} {l3 h4 e5 : Int32} (hk : k < 1000) : f_X3_figures_b16 z G x0 (nI k) l3 h4 e5 (nI 0) N = some (.inl (some (.int e5)), N) := by
  unfold f_X3_figures_b16 f_X3_figures_b106
  rw [if_pos (show nI 0 ≤ 0 by decide), if_neg (nI_ne1 (by omega))]
  rfl
theorem fg_none {di l3 h4 : Int32} : f_X3_figures z x0 (-1) di l3 h4 N = some (.inl (some (.int (-1))), N) := by
  have e : ∀ u : Nat, 1 ≤ u → u ≤ 10 → f_X3_figures_b14 z x0 (-1) l3 h4 0 (nI u) N = some (.inl (some (.int (-1))), N) := fun u h1 h2 => by
    unfold f_X3_figures_b14
    rw [show FU9 = 5999 + 1 from rfl, fx_k]
    unfold f_X3_figures_b16 f_X3_figures_b106
    rw [if_neg (nI_nle (by omega) (by omega)), if_pos rfl, if_pos rfl]
    rfl
  unfold f_X3_figures
  by_cases q : di = 2
  · rw [if_pos q]
    exact e 10 (by omega) (by omega)
  · rw [if_neg q]
    exact e 1 (by omega) (by omega)
theorem tt_w11 {v : Int32} (h : TT8 N a T s) : TT8 (wr9 N (a + 383) 11 v) a T s := tt_f h (fun q k hq => by
  by_cases e : q = a + 383
  · rw [e]; exact wr_nk (by omega)
  · exact wr_na e)
/-- a digit for a lane -/
theorem fg1_yes (hz : HZ8 z a) (h : TT8 N a T s) (hq : N (a + 383) 11 = nI q) (hq2 : q < 500) (hd : s q = nI (48 + d)) (hd2 : d ≤ 2) : f_X3_figures z (a + 383) 0 1 0 2 N = some (.inl (some (.int (nI d))), wr9 N (a + 383) 11 (nI (q + 1))) := by
  have e := fun G => fg_yes (G := G) (k := 0) (lo := 0) (hi := 2) (v := 0) (u := 1) hz h hq hq2 (by omega) (by omega) (by omega) hd (by omega) (by omega) (by omega) (by omega) (by omega) (by omega)
  unfold f_X3_figures f_X3_figures_b14
  rw [if_neg (by decide), show FU9 = 5998 + 1 + 1 from rfl, fx_k]
  refine (e _).trans ?_
  rw [fx_k, show 1 / 10 = 0 from rfl]
  refine (fg_end (by omega)).trans ?_
  rw [Nat.mul_one, Nat.zero_add]
theorem fg1_no (hz : HZ8 z a) (h : TT8 N a T s) (hq : N (a + 383) 11 = nI q) (hq2 : q < 500) (hno : ¬ (48 ≤ (s q).toInt ∧ (s q).toInt ≤ 50)) : f_X3_figures z (a + 383) 0 1 0 2 N = some (.inl (some (.int (-1))), N) := by
  unfold f_X3_figures f_X3_figures_b14
  rw [if_neg (by decide), show FU9 = 5998 + 1 + 1 from rfl, fx_k]
  rcases dg_or (i := q) h with ⟨d, d1, d2⟩ | hn
  · rw [d2, nI_toInt (by omega)] at hno
    exact fg_big (k := 0) (lo := 0) (hi := 2) (v := 0) (u := 1) hz h hq hq2 (by omega) (by omega) (by omega) d2 d1 (by omega) (by omega) (by omega) (by omega)
  · exact fg_non (k := 0) (u := 1) hz h hq hq2 (by omega) (by omega) (by omega) hn
/-- two digits -/
theorem fg2_yes (hz : HZ8 z a) (h : TT8 N a T s) (hq : N (a + 383) 11 = nI q) (hq2 : q < 499) (hk : k < 1000) (hd : s q = nI (48 + d)) (hd9 : d < 10) (he : s (q + 1) = nI (48 + w)) (he9 : w < 10) (hhi : hi < 100) (h1 : 10 * d + w ≤ hi) (h2 : lo ≤ 10 * d + w) : f_X3_figures z (a + 383) (nI k) 2 (nI lo) (nI hi) N = some (.inl (some (.int (nI (10 * d + w)))), wr9 (wr9 N (a + 383) 11 (nI (q + 1))) (a + 383) 11 (nI (q + 1 + 1))) := by
  have e := fun G => fg_yes (G := G) (k := k) (lo := lo) (hi := hi) (v := 0) (u := 10) hz h hq (by omega) hk (by omega) (by omega) hd hd9 (by omega) (by omega) (by omega) (by omega) (by omega)
  have e' := fun G => fg_yes (N := wr9 N (a + 383) 11 (nI (q + 1))) (G := G) (k := k) (lo := lo) (hi := hi) (v := d * 10) (u := 1) hz (tt_w11 h) wr_eq (by omega) hk (by omega) (by omega) he he9 (by omega) (by omega) (by omega) (by omega) (by omega)
  unfold f_X3_figures f_X3_figures_b14
  rw [if_pos rfl, show FU9 = 5997 + 1 + 1 + 1 from rfl, fx_k]
  refine (e _).trans ?_
  rw [fx_k, show 10 / 10 = 1 from rfl, Nat.zero_add]
  refine (e' _).trans ?_
  rw [fx_k, show 1 / 10 = 0 from rfl]
  refine (fg_end hk).trans ?_
  rw [Nat.mul_one, Nat.mul_comm d 10]
theorem fg2_no1 (hz : HZ8 z a) (h : TT8 N a T s) (hq : N (a + 383) 11 = nI q) (hq2 : q < 499) (hk : k < 1000) (hhi : hi < 100) (hlo : lo ≤ 9) (hno : ∀ d, d < 10 → s q = nI (48 + d) → hi < 10 * d) : f_X3_figures z (a + 383) (nI k) 2 (nI lo) (nI hi) N = some (.inl (some (.int (-1))), N) := by
  unfold f_X3_figures f_X3_figures_b14
  rw [if_pos rfl, show FU9 = 5997 + 1 + 1 + 1 from rfl, fx_k]
  rcases dg_or (i := q) h with ⟨d, d1, d2⟩ | hn
  · have := hno d d1 d2
    exact fg_big (k := k) (lo := lo) (hi := hi) (v := 0) (u := 10) hz h hq (by omega) hk (by omega) (by omega) d2 d1 (by omega) (by omega) (by omega) (by omega)
  · exact fg_non (k := k) (u := 10) hz h hq (by omega) hk (by omega) (by omega) hn
theorem fg2_no2 (hz : HZ8 z a) (h : TT8 N a T s) (hq : N (a + 383) 11 = nI q) (hq2 : q < 499) (hk : k < 1000) (hd : s q = nI (48 + d)) (hd9 : d < 10) (hhi : hi < 100) (hlo : lo ≤ 9) (h1 : 10 * d ≤ hi) (hno : ∀ w, w < 10 → s (q + 1) = nI (48 + w) → hi < 10 * d + w ∨ 10 * d + w < lo) : f_X3_figures z (a + 383) (nI k) 2 (nI lo) (nI hi) N = some (.inl (some (.int (-1))), wr9 N (a + 383) 11 (nI (q + 1))) := by
  have e := fun G => fg_yes (G := G) (k := k) (lo := lo) (hi := hi) (v := 0) (u := 10) hz h hq (by omega) hk (by omega) (by omega) hd hd9 (by omega) (by omega) (by omega) (by omega) (by omega)
  unfold f_X3_figures f_X3_figures_b14
  rw [if_pos rfl, show FU9 = 5997 + 1 + 1 + 1 from rfl, fx_k]
  refine (e _).trans ?_
  rw [fx_k, show 10 / 10 = 1 from rfl, Nat.zero_add]
  rcases dg_or (i := q + 1) h with ⟨w, w1, w2⟩ | hn
  · have := hno w w1 w2
    exact fg_big (N := wr9 N (a + 383) 11 (nI (q + 1))) (k := k) (lo := lo) (hi := hi) (v := d * 10) (u := 1) hz (tt_w11 h) wr_eq (by omega) hk (by omega) (by omega) w2 w1 (by omega) (by omega) (by omega) (by omega)
  · exact fg_non (N := wr9 N (a + 383) 11 (nI (q + 1))) (k := k) (u := 1) hz (tt_w11 h) wr_eq (by omega) hk (by omega) (by omega) hn
/-- a sign that may be here -/
theorem m_sign {c9 : Int32} (hz : HZ8 z a) (h : TT8 N a T s) (hq : N (a + 383) 11 = nI q) (hq2 : q < 500) : f_X3_sign z (a + 383) c9 N = some (.inl (some (.int (if s q = c9 then 1 else 0))), wr9 N (a + 383) 11 (nI (if s q = c9 then q + 1 else q))) := by
  unfold f_X3_sign
  rw [gf_k (hz_x0 hz), sb_k, hq, iv_k (hz_x0 hz), m_at hz h (by omega), bi_k]
  by_cases e : s q = c9
  · rw [if_pos e, if_pos e, if_pos e]
    unfold f_X3_sign_b17 f_X3_sign_b32
    rw [gf_k (hz_x0 hz), sb_k, if_neg (by decide), hq, pf_k (hz_x0 hz), sb_k, nI_1, rz_1]
  · rw [if_neg e, if_neg e, if_neg e]
    unfold f_X3_sign_b17 f_X3_sign_b32
    rw [gf_k (hz_x0 hz), sb_k, if_pos rfl, hq, pf_k (hz_x0 hz), sb_k, Int32.add_zero, rz_0]
end RY
