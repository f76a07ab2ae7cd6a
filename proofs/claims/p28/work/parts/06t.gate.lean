section RA
variable {z : Sh9} {M M' M2 : Mem9} {g g' b n c m : Nat} {Q : Nat → Int32} {r s : Nat → Int32}
/-- a gate's cells -/
def G8 (z : Sh9) (g : Nat) : Prop := RW9 z g 0 0 ∧ RW9 z (g + 1) 14 3 ∧ RW9 z (g + 2) 10 3 ∧ ∀ l, l < 3 → pu_L z (g + 3 + 6 * l)
/-- none but the n cells from b on are other ones -/
def F8 (M M' : Mem9) (b n : Nat) : Prop := ∀ q k, q < b ∨ b + n ≤ q → M' q k = M q k
theorem f8_refl : F8 M M b n := fun _ _ _ => rfl
theorem f8_trans (h1 : F8 M M' b n) (h2 : F8 M' M2 b n) : F8 M M2 b n := fun q k h => (h2 q k h).trans (h1 q k h)
theorem f8_in (h : F8 M M' b n) (h1 : c ≤ b) (h2 : b + n ≤ c + m) : F8 M M' c m := fun q k hq => h q k (by omega)
theorem f8_W : F8 M (pu_W M b r s) b 6 := fun q k h => pw_o (by omega)
theorem f8_w {k : Nat} {v : Int32} : F8 M (wr9 M b k v) b 1 := fun q j h => wr_na (by omega)
theorem g8_la {l : Nat} (hG : G8 z g) (hl : l < 3) : la9 z 14 (g + 1) (nI l) = some (g + 3 + 6 * l) := by
  rw [la_k hG.2.1 hl (by decide)]
  unfold el9
  rw [if_pos rfl, show g + 1 + 2 + 6 * l = g + 3 + 6 * l by omega]
theorem vc_cong (h : ∀ q k, b ≤ q → q ≤ b + 5 → M' q k = M q k) : vc9 M' b = vc9 M b := by
  funext j
  unfold vc9
  rw [h b 5 (by omega) (by omega), h b 6 (by omega) (by omega), h b 7 (by omega) (by omega), h b 8 (by omega) (by omega), h b 9 (by omega) (by omega), h b 10 (by omega) (by omega), h b 11 (by omega) (by omega), h (b + 1 + (j - 7) % 5) _ (by omega) (by omega)]
theorem vc_W : vc9 (pu_W M b r s) b = r := by
  funext j
  by_cases h : j < 7
  · rcases (show j = 0 ∨ j = 1 ∨ j = 2 ∨ j = 3 ∨ j = 4 ∨ j = 5 ∨ j = 6 by omega) with rfl | rfl | rfl | rfl | rfl | rfl | rfl
    · exact pw_5
    · exact pw_6
    · exact pw_7
    · exact pw_8
    · exact pw_10
    · exact pw_11
    · exact pw_9
  · obtain ⟨k, i, hi, rfl⟩ : ∃ k i, i < 5 ∧ j = 7 + 5 * k + i := ⟨(j - 7) / 5, (j - 7) % 5, by omega, by omega⟩
    rw [vc_v hi, pw_i hi]
theorem pw_t {i : Nat} (hi : i < 5) : pu_W M b r s b (12 + i) = s i := by
  unfold pu_W
  rw [if_pos rfl, if_neg (by omega), if_neg (by omega), if_neg (by omega), if_neg (by omega), if_neg (by omega), if_neg (by omega), if_neg (by omega), if_pos (by omega), show 12 + i - 12 = i by omega]
theorem pw_cong {r' s' : Nat → Int32} (h1 : ∀ j, r j = r' j) (h2 : ∀ i, i < 5 → s i = s' i) : pu_W M b r s = pu_W M b r' s' := by
  refine pw_ext (b := b) (fun k => ?_) (fun i k hi => ?_) (fun a k h => ?_)
  · unfold pu_W
    rw [if_pos rfl, if_pos rfl, h1 0, h1 1, h1 2, h1 3, h1 4, h1 5, h1 6]
    by_cases q : 12 ≤ k ∧ k ≤ 16
    · rw [if_pos q, if_pos q, h2 (k - 12) (by omega)]
    · rw [if_neg q, if_neg q]
  · rw [pw_i hi, pw_i hi, h1]
  · rw [pw_o h, pw_o h]
/-- the two booleans of a lane and those of all its vehicles -/
def LB8 (M : Mem9) (b : Nat) : Prop := pu_B (vc9 M b) 6 ∧ b9 (vc9 M b 4) ∧ b9 (vc9 M b 5)
/-- a sum -/
def SM8 (f : Nat → Int32) : Nat → Int32
  | 0 => 0
  | n + 1 => SM8 f n + f n
theorem sm_s {f : Nat → Int32} : SM8 f (n + 1) = SM8 f n + f n := rfl
theorem sm_cong {f h : Nat → Int32} (e : ∀ l, l < n → f l = h l) : SM8 f n = SM8 h n := by
  induction n with
  | zero => rfl
  | succ n ih => rw [sm_s, sm_s, ih (fun l hl => e l (by omega)), e n (by omega)]
theorem sm_up {f h : Nat → Int32} {l : Nat} (hl : l < n) (e : ∀ j, j < n → j ≠ l → h j = f j) : SM8 h n + f l = SM8 f n + h l := by
  induction n with
  | zero => omega
  | succ n ih =>
    rw [sm_s, sm_s]
    by_cases q : l = n
    · subst q
      rw [sm_cong (f := h) (h := f) (fun j hj => e j (by omega) (by omega)), Int32.add_assoc, Int32.add_comm (h l) (f l), ← Int32.add_assoc]
    · have h1 := ih (by omega) (fun j hj hn => e j (by omega) hn)
      rw [e n (by omega) (by omega), Int32.add_assoc, Int32.add_comm (f n) (f l), ← Int32.add_assoc, h1, Int32.add_assoc, Int32.add_comm (h l) (f n), ← Int32.add_assoc]
/-- how many lanes a row tells of, how many vehicles of a lane -/
def kn8 (Q : Nat → Int32) : Nat := (Q 0).toNatClampNeg
def kc8 (Q : Nat → Int32) (l : Nat) : Nat := (Q (10 + 37 * l)).toNatClampNeg
theorem kn_of (h : Q 0 = nI n) (hn : n ≤ 3) : kn8 Q = n := by unfold kn8; rw [h]; exact nI_clamp (by omega)
theorem kc_of {l : Nat} (h : pu_I (pu_s Q l) c) : kc8 Q l = c := by
  have h0 : Q (10 + 37 * l) = nI c := h.1
  unfold kc8
  rw [h0]
  exact nI_clamp (by have := h.2.1; omega)
/-- what holds of a row -/
def RI8 (Q : Nat → Int32) : Prop := Q 0 = nI (kn8 Q) ∧ kn8 Q ≤ 3 ∧ (∃ g, g ≤ 20 ∧ Q 9 = nI g) ∧ ∀ l, l < kn8 Q → pu_I (pu_s Q l) (kc8 Q l)
theorem ri_mk {cs : Nat → Nat} (h0 : Q 0 = nI n) (hn : n ≤ 3) (h9 : ∃ g, g ≤ 20 ∧ Q 9 = nI g) (h : ∀ l, l < n → pu_I (pu_s Q l) (cs l)) : RI8 Q := by
  have e := kn_of h0 hn
  refine ⟨by rw [e]; exact h0, by omega, h9, fun l hl => ?_⟩
  have h1 := h l (by omega)
  rw [kc_of h1]
  exact h1
/-- a gate g is the row Q, its ticks aside; no lane has more than B hits -/
def GT8 (M : Mem9) (g : Nat) (Q : Nat → Int32) (B : Nat) : Prop := RI8 Q ∧ M g 2 = Q 0 ∧ (∀ i, i < 3 → M (g + 2) i = Q (7 + i)) ∧ (∀ l, l < 3 → LB8 M (g + 3 + 6 * l)) ∧ (∀ l, l < kn8 Q → pu_A (pu_s Q l) (vc9 M (g + 3 + 6 * l)) (kc8 Q l)) ∧ (∀ l, l < kn8 Q → ∃ h, h ≤ B ∧ M (g + 3 + 6 * l) 15 = nI h) ∧ ∀ i, i < 5 → Q (2 + i) = SM8 (fun l => M (g + 3 + 6 * l) (12 + i)) (kn8 Q)
def GR8 (M : Mem9) (g : Nat) (Q : Nat → Int32) (B : Nat) : Prop := M g 3 = Q 1 ∧ GT8 M g Q B
/-- the gates look the same (but for their ticks) -/
def VT8 (M : Mem9) (g : Nat) (M' : Mem9) (g' : Nat) : Prop := M' g' 2 = M g 2 ∧ (∀ i, i < 3 → M' (g' + 2) i = M (g + 2) i) ∧ ∀ l, l < 3 → (∀ j, j < 37 → vc9 M' (g' + 3 + 6 * l) j = vc9 M (g + 3 + 6 * l) j) ∧ ∀ i, i < 5 → M' (g' + 3 + 6 * l) (12 + i) = M (g + 3 + 6 * l) (12 + i)
def V8 (M : Mem9) (g : Nat) (M' : Mem9) (g' : Nat) : Prop := M' g' 3 = M g 3 ∧ VT8 M g M' g'
theorem pA_cong {p r r' : Nat → Int32} (h6 : c ≤ 6) (h : pu_A p r c) (e : ∀ j, j < 37 → r' j = r j) : pu_A p r' c := fun j hj => (h j hj).trans (e j (by omega)).symm
theorem lB_cong {b' : Nat} (h : LB8 M b) (e : ∀ j, j < 37 → vc9 M' b' j = vc9 M b j) : LB8 M' b' := by
  refine ⟨fun k hk => ?_, by rw [e 4 (by omega)]; exact h.2.1, by rw [e 5 (by omega)]; exact h.2.2⟩
  obtain ⟨x1, x2, x3⟩ := h.1 k hk
  have e1 : lo9 (vc9 M' b') k = lo9 (vc9 M b) k := e _ (by omega)
  have e2 : fo9 (vc9 M' b') k = fo9 (vc9 M b) k := e _ (by omega)
  have e3 : le9' (vc9 M' b') k = le9' (vc9 M b) k := e _ (by omega)
  rw [e1, e2, e3]
  exact ⟨x1, x2, x3⟩
theorem gt_cong {B : Nat} (h : GT8 M g Q B) (v : VT8 M g M' g') : GT8 M' g' Q B := by
  obtain ⟨hR, h2, hs, hB, hA, hh, hT⟩ := h
  obtain ⟨v2, vs, vl⟩ := v
  have hn := hR.2.1
  refine ⟨hR, v2.trans h2, fun i hi => (vs i hi).trans (hs i hi), fun l hl => lB_cong (hB l hl) (vl l hl).1, fun l hl => pA_cong (hR.2.2.2 l hl).2.1 (hA l hl) (vl l (by omega)).1, fun l hl => ?_, fun i hi => ?_⟩
  · obtain ⟨x, x1, x2⟩ := hh l hl
    exact ⟨x, x1, ((vl l (by omega)).2 3 (by omega)).trans x2⟩
  · rw [hT i hi]
    exact sm_cong (fun l hl => ((vl l (by omega)).2 i hi).symm)
theorem g8_cong {B : Nat} (h : GR8 M g Q B) (v : V8 M g M' g') : GR8 M' g' Q B := ⟨v.1.trans h.1, gt_cong h.2 v.2⟩
theorem vt_f (f : ∀ q k, g ≤ q → q < g + 21 → (q ≠ g ∨ k ≠ 3) → M' q k = M q k) : VT8 M g M' g := by
  refine ⟨f _ _ (by omega) (by omega) (by omega), fun i hi => f _ _ (by omega) (by omega) (by omega), fun l hl => ⟨fun j hj => ?_, fun i hi => f _ _ (by omega) (by omega) (by omega)⟩⟩
  rw [vc_cong (fun q k h1 h2 => f q k (by omega) (by omega) (by omega))]
theorem v8_f (f : ∀ q k, g ≤ q → q < g + 21 → M' q k = M q k) : V8 M g M' g := ⟨f _ _ (by omega) (by omega), vt_f (fun q k h1 h2 _ => f q k h1 h2)⟩
theorem v8_trans {M3 : Mem9} {g3 : Nat} (v : V8 M g M' g') (w : V8 M' g' M3 g3) : V8 M g M3 g3 := by
  obtain ⟨v3, v2, vs, vl⟩ := v
  obtain ⟨w3, w2, ws, wl⟩ := w
  exact ⟨w3.trans v3, w2.trans v2, fun i hi => (ws i hi).trans (vs i hi), fun l hl => ⟨fun j hj => ((wl l hl).1 j hj).trans ((vl l hl).1 j hj), fun i hi => ((wl l hl).2 i hi).trans ((vl l hl).2 i hi)⟩⟩
/-- what lies outside a gate doesn't touch it -/
theorem g8_out {B : Nat} (h : GR8 M g Q B) (f : F8 M M' b n) (ho : g + 21 ≤ b ∨ b + n ≤ g) : GR8 M' g Q B := g8_cong h (v8_f (fun q k h1 h2 => f q k (by omega)))
theorem gt_mono {B B' : Nat} (h : GT8 M g Q B) (hB : B ≤ B') : GT8 M g Q B' := by
  obtain ⟨hR, h2, hs, hb, hA, hh, hT⟩ := h
  refine ⟨hR, h2, hs, hb, hA, fun l hl => ?_, hT⟩
  obtain ⟨x, x1, x2⟩ := hh l hl
  exact ⟨x, by omega, x2⟩
theorem g8_mono {B B' : Nat} (h : GR8 M g Q B) (hB : B ≤ B') : GR8 M g Q B' := ⟨h.1, gt_mono h.2 hB⟩
theorem ri_row {Q' : Nat → Int32} (h : RI8 Q) (e : ∀ i, i < 121 → i ≠ 1 → Q' i = Q i) : RI8 Q' ∧ kn8 Q' = kn8 Q ∧ ∀ l, l < 3 → kc8 Q' l = kc8 Q l := by
  obtain ⟨h0, hn, h9, hI⟩ := h
  have en : kn8 Q' = kn8 Q := by unfold kn8; rw [e 0 (by omega) (by omega)]
  have ec : ∀ l, l < 3 → kc8 Q' l = kc8 Q l := fun l hl => by unfold kc8; rw [e _ (by omega) (by omega)]
  refine ⟨⟨by rw [en, e 0 (by omega) (by omega)]; exact h0, by omega, by rw [e 9 (by omega) (by omega)]; exact h9, fun l hl => ?_⟩, en, ec⟩
  rw [ec l (by omega)]
  exact pI_cong (fun j hj => e _ (by omega) (by omega)) (hI l (by omega))
theorem gt_row {B : Nat} {Q' : Nat → Int32} (h : GT8 M g Q B) (e : ∀ i, i < 121 → i ≠ 1 → Q' i = Q i) : GT8 M g Q' B := by
  obtain ⟨hR, h2, hs, hb, hA, hh, hT⟩ := h
  have hn := hR.2.1
  obtain ⟨hR', en, ec⟩ := ri_row hR e
  refine ⟨hR', by rw [e 0 (by omega) (by omega)]; exact h2, fun i hi => by rw [e _ (by omega) (by omega)]; exact hs i hi, hb, fun l hl => ?_, fun l hl => hh l (by omega), fun i hi => ?_⟩
  · rw [ec l (by omega)]
    intro j hj
    have h6 := (hR.2.2.2 l (by omega)).2.1
    refine Eq.trans ?_ (hA l (by omega) j hj)
    exact e _ (by omega) (by omega)
  · rw [en, e _ (by omega) (by omega)]
    exact hT i hi
theorem g8_row {B : Nat} {Q' : Nat → Int32} (h : GR8 M g Q B) (e : ∀ i, i < 121 → Q' i = Q i) : GR8 M g Q' B := ⟨by rw [e 1 (by omega)]; exact h.1, gt_row h.2 (fun i hi _ => e i hi)⟩
/-- a lane's change -/
theorem g8_lane {B B' l c' : Nat} {Q' : Nat → Int32} (h : GT8 M g Q B) (hl : l < kn8 Q) (hH : ∀ j, j < 2 ∨ (6 < j ∧ j < 10) → Q' j = Q j) (hO : ∀ l' j, l' < 3 → l' ≠ l → j < 37 → pu_s Q' l' j = pu_s Q l' j) (hI : pu_I (pu_s Q' l) c') (hA : pu_A (pu_s Q' l) r c') (hB : pu_B r 6) (h4 : b9 (r 4)) (h5 : b9 (r 5)) (hT : ∀ i, i < 5 → Q' (2 + i) + pu_t M (g + 3 + 6 * l) i = Q (2 + i) + s i) (hh : ∃ x, x ≤ B' ∧ s 3 = nI x) (hBB : B ≤ B') : GT8 (pu_W M (g + 3 + 6 * l) r s) g Q' B' := by
  obtain ⟨hR, h2, hs, hb, hA0, hh0, hT0⟩ := h
  obtain ⟨r0, rn, r9, rI⟩ := hR
  have e0 : Q' 0 = nI (kn8 Q) := (hH 0 (by omega)).trans r0
  have en : kn8 Q' = kn8 Q := kn_of e0 rn
  have ec : kc8 Q' l = c' := kc_of hI
  have eo : ∀ l', l' < kn8 Q → l' ≠ l → kc8 Q' l' = kc8 Q l' := fun l' h1 h2 => kc_of (pI_cong (fun j hj => hO l' j (by omega) h2 hj) (rI l' h1))
  have hv : ∀ l', l' ≠ l → vc9 (pu_W M (g + 3 + 6 * l) r s) (g + 3 + 6 * l') = vc9 M (g + 3 + 6 * l') := fun l' h => vc_cong (fun q k h1 h2 => pw_o (by omega))
  have hc : ∀ l' k, l' ≠ l → pu_W M (g + 3 + 6 * l) r s (g + 3 + 6 * l') k = M (g + 3 + 6 * l') k := fun l' k h => pw_o (by omega)
  refine ⟨⟨by rw [en]; exact e0, by omega, by rw [hH 9 (by omega)]; exact r9, fun l' h' => ?_⟩, by rw [pw_o (by omega), hH 0 (by omega)]; exact h2, fun i hi => by rw [pw_o (by omega), hH _ (by omega)]; exact hs i hi, fun l' h' => ?_, fun l' h' => ?_, fun l' h' => ?_, fun i hi => ?_⟩
  · by_cases q : l' = l
    · subst q; rw [ec]; exact hI
    · rw [eo l' (by omega) q]
      exact pI_cong (fun j hj => hO l' j (by omega) q hj) (rI l' (by omega))
  · by_cases q : l' = l
    · subst q
      unfold LB8
      rw [vc_W]
      exact ⟨hB, h4, h5⟩
    · unfold LB8
      rw [hv l' q]
      exact hb l' h'
  · by_cases q : l' = l
    · subst q; rw [ec, vc_W]; exact hA
    · rw [eo l' (by omega) q, hv l' q]
      intro j hj
      have h6 := (rI l' (by omega)).2.1
      rw [hO l' j (by omega) q (by omega)]
      exact hA0 l' (by omega) j hj
  · by_cases q : l' = l
    · subst q
      obtain ⟨x, x1, x2⟩ := hh
      exact ⟨x, x1, pw_15.trans x2⟩
    · obtain ⟨x, x1, x2⟩ := hh0 l' (by omega)
      exact ⟨x, by omega, (hc l' _ q).trans x2⟩
  · rw [en]
    have e1 := sm_up (n := kn8 Q) (l := l) (f := fun l => M (g + 3 + 6 * l) (12 + i)) (h := fun l' => pu_W M (g + 3 + 6 * l) r s (g + 3 + 6 * l') (12 + i)) hl (fun j _ hne => hc j _ hne)
    have e2 := hT i hi
    rw [hT0 i hi] at e2
    have e3 : pu_W M (g + 3 + 6 * l) r s (g + 3 + 6 * l) (12 + i) = s i := pw_t hi
    simp only [e3] at e1
    have e4 : Q' (2 + i) + M (g + 3 + 6 * l) (12 + i) = SM8 (fun l' => pu_W M (g + 3 + 6 * l) r s (g + 3 + 6 * l') (12 + i)) (kn8 Q) + M (g + 3 + 6 * l) (12 + i) := e2.trans e1.symm
    have e5 := congrArg (fun v => v - M (g + 3 + 6 * l) (12 + i)) e4
    simpa [Int32.add_sub_cancel] using e5
end RA
