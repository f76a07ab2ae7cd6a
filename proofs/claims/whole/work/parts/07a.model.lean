section RH
variable {z : Sh9} {M M' M2 : Mem9} {g x x0 y0 n c B l : Nat} {Q p r s : Nat → Int32}
/-! the model's methods, by memory; x is one of its rows, x0 its object -/
theorem pr_self : pu_R M x (M x) = M := by
  funext q k
  by_cases h : q = x
  · rw [h]; exact pr_x
  · exact pr_o h
theorem ps_cong {p' : Nat → Int32} (h : ∀ j, j < 37 → p j = p' j) : pu_S Q l p = pu_S Q l p' := by
  funext i
  unfold pu_S
  by_cases e : 10 + 37 * l ≤ i ∧ i < 10 + 37 * l + 37
  · rw [if_pos e, if_pos e, h _ (by omega)]
  · rw [if_neg e, if_neg e]
/-- none but the row x, the booleans 'moved' and the count 'ups' are other ones -/
def N8 (x0 x : Nat) (M M' : Mem9) : Prop := ∀ q k, q ≠ x → q ≠ x0 + 7 → (q = x0 → k ≠ 10) → M' q k = M q k
theorem n8_refl : N8 x0 x M M := fun _ _ _ _ _ => rfl
theorem n8_trans (h1 : N8 x0 x M M') (h2 : N8 x0 x M' M2) : N8 x0 x M M2 := fun q k a1 a2 a3 => (h2 q k a1 a2 a3).trans (h1 q k a1 a2 a3)
theorem n8_R : N8 x0 x M (pu_R M x Q) := fun q k h _ _ => pr_o h
theorem m_tickOn (ho : RW9 z x0 3 0) (hm : RW9 z (x0 + 7) 11 6) (hx : RW9 z x 10 121) (hne : x0 + 7 ≠ x) (hne2 : x0 ≠ x) (hR : RI8 (M x)) : ∃ M', f_X3_tickOn z x0 x M = some (.inl none, M') ∧ N8 x0 x M M' ∧ M' x = tq8 (M x) ∧ M' x0 10 = M x0 10 + au8 (tq8 (M x)) := by
  obtain ⟨gg, hg, h9⟩ := hR.2.2.1
  obtain ⟨u, hu⟩ := em_tickOn (M := M) (u := M (x0 + 7)) (Q := M x) (cs := kc8 (M x)) ho hm hx hne hne2 hR.2.1 hg hR.1 h9 hR.2.2.2
  rw [pr_self, pr_self, uq_eq hR] at hu
  refine ⟨_, hu, fun q k h1 h2 h3 => ?_, ?_, ?_⟩
  · rw [pr_o h1, pr_o h2]
    by_cases e : q = x0
    · rw [e]; exact wr_nk (h3 e)
    · exact wr_na e
  · funext k
    exact pr_x
  · rw [pr_o hne2, pr_o (show x0 ≠ x0 + 7 by omega), wr_eq]
/-- the arms that are up in k ticks -/
def ur8 : Nat → (Nat → Int32) → Int32 → Int32
  | 0, _, v => v
  | k + 1, Q, v => ur8 k (tq8 Q) (v + au8 (tq8 Q))
theorem m_runOn_in (ho : RW9 z x0 3 0) (hm : RW9 z (x0 + 7) 11 6) (hx : RW9 z x 10 121) (hne : x0 + 7 ≠ x) (hne2 : x0 ≠ x) {N : Nat} (hN : N < 2 ^ 31) {w : Int32} : ∀ rem k m M, k + rem = N → rem < m → RI8 (M x) → ∃ M', fx9 (fun _ _ _ _ _ _ => none) (f_X3_runOn_b11 z) m x0 x (nI N) w (nI k) M = some (.inl (some (.int (rn8 rem (M x) 3 + rn8 rem (M x) 4 - w))), M') ∧ N8 x0 x M M' ∧ M' x = rn8 rem (M x) ∧ M' x0 10 = ur8 rem (M x) (M x0 10) := by
  intro rem
  induction rem with
  | zero =>
    intro k m M hk hm1 hR
    obtain ⟨m, rfl⟩ : ∃ q, m = q + 1 := ⟨m - 1, by omega⟩
    refine ⟨M, ?_, n8_refl, rfl, rfl⟩
    rw [fx_k]
    unfold f_X3_runOn_b11
    rw [if_pos (nI_le (by omega) (by omega)), show (3 : Int32) = nI 3 from rfl, ld_k hx (by decide) (by decide), sb_k, show (4 : Int32) = nI 4 from rfl, ld_k hx (by decide) (by decide), sb_k]
    rfl
  | succ rem ih =>
    intro k m M hk hm1 hR
    obtain ⟨m, rfl⟩ : ∃ q, m = q + 1 := ⟨m - 1, by omega⟩
    obtain ⟨M1, t1, n1, e1, u1⟩ := m_tickOn ho hm hx hne hne2 hR
    obtain ⟨M2, t2, n2, e2, u2⟩ := ih (k + 1) m M1 (by omega) (by omega) (by rw [e1]; exact ri_tq hR)
    rw [e1] at t2 e2 u2
    rw [u1] at u2
    refine ⟨M2, ?_, n8_trans n1 n2, e2, u2⟩
    rw [fx_k]
    unfold f_X3_runOn_b11
    rw [if_neg (nI_ge (by omega) (by omega)), iv_k ho, t1, bv_k, nI_1]
    exact t2
theorem m_runOn (ho : RW9 z x0 3 0) (hm : RW9 z (x0 + 7) 11 6) (hx : RW9 z x 10 121) (hne : x0 + 7 ≠ x) (hne2 : x0 ≠ x) {N : Nat} (hN : N < 5000) (hR : RI8 (M x)) : ∃ M', f_X3_runOn z x0 x (nI N) M = some (.inl (some (.int (rn8 N (M x) 3 + rn8 N (M x) 4 - (M x 3 + M x 4)))), M') ∧ N8 x0 x M M' ∧ M' x = rn8 N (M x) ∧ M' x0 10 = ur8 N (M x) (M x0 10) := by
  obtain ⟨M', t, rest⟩ := m_runOn_in (w := M x 3 + M x 4) ho hm hx hne hne2 (show N < 2 ^ 31 by omega) N 0 FU9 M (by omega) (by unfold FU9; omega) hR
  refine ⟨M', ?_, rest⟩
  unfold f_X3_runOn
  rw [show (3 : Int32) = nI 3 from rfl, ld_k hx (by decide) (by decide), sb_k, show (4 : Int32) = nI 4 from rfl, ld_k hx (by decide) (by decide), sb_k]
  exact t
theorem m_sum {w : Nat} (hx : RW9 z x 10 121) (hR : RI8 (M x)) (hw : w < 37) : f_X3_sum z x (nI w) M = some (.inl (some (.int (SM8 (fun l => pu_s (M x) l w) (kn8 (M x))))), M) := by
  have hn := hR.2.1
  have hl : ∀ rem k m, k + rem = kn8 (M x) → rem < m → fx9 (fun _ _ _ _ _ => none) (f_X3_sum_b4 z) m x (nI w) (SM8 (fun l => pu_s (M x) l w) k) (nI k) M = some (.inl (some (.int (SM8 (fun l => pu_s (M x) l w) (kn8 (M x))))), M) := by
    intro rem
    induction rem with
    | zero =>
      intro k m hk hm
      obtain ⟨m, rfl⟩ : ∃ q, m = q + 1 := ⟨m - 1, by omega⟩
      rw [fx_k]
      unfold f_X3_sum_b4
      rw [show (0 : Int32) = nI 0 from rfl, ld_k hx (by decide) (by decide), sb_k, hR.1, if_pos (nI_le (by omega) (by omega)), show k = kn8 (M x) by omega]
      rfl
    | succ rem ih =>
      intro k m hk hm
      obtain ⟨m, rfl⟩ : ∃ q, m = q + 1 := ⟨m - 1, by omega⟩
      have e := em_of (M := M) (x := x) (R := M x) (l := k) (p := pu_s (M x) k) (j := w) hx (by omega) hw
      rw [pS_s, pr_self] at e
      rw [fx_k]
      unfold f_X3_sum_b4
      rw [show (0 : Int32) = nI 0 from rfl, ld_k hx (by decide) (by decide), sb_k, hR.1, if_neg (nI_ge (by omega) (by omega)), e, bi_k, nI_1]
      exact ih (k + 1) m (by omega) (by omega)
  exact hl (kn8 (M x)) 0 FU9 (by omega) (by unfold FU9; omega)
/-- lane l of a row, by memory -/
theorem m_of {j : Nat} (hx : RW9 z x 10 121) (hl : l < 3) (hj : j < 37) : f_X3_of z x (nI l) (nI j) M = some (.inl (some (.int (pu_s (M x) l j))), M) := by
  have e := em_of (M := M) (x := x) (R := M x) (l := l) (p := pu_s (M x) l) (j := j) hx hl hj
  rw [pS_s, pr_self] at e
  exact e
theorem m_lay {j : Nat} {v : Int32} (hx : RW9 z x 10 121) (hl : l < 3) (hj : j < 37) : f_X3_lay z x (nI l) (nI j) v M = some (.inl none, pu_R M x (pu_S (M x) l (pu_u (pu_s (M x) l) j v))) := by
  have e := em_lay (M := M) (x := x) (R := M x) (l := l) (p := pu_s (M x) l) (j := j) (v := v) hx hl hj
  rw [pS_s, pr_self] at e
  exact e
theorem m_told {k j : Nat} (hx : RW9 z x 10 121) (hl : l < 3) (hk : k < 6) (hj : j < 5) : f_X3_told z x (nI l) (nI k) (nI j) M = some (.inl (some (.int (pu_s (M x) l (7 + 5 * k + j)))), M) := by
  have e := em_told (M := M) (x := x) (R := M x) (l := l) (p := pu_s (M x) l) (k := k) (j := j) hx hl hk hj
  rw [pS_s, pr_self] at e
  exact e
theorem m_last {k : Nat} (hx : RW9 z x 10 121) (hl : l < 3) (hk : k < 6) : f_X3_last z x (nI l) (nI k) M = some (.inl (some (.int (la9' (pu_s (M x) l) k))), M) := by
  have e := em_last (M := M) (x := x) (R := M x) (l := l) (p := pu_s (M x) l) (k := k) hx hl hk
  rw [pS_s, pr_self] at e
  exact e
theorem m_lane (hx : RW9 z x 10 121) (hR : RI8 (M x)) {y : Int32} : f_X3_isLane z x y M = some (.inl (some (.int (if 0 ≤ y.toInt ∧ y.toInt < (kn8 (M x) : Int) then 1 else 0))), M) := by
  have e := em_isLane (M := M) (x := x) (R := M x) (y := y) hx hR.1 hR.2.1
  rw [pr_self] at e
  exact e
theorem m_lane1 (hx : RW9 z x 10 121) (hR : RI8 (M x)) (hl : l < kn8 (M x)) : f_X3_isLane z x (nI l) M = some (.inl (some (.int 1)), M) := by
  have hn := hR.2.1
  rw [m_lane hx hR, if_pos (by rw [nI_toInt (by omega)]; omega)]
theorem m_lane0 (hx : RW9 z x 10 121) (hR : RI8 (M x)) {y : Int32} (hy : ¬ (0 ≤ y.toInt ∧ y.toInt < (kn8 (M x) : Int))) : f_X3_isLane z x y M = some (.inl (some (.int 0)), M) := by
  rw [m_lane hx hR, if_neg hy]
theorem m_canArr {len : Int32} (hx : RW9 z x 10 121) (hR : RI8 (M x)) (hl : l < kn8 (M x)) : f_X3_canArrive z x (nI l) len M = some (.inl (some (.int (if (2 ≤ len.toInt ∧ len.toInt ≤ 12) ∧ kc8 (M x) l < 6 then 1 else 0))), M) := by
  have hI := hR.2.2.2 l hl
  have e := em_arr (M := M) (x := x) (R := M x) (l := l) (p := pu_s (M x) l) (len := len) hx hR.1 hl hR.2.1 hI.1 hI.2.1
  rw [pS_s, pr_self] at e
  exact e
theorem m_noArr {y len : Int32} (hx : RW9 z x 10 121) (hR : RI8 (M x)) (hy : ¬ (0 ≤ y.toInt ∧ y.toInt < (kn8 (M x) : Int))) : f_X3_canArrive z x y len M = some (.inl (some (.int 0)), M) := by
  have e := em_noarr (M := M) (x := x) (R := M x) (y := y) (len := len) hx hR.1 hR.2.1 hy
  rw [pr_self] at e
  exact e
theorem m_arrive {len lost fol : Int32} (hx : RW9 z x 10 121) (hR : RI8 (M x)) (hl : l < kn8 (M x)) (hc : kc8 (M x) l < 6) (hlo : b9 lost) (hfo : b9 fol) : f_X3_arriveOn z x (nI l) len lost fol M = some (.inl (some (.int (nI (kc8 (M x) l + 1)))), pu_R M x (qa8 l len lost fol (M x))) := by
  have hI := hR.2.2.2 l hl
  have e := em_arriveOn (M := M) (x := x) (R := M x) (l := l) (p := pu_s (M x) l) (len := len) hx (by have := hR.2.1; omega) hI.1 hc hlo hfo
  rw [pS_s, pr_self, nI_1] at e
  exact e
theorem ri_qa {len lost fol : Int32} (hR : RI8 Q) (hl : l < kn8 Q) (h2 : 2 ≤ len.toInt) (h12 : len.toInt ≤ 12) (hc : kc8 Q l < 6) (hlo : b9 lost) (hfo : b9 fol) : RI8 (qa8 l len lost fol Q) := (ri_S hR hl (pI_ad (hR.2.2.2 l hl) hc h2 h12 hlo hfo)).1
theorem ri_qb {v : Int32} (hR : RI8 Q) (hl : l < kn8 Q) (hv : b9 v) : RI8 (qb8 l v Q) := (ri_S hR hl (pI_4 hv (hR.2.2.2 l hl))).1
theorem ri_qm (hR : RI8 Q) (hl : l < kn8 Q) : RI8 (qm8 l Q) := (ri_S hR hl (pI_5 (Or.inl rfl) (hR.2.2.2 l hl))).1
/-- a sum over a row's lanes -/
def rs8 (Q : Nat → Int32) (w : Nat) : Int32 := SM8 (fun l => pu_s Q l w) (kn8 Q)
theorem m_loopOn {v : Int32} (hx : RW9 z x 10 121) (hR : RI8 (M x)) (hl : l < kn8 (M x)) (hv : b9 v) : f_X3_loopOn z x (nI l) v M = some (.inl (some (.int (rs8 (qb8 l v (M x)) 4))), pu_R M x (qb8 l v (M x))) := by
  have hn := hR.2.1
  have e : ∀ w, f_X3_lay z x (nI l) 4 w M = some (.inl none, pu_R M x (qb8 l w (M x))) := fun w => m_lay (j := 4) hx (by omega) (by decide)
  have hrow : ∀ q : Nat → Int32, pu_R M x q x = q := fun q => by funext k; exact pr_x
  have hs := m_sum (M := pu_R M x (qb8 l v (M x))) (x := x) (w := 4) hx (by rw [hrow]; exact ri_qb hR hl hv) (by decide)
  rw [hrow] at hs
  have hs' : f_X3_sum z x 4 (pu_R M x (qb8 l v (M x))) = some (.inl (some (.int (rs8 (qb8 l v (M x)) 4))), pu_R M x (qb8 l v (M x))) := hs
  unfold f_X3_loopOn
  rcases hv with q | q
  · subst q
    rw [if_pos rfl]
    unfold f_X3_loopOn_b12
    rw [e, bv_k, hs', bi_k]
    rfl
  · subst q
    rw [if_neg (by decide)]
    unfold f_X3_loopOn_b12
    rw [e, bv_k, hs', bi_k]
    rfl
theorem m_mendOn (hx : RW9 z x 10 121) (hl : l < 3) : f_X3_mendOn z x (nI l) M = some (.inl (some (.int (pu_s (M x) l 1))), pu_R M x (qm8 l (M x))) := by
  have e : f_X3_lay z x (nI l) 5 0 M = some (.inl none, pu_R M x (qm8 l (M x))) := m_lay (j := 5) hx hl (by decide)
  have e2 : f_X3_of z x (nI l) 1 (pu_R M x (qm8 l (M x))) = some (.inl (some (.int (pu_s (M x) l 1))), pu_R M x (qm8 l (M x))) := by
    have e3 := m_of (M := pu_R M x (qm8 l (M x))) (x := x) (l := l) (j := 1) hx hl (by decide)
    rw [show pu_R M x (qm8 l (M x)) x = qm8 l (M x) from by funext k; exact pr_x] at e3
    refine e3.trans ?_
    rw [show pu_s (qm8 l (M x)) l 1 = pu_s (M x) l 1 from (ps_l (by decide)).trans (pu_u_ne (by decide))]
  unfold f_X3_mendOn
  rw [e, bv_k, e2, bi_k]
  rfl
theorem m_canMend (hx : RW9 z x 10 121) (hR : RI8 (M x)) (hl : l < kn8 (M x)) : f_X3_canMend z x (nI l) M = some (.inl (some (.int (if cb8 (M x) l then 1 else 0))), M) := by
  have hI := hR.2.2.2 l hl
  have e := em_mend (M := M) (x := x) (R := M x) (l := l) (p := pu_s (M x) l) hx hR.1 hR.2.1 hl hI.1 hI.2.1 hI.2.2.2.2.2.2.1 rfl
  rw [pS_s, pr_self] at e
  exact e
theorem m_noMend {y : Int32} (hx : RW9 z x 10 121) (hR : RI8 (M x)) (hy : ¬ (0 ≤ y.toInt ∧ y.toInt < (kn8 (M x) : Int))) : f_X3_canMend z x y M = some (.inl (some (.int 0)), M) := by
  unfold f_X3_canMend
  rw [m_lane0 hx hR hy, bi_k, if_pos rfl, rz_0]
theorem m_laneOn (hx : RW9 z x 10 121) (hR : RI8 (M x)) (hn : kn8 (M x) < 3) : f_X3_laneOn z x M = some (.inl (some (.int (nI (kn8 (M x))))), pu_R M x (ql8 (M x))) := by
  generalize hk : kn8 (M x) = n at *
  have h0 : M x 0 = nI n := by have := hR.1; rw [hk] at this; exact this
  have hl : ∀ rem k m, k + rem = 37 → rem < m → fx9 (fun _ _ _ _ => none) (f_X3_laneOn_b6 z) m x (nI n) (nI k) (pu_R M x (pu_S (M x) n (fun j => if j < k then 0 else pu_s (M x) n j))) = some (.inl (some (.int (nI n))), pu_R M x (ql8 (M x))) := by
    intro rem
    induction rem with
    | zero =>
      intro k m hk2 hm
      obtain ⟨m, rfl⟩ : ∃ q, m = q + 1 := ⟨m - 1, by omega⟩
      rw [fx_k, show k = 37 by omega]
      unfold f_X3_laneOn_b6
      have e0 : ∀ p, pu_R M x (pu_S (M x) n p) x 0 = nI n := fun p => by rw [pr_x, ps_h (by decide)]; exact h0
      rw [if_pos (show (37 : Int32) ≤ nI 37 by decide), em_lay3 hx hn, bv_k, show (0 : Int32) = nI 0 from rfl, ld_k hx (by decide) (by decide), sb_k, e0, st_k hx (by decide) (by decide), sb_k, pr_w]
      have e1 : ql8 (M x) = pu_u (pu_S (M x) n (pu_u (fun j => if j < 37 then nI 0 else pu_s (M x) n j) 3 48)) 0 (nI n + 1) := by
        unfold ql8
        rw [hk, h0]
        refine congrArg (fun R => pu_u R 0 (nI n + 1)) (ps_cong (fun j hj => ?_))
        unfold nl8 pu_u
        by_cases e : j = 3
        · rw [if_pos e, if_pos e]
        · rw [if_neg e, if_neg e]
          exact (if_pos hj).symm
      rw [e1]
      rfl
    | succ rem ih =>
      intro k m hk2 hm
      obtain ⟨m, rfl⟩ : ∃ q, m = q + 1 := ⟨m - 1, by omega⟩
      have e : pu_u (fun j => if j < k then 0 else pu_s (M x) n j) k 0 = fun j => if j < k + 1 then 0 else pu_s (M x) n j := by
        funext j
        unfold pu_u
        by_cases e : j = k
        · rw [if_pos e, if_pos (by omega)]
        · rw [if_neg e]
          show (if j < k then 0 else pu_s (M x) n j) = if j < k + 1 then 0 else pu_s (M x) n j
          by_cases e2 : j < k
          · rw [if_pos e2, if_pos (by omega)]
          · rw [if_neg e2, if_neg (by omega)]
      rw [fx_k]
      unfold f_X3_laneOn_b6
      rw [if_neg (show ¬ (37 : Int32) ≤ nI k from nI_ge (b := 37) (by omega) (by decide)), em_lay hx hn (by omega), bv_k, e, nI_1]
      exact ih (k + 1) m (by omega) (by omega)
  have h := hl 37 0 FU9 (by omega) (by unfold FU9; omega)
  have es : (fun j => if j < 0 then 0 else pu_s (M x) n j) = pu_s (M x) n := by
    funext j
    exact if_neg (by omega)
  rw [es, pS_s, pr_self] at h
  unfold f_X3_laneOn
  rw [show (0 : Int32) = nI 0 from rfl, ld_k hx (by decide) (by decide), sb_k, h0]
  exact h
theorem m_whyOf (hx : RW9 z x 10 121) (hR : RI8 (M x)) (hl : l < kn8 (M x)) : f_X3_whyOf z x (nI l) M = some (.inl (some (.int (rs9 (kc8 (M x) l) (pu_s (M x) l)))), M) := by
  have hI := hR.2.2.2 l hl
  have hn := hR.2.1
  have e5 : f_X3_of z x (nI l) 5 M = some (.inl (some (.int (pu_s (M x) l 5))), M) := m_of (j := 5) hx (by omega) (by decide)
  have e := em_reason (M := M) (x := x) (R := M x) (l := l) (p := pu_s (M x) l) hx (by omega) hI.1 hI.2.1 hI.2.2.2.2.2.2.2.1 (pV_Q hI.2.1 (by omega) hI.2.2.2.2.2.2.2.2.1)
  rw [pS_s, pr_self] at e
  unfold f_X3_whyOf
  rw [e5, bi_k]
  unfold rs9
  rcases hI.2.2.2.2.2.2.1 with q | q
  · rw [if_neg (by rw [q]; decide), if_pos q, e, bi_k]
    rfl
  · rw [if_pos q, if_neg (by rw [q]; decide)]
    rfl
theorem m_isVehicle {y w : Int32} (hx : RW9 z x 10 121) (hR : RI8 (M x)) (hl : l < kn8 (M x)) (hy : y = nI l) : f_X3_isVehicle z x y w M = some (.inl (some (.int (if 0 ≤ w.toInt ∧ w.toInt < (kc8 (M x) l : Int) then 1 else 0))), M) := by
  subst hy
  have hI := hR.2.2.2 l hl
  have hn := hR.2.1
  have h6 := hI.2.1
  have e0 : f_X3_of z x (nI l) 0 M = some (.inl (some (.int (pu_s (M x) l 0))), M) := m_of (j := 0) hx (by omega) (by decide)
  have e1 : (nI (kc8 (M x) l) - 1).toInt = (kc8 (M x) l : Int) - 1 := by
    rw [i32_sub (by rw [nI_toInt (by omega), i32_1]; omega) (by rw [nI_toInt (by omega), i32_1]; omega), nI_toInt (by omega), i32_1]
  have e2 : (0 : Int64).toInt = 0 := by decide
  unfold f_X3_isVehicle
  rw [m_lane1 hx hR hl, bi_k, if_neg (by decide), e0, bi_k, hI.1, em_in, bi_k, Int32.toInt_toInt64, Int32.toInt_toInt64, e1, e2]
  by_cases q : 0 ≤ w.toInt ∧ w.toInt < (kc8 (M x) l : Int)
  · rw [if_pos q, if_pos (show 0 ≤ w.toInt ∧ w.toInt ≤ (kc8 (M x) l : Int) - 1 by omega), if_neg (by decide), rz_1]
  · rw [if_neg q, if_neg (show ¬ (0 ≤ w.toInt ∧ w.toInt ≤ (kc8 (M x) l : Int) - 1) by omega), if_pos rfl, rz_0]
theorem m_noVehicle {y w : Int32} (hx : RW9 z x 10 121) (hR : RI8 (M x)) (hy : ¬ (0 ≤ y.toInt ∧ y.toInt < (kn8 (M x) : Int))) : f_X3_isVehicle z x y w M = some (.inl (some (.int 0)), M) := by
  unfold f_X3_isVehicle
  rw [m_lane0 hx hR hy, bi_k, if_pos rfl, rz_0]
theorem m_in {v a b : Int32} {a' b' : Int} {lo hi : Int64} (ha : lo.toInt = a') (hb : hi.toInt = b') : f_X3_in z (Int32.toInt64 v) lo hi M = some (.inl (some (.int (if a' ≤ v.toInt ∧ v.toInt ≤ b' then 1 else 0))), M) := by
  rw [em_in, Int32.toInt_toInt64, ha, hb]
theorem m_setting {y v : Int32} : f_X3_isSetting z y v M = some (.inl (some (.int (if se8 y v then 1 else 0))), M) := by
  have i1 : f_X3_in z (Int32.toInt64 v) 1 20 M = some (.inl (some (.int (if 1 ≤ v.toInt ∧ v.toInt ≤ 20 then 1 else 0))), M) := m_in (a := 0) (b := 0) (by decide) (by decide)
  have i2 : f_X3_in z (Int32.toInt64 v) 1 60 M = some (.inl (some (.int (if 1 ≤ v.toInt ∧ v.toInt ≤ 60 then 1 else 0))), M) := m_in (a := 0) (b := 0) (by decide) (by decide)
  have i3 : f_X3_in z (Int32.toInt64 v) 0 20 M = some (.inl (some (.int (if 0 ≤ v.toInt ∧ v.toInt ≤ 20 then 1 else 0))), M) := m_in (a := 0) (b := 0) (by decide) (by decide)
  have h33 : ¬ y = 0 → ¬ y = 1 → f_X3_isSetting_b33 z y v M = some (.inl (some (.int (if se8 y v then 1 else 0))), M) := by
    intro h0 h1
    unfold f_X3_isSetting_b33
    by_cases h2 : y = 2
    · rw [if_pos h2, i3, bi_k]
      by_cases q : 0 ≤ v.toInt ∧ v.toInt ≤ 20
      · rw [if_pos q, if_neg (by decide), rz_1, if_pos (Or.inr (Or.inr ⟨h2, q⟩))]
      · rw [if_neg q, if_pos rfl, rz_0, if_neg (fun e => e.elim (fun e => h0 e.1) (fun e => e.elim (fun e => h1 e.1) (fun e => q e.2)))]
    · rw [if_neg h2, rz_0, if_neg (fun e => e.elim (fun e => h0 e.1) (fun e => e.elim (fun e => h1 e.1) (fun e => h2 e.1)))]
  have h33n : ∀ u : Int32, ¬ u = 2 → f_X3_isSetting_b33 z u v M = some (.inl (some (.int 0)), M) := by
    intro u h2
    unfold f_X3_isSetting_b33
    rw [if_neg h2, rz_0]
  unfold f_X3_isSetting
  by_cases h0 : y = 0
  · rw [if_pos h0, i1, bi_k]
    by_cases q : 1 ≤ v.toInt ∧ v.toInt ≤ 20
    · rw [if_pos q, if_neg (by decide), rz_1, if_pos (Or.inl ⟨h0, q⟩)]
    · rw [if_neg q, if_pos rfl]
      unfold f_X3_isSetting_b16
      rw [if_neg (by rw [h0]; decide), h33n y (by rw [h0]; decide), if_neg (fun e => e.elim (fun e => q e.2) (fun e => e.elim (fun e => absurd (h0.symm.trans e.1) (by decide)) (fun e => absurd (h0.symm.trans e.1) (by decide))))]
  · rw [if_neg h0]
    unfold f_X3_isSetting_b16
    by_cases h1 : y = 1
    · rw [if_pos h1, i2, bi_k]
      by_cases q : 1 ≤ v.toInt ∧ v.toInt ≤ 60
      · rw [if_pos q, if_neg (by decide), rz_1, if_pos (Or.inr (Or.inl ⟨h1, q⟩))]
      · rw [if_neg q, if_pos rfl, h33n y (by rw [h1]; decide), if_neg (fun e => e.elim (fun e => h0 e.1) (fun e => e.elim (fun e => q e.2) (fun e => absurd (h1.symm.trans e.1) (by decide))))]
    · rw [if_neg h1]
      exact h33 h0 h1
end RH
