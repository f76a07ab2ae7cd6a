section TB
variable {c d k n l : Nat} {p q r m R Q Q' : Nat → Int32} {g0 g1 g2 : Int32}
/-! counting -/
def cn8 (P : Nat → Prop) [DecidablePred P] : Nat → Nat
  | 0 => 0
  | n + 1 => cn8 P n + if P n then 1 else 0
theorem cn_s {P : Nat → Prop} [DecidablePred P] : cn8 P (n + 1) = cn8 P n + if P n then 1 else 0 := rfl
theorem cn_cong {P S : Nat → Prop} [DecidablePred P] [DecidablePred S] (h : ∀ k, k < n → (P k ↔ S k)) : cn8 P n = cn8 S n := by
  induction n with
  | zero => rfl
  | succ n ih =>
    rw [cn_s, cn_s, ih (fun k hk => h k (by omega))]
    have e := h n (by omega)
    by_cases q : P n
    · rw [if_pos q, if_pos (e.mp q)]
    · rw [if_neg q, if_neg (fun x => q (e.mpr x))]
theorem cn_le {P : Nat → Prop} [DecidablePred P] : cn8 P n ≤ n := by
  induction n with
  | zero => exact Nat.le_refl _
  | succ n ih =>
    rw [cn_s]
    split <;> omega
theorem cn_pos {P : Nat → Prop} [DecidablePred P] (hk : k < n) (h : P k) : 1 ≤ cn8 P n := by
  induction n with
  | zero => omega
  | succ n ih =>
    rw [cn_s]
    by_cases e : k = n
    · subst e
      rw [if_pos h]
      omega
    · have := ih (by omega)
      omega
theorem cn_no {P : Nat → Prop} [DecidablePred P] (h : ∀ k, k < n → ¬ P k) : cn8 P n = 0 := by
  induction n with
  | zero => rfl
  | succ n ih => rw [cn_s, ih (fun k hk => h k (by omega)), if_neg (h n (by omega))]
theorem cn_tail {P : Nat → Prop} [DecidablePred P] : cn8 P (n + 1) = (if P 0 then 1 else 0) + cn8 (fun k => P (k + 1)) n := by
  induction n with
  | zero =>
    rw [cn_s]
    show 0 + (if P 0 then 1 else 0) = (if P 0 then 1 else 0) + 0
    omega
  | succ n ih =>
    rw [cn_s, ih, cn_s, Nat.add_assoc]
theorem cn_or {P S U : Nat → Prop} [DecidablePred P] [DecidablePred S] [DecidablePred U] (h : ∀ k, k < n → (U k ↔ P k ∨ S k)) (h2 : ∀ k, k < n → ¬ (P k ∧ S k)) : cn8 U n = cn8 P n + cn8 S n := by
  induction n with
  | zero => rfl
  | succ n ih =>
    rw [cn_s, cn_s, cn_s, ih (fun k hk => h k (by omega)) (fun k hk => h2 k (by omega))]
    have e := h n (by omega)
    have e2 := h2 n (by omega)
    by_cases q1 : P n
    · have q2 : ¬ S n := fun x => e2 ⟨q1, x⟩
      rw [if_pos (e.mpr (Or.inl q1)), if_pos q1, if_neg q2]
      omega
    · by_cases q2 : S n
      · rw [if_pos (e.mpr (Or.inr q2)), if_neg q1, if_pos q2]
        omega
      · rw [if_neg (fun x => (e.mp x).elim q1 q2), if_neg q1, if_neg q2]
        omega
/-- has gone through; goes through now -/
abbrev tu8 (p : Nat → Int32) (k : Nat) : Prop := 21 ≤ (la9' p k).toInt
abbrev tn8 (p : Nat → Int32) (k : Nat) : Prop := (la9' p k).toInt = 21
theorem mv_tail (hI : pu_I p c) (hk : k < c) : (20 ≤ (la9' p k).toInt → (la9' (mv9 p c) k).toInt = (la9' p k).toInt + 1) ∧ ((la9' p k).toInt ≤ 19 → (la9' (mv9 p c) k).toInt ≤ 20) := by
  obtain ⟨i0, i6, -, -, -, -, -, iB, iV, iZ⟩ := hI
  have e1 := pV_la i6 (T := 50) (by omega) iV hk
  have e2 := mv_la i6 (T := 50) (by omega) iV hk
  obtain ⟨a1, a2⟩ := mv_two i6 (T := 50) (by omega) iV hk
  have h2 := (iV k hk).1
  refine ⟨fun h => ?_, fun h => by omega⟩
  have := a2.mpr (mv_go i6 (T := 50) (by omega) iV k hk (by omega))
  omega
theorem thr_tick (hI : pu_I p c) : cn8 (tu8 (mo9 c p)) (cc9 c p) + (if ps9 c (mv9 p c) then 1 else 0) = cn8 (tu8 p) c + cn8 (tn8 (mo9 c p)) (cc9 c p) := by
  have hA : cn8 (tu8 (mv9 p c)) c = cn8 (tu8 p) c + cn8 (tn8 (mv9 p c)) c := cn_or (fun k hk => by
    obtain ⟨a1, a2⟩ := mv_tail hI hk
    constructor
    · intro h
      have h : 21 ≤ (la9' (mv9 p c) k).toInt := h
      by_cases e : 21 ≤ (la9' p k).toInt
      · exact Or.inl e
      · right
        show (la9' (mv9 p c) k).toInt = 21
        by_cases e2 : (la9' p k).toInt = 20
        · have := a1 (by omega); omega
        · have := a2 (by omega); omega
    · rintro (h | h)
      · have h : 21 ≤ (la9' p k).toInt := h
        show 21 ≤ (la9' (mv9 p c) k).toInt
        have := a1 (by omega); omega
      · have h : (la9' (mv9 p c) k).toInt = 21 := h
        show 21 ≤ (la9' (mv9 p c) k).toInt
        omega) (fun k hk => by
    rintro ⟨h1, h2⟩
    have h1 : 21 ≤ (la9' p k).toInt := h1
    have h2 : (la9' (mv9 p c) k).toInt = 21 := h2
    have := (mv_tail hI hk).1 (by omega)
    omega)
  unfold mo9 cc9
  by_cases q : ps9 c (mv9 p c)
  · rw [if_pos q, if_pos q, if_pos q]
    obtain ⟨n, rfl⟩ : ∃ n, c = n + 1 := ⟨c - 1, by have := q.1; omega⟩
    have q0 : 40 ≤ (la9' (mv9 p (n + 1)) 0).toInt := by
      have h := q.2
      rw [i32_le, show (39 : Int32).toInt = 39 by decide] at h
      omega
    rw [cn_tail, cn_tail (P := tn8 (mv9 p (n + 1))), if_pos (show tu8 (mv9 p (n + 1)) 0 by show 21 ≤ (la9' (mv9 p (n + 1)) 0).toInt; omega), if_neg (show ¬ tn8 (mv9 p (n + 1)) 0 by show ¬ (la9' (mv9 p (n + 1)) 0).toInt = 21; omega)] at hA
    have e1 : cn8 (tu8 (dr9 (n + 1) (mv9 p (n + 1)))) (n + 1 - 1) = cn8 (fun k => tu8 (mv9 p (n + 1)) (k + 1)) n := cn_cong (fun k hk => by show (21 ≤ (la9' (dr9 (n + 1) (mv9 p (n + 1))) k).toInt) ↔ _; rw [dr_la (by omega)])
    have e2 : cn8 (tn8 (dr9 (n + 1) (mv9 p (n + 1)))) (n + 1 - 1) = cn8 (fun k => tn8 (mv9 p (n + 1)) (k + 1)) n := cn_cong (fun k hk => by show ((la9' (dr9 (n + 1) (mv9 p (n + 1))) k).toInt = 21) ↔ _; rw [dr_la (by omega)])
    rw [e1, e2]
    omega
  · rw [if_neg q, if_neg q, if_neg q]
    exact hA
/-- nothing but step 1 moves a vehicle -/
theorem tk_fr : fr9 (tk9 c g0 g1 g2 p) k = fr9 (mo9 c p) k := by
  unfold tk9 fr9
  rw [th_o (by omega), hi_o (by omega), t3_o (by omega) (by omega), ct_far (by omega) (by omega) (fun _ => by omega)]
theorem tk_ln : ln9 (tk9 c g0 g1 g2 p) k = ln9 (mo9 c p) k := by
  unfold tk9 ln9
  rw [th_o (by omega), hi_o (by omega), t3_o (by omega) (by omega), ct_far (by omega) (by omega) (fun _ => by omega)]
theorem tk_la : la9' (tk9 c g0 g1 g2 p) k = la9' (mo9 c p) k := by
  unfold la9'
  rw [tk_fr, tk_ln]
/-! the totals in a tick of a lane -/
theorem tR_cn : ∃ e s, e + s = cn8 (tn8 p) n ∧ tR9 p R n 3 = R 3 + nI e ∧ tR9 p R n 4 = R 4 + nI s := by
  induction n with
  | zero => exact ⟨0, 0, rfl, (Int32.add_zero _).symm, (Int32.add_zero _).symm⟩
  | succ n ih =>
    obtain ⟨e, s, h1, h2, h3⟩ := ih
    have el : la9' (th9 p n) n = la9' p n := by
      unfold la9' fr9 ln9
      rw [th_o (by omega), th_o (by omega)]
    rw [tR_s, el, cn_s]
    by_cases q : la9' p n = 21
    · have q2 : tn8 p n := by show (la9' p n).toInt = 21; rw [q]; decide
      rw [if_pos q, if_pos q2]
      by_cases q3 : le9' (th9 p n) n = 0
      · rw [if_pos q3]
        refine ⟨e, s + 1, by omega, (pu_u_ne (by decide)).trans h2, ?_⟩
        rw [pu_u_eq, h3, Int32.add_assoc, nI_1]
      · rw [if_neg q3]
        refine ⟨e + 1, s, by omega, ?_, (pu_u_ne (by decide)).trans h3⟩
        rw [pu_u_eq, h2, Int32.add_assoc, nI_1]
    · have q2 : ¬ tn8 p n := fun x => q (i32_eq.mpr (by rw [i32_21]; exact x))
      rw [if_neg q, if_neg q2]
      exact ⟨e, s, by omega, h2, h3⟩
theorem pR_cn : ∃ e s, e + s = cn8 (tn8 (mo9 c p)) (cc9 c p) ∧ pR9 c p R 3 = R 3 + nI e ∧ pR9 c p R 4 = R 4 + nI s := by
  obtain ⟨e, s, h1, h2, h3⟩ := tR_cn (p := hi9 (cc9 c p) (t3 (cc9 c p) (ct9 (cc9 c p) (R 7) (R 8) (R 9) (mo9 c p)))) (R := hR9 (cc9 c p) (t3 (cc9 c p) (ct9 (cc9 c p) (R 7) (R 8) (R 9) (mo9 c p))) (cR9 (cc9 c p) (mo9 c p) (mR9 c p R))) (n := cc9 c p)
  rw [hR_o (by decide), cR_o (by decide), mR_o (by decide)] at h2 h3
  refine ⟨e, s, h1.trans (cn_cong (fun k hk => ?_)), h2, h3⟩
  show ((la9' (hi9 (cc9 c p) (t3 (cc9 c p) (ct9 (cc9 c p) (R 7) (R 8) (R 9) (mo9 c p)))) k).toInt = 21) ↔ ((la9' (mo9 c p) k).toInt = 21)
  have el : la9' (hi9 (cc9 c p) (t3 (cc9 c p) (ct9 (cc9 c p) (R 7) (R 8) (R 9) (mo9 c p)))) k = la9' (mo9 c p) k := by
    unfold la9' fr9 ln9
    rw [hi_o (by omega), t3_o (by omega) (by omega), ct_far (by omega) (by omega) (fun _ => by omega), hi_o (by omega), t3_o (by omega) (by omega), ct_far (by omega) (by omega) (fun _ => by omega)]
  rw [el]
theorem pR_2 : pR9 c p R 2 = R 2 + nI (if ps9 c (mv9 p c) then 1 else 0) := by
  unfold pR9
  rw [tR_o (by decide) (by decide), hR_o (by decide), cR_o (by decide)]
  unfold mR9
  by_cases q : ps9 c (mv9 p c)
  · rw [if_pos q, if_pos q, pu_u_eq]
    rfl
  · rw [if_neg q, if_neg q]
    exact (Int32.add_zero _).symm
theorem pR_5 : pR9 c p R 5 = R 5 + nI (if hp9 (cc9 c p) (t3 (cc9 c p) (ct9 (cc9 c p) (R 7) (R 8) (R 9) (mo9 c p))) then 1 else 0) := by
  unfold pR9
  rw [tR_o (by decide) (by decide)]
  unfold hR9
  by_cases q : hp9 (cc9 c p) (t3 (cc9 c p) (ct9 (cc9 c p) (R 7) (R 8) (R 9) (mo9 c p)))
  · rw [if_pos q, if_pos q, pu_u_eq, cR_o (by decide), mR_o (by decide)]
    rfl
  · rw [if_neg q, if_neg q, cR_o (by decide), mR_o (by decide)]
    exact (Int32.add_zero _).symm
/-! sums over the lanes -/
def sn8 (f : Nat → Nat) : Nat → Nat
  | 0 => 0
  | n + 1 => sn8 f n + f n
theorem sn_s {f : Nat → Nat} : sn8 f (n + 1) = sn8 f n + f n := rfl
theorem sn_cong {f h : Nat → Nat} (e : ∀ l, l < n → f l = h l) : sn8 f n = sn8 h n := by
  induction n with
  | zero => rfl
  | succ n ih => rw [sn_s, sn_s, ih (fun l hl => e l (by omega)), e n (by omega)]
theorem sn_up {f h : Nat → Nat} (hl : l < n) (e : ∀ j, j < n → j ≠ l → h j = f j) : sn8 h n + f l = sn8 f n + h l := by
  induction n with
  | zero => omega
  | succ n ih =>
    rw [sn_s, sn_s]
    by_cases q : l = n
    · subst q
      have e2 : sn8 h l = sn8 f l := sn_cong (fun j hj => e j (by omega) (by omega))
      omega
    · have h1 := ih (by omega) (fun j hj hne => e j (by omega) hne)
      have h2 := e n (by omega) (fun x => q x.symm)
      omega
theorem sn_le {f : Nat → Nat} {b : Nat} (e : ∀ l, l < n → f l ≤ b) : sn8 f n ≤ b * n := by
  induction n with
  | zero => exact Nat.zero_le _
  | succ n ih =>
    rw [sn_s, Nat.mul_succ]
    have := ih (fun l hl => e l (by omega))
    have := e n (by omega)
    omega
abbrev br8 (v : Int32) : Nat := if v = 0 then 0 else 1
def TH8 (Q : Nat → Int32) : Nat := sn8 (fun l => cn8 (tu8 (pu_s Q l)) (kc8 Q l)) (kn8 Q)
def BR8 (Q : Nat → Int32) : Nat := sn8 (fun l => br8 (pu_s Q l 5)) (kn8 Q)
/-- the totals as numbers: passed, let through, slipped, hits -/
def T9 (Q : Nat → Int32) (u e s h : Nat) : Prop := Q 2 = nI u ∧ Q 3 = nI e ∧ Q 4 = nI s ∧ Q 5 = nI h ∧ u + TH8 Q = e + s ∧ BR8 Q ≤ h
theorem la_37 {a b : Nat → Int32} (hk : k < 6) (h : ∀ j, j < 37 → a j = b j) : la9' a k = la9' b k := by
  unfold la9' fr9 ln9
  rw [h _ (by omega), h _ (by omega)]
/-- a row that is another in lane l alone -/
theorem TH_up (hn : kn8 Q' = kn8 Q) (hl : l < kn8 Q) (ho : ∀ l' j, l' < 3 → l' ≠ l → j < 37 → pu_s Q' l' j = pu_s Q l' j) (h3 : kn8 Q ≤ 3) (h6 : ∀ l', l' < kn8 Q → kc8 Q l' ≤ 6) : TH8 Q' + cn8 (tu8 (pu_s Q l)) (kc8 Q l) = TH8 Q + cn8 (tu8 (pu_s Q' l)) (kc8 Q' l) := by
  unfold TH8
  rw [hn]
  refine sn_up (f := fun l => cn8 (tu8 (pu_s Q l)) (kc8 Q l)) (h := fun l => cn8 (tu8 (pu_s Q' l)) (kc8 Q' l)) hl (fun j hj hne => ?_)
  have ek : kc8 Q' j = kc8 Q j := by
    have := ho j 0 (by omega) hne (by decide)
    unfold kc8
    rw [show 10 + 37 * j = 10 + 37 * j + 0 from rfl]
    exact congrArg Int32.toNatClampNeg this
  show cn8 (tu8 (pu_s Q' j)) (kc8 Q' j) = cn8 (tu8 (pu_s Q j)) (kc8 Q j)
  rw [ek]
  have := h6 j hj
  exact cn_cong (fun k hk => by
    show (21 ≤ (la9' (pu_s Q' j) k).toInt) ↔ (21 ≤ (la9' (pu_s Q j) k).toInt)
    rw [la_37 (by omega) (fun i hi => ho j i (by omega) hne hi)])
theorem BR_up (hn : kn8 Q' = kn8 Q) (hl : l < kn8 Q) (ho : ∀ l' j, l' < 3 → l' ≠ l → j < 37 → pu_s Q' l' j = pu_s Q l' j) (h3 : kn8 Q ≤ 3) : BR8 Q' + br8 (pu_s Q l 5) = BR8 Q + br8 (pu_s Q' l 5) := by
  unfold BR8
  rw [hn]
  refine sn_up (f := fun l => br8 (pu_s Q l 5)) (h := fun l => br8 (pu_s Q' l 5)) hl (fun j hj hne => ?_)
  show br8 (pu_s Q' j 5) = br8 (pu_s Q j 5)
  rw [ho j 5 (by omega) hne (by decide)]
theorem tl_T {u e s h : Nat} (hR : RI8 Q) (hl : l < kn8 Q) (hT : T9 Q u e s h) : ∃ u' e' s' h', T9 (tl9 (kc8 Q l) l Q) u' e' s' h' ∧ u' ≤ u + 1 ∧ h' ≤ h + 1 ∧ e ≤ e' ∧ s ≤ s' ∧ e' + s' = e + s + cn8 (tn8 (mo9 (kc8 Q l) (pu_s Q l))) (cc9 (kc8 Q l) (pu_s Q l)) := by
  obtain ⟨t1, t2, t3', t4, t5, t6⟩ := hT
  have hI := hR.2.2.2 l hl
  have hn3 := hR.2.1
  obtain ⟨gg, hg, h9⟩ := hR.2.2.1
  have hI2 := pI_tick (g0 := Q 7) (g1 := Q 8) hg hI
  rw [← h9] at hI2
  have ekc : kc8 (tl9 (kc8 Q l) l Q) l = cc9 (kc8 Q l) (pu_s Q l) := kc_of (pI_cong (fun j hj => tl_l hj) hI2)
  obtain ⟨e1, s1, a1, a2, a3⟩ := pR_cn (c := kc8 Q l) (p := pu_s Q l) (R := Q)
  have ej : ∀ j, j < 10 → tl9 (kc8 Q l) l Q j = pR9 (kc8 Q l) (pu_s Q l) Q j := fun j hj => ps_h hj
  have hup := TH_up (Q' := tl9 (kc8 Q l) l Q) tl_kn hl (fun l' j _ hne hj => tl_o hne hj) hn3 (fun l' hl' => (hR.2.2.2 l' hl').2.1)
  have hbp := BR_up (Q' := tl9 (kc8 Q l) l Q) tl_kn hl (fun l' j _ hne hj => tl_o hne hj) hn3
  have hth := thr_tick hI
  have et : cn8 (tu8 (pu_s (tl9 (kc8 Q l) l Q) l)) (kc8 (tl9 (kc8 Q l) l Q) l) = cn8 (tu8 (mo9 (kc8 Q l) (pu_s Q l))) (cc9 (kc8 Q l) (pu_s Q l)) := by
    rw [ekc]
    have h6 : cc9 (kc8 Q l) (pu_s Q l) ≤ 6 := Nat.le_trans cc_le hI.2.1
    refine cn_cong (fun k hk => ?_)
    show (21 ≤ (la9' (pu_s (tl9 (kc8 Q l) l Q) l) k).toInt) ↔ (21 ≤ (la9' (mo9 (kc8 Q l) (pu_s Q l)) k).toInt)
    rw [la_37 (b := tk9 (kc8 Q l) (Q 7) (Q 8) (Q 9) (pu_s Q l)) (by omega) (fun j hj => tl_l hj), tk_la]
  rw [et] at hup
  have e5 : pu_s (tl9 (kc8 Q l) l Q) l 5 = tk9 (kc8 Q l) (Q 7) (Q 8) (Q 9) (pu_s Q l) 5 := tl_l (by decide)
  rw [e5, tk_5h] at hbp
  refine ⟨u + (if ps9 (kc8 Q l) (mv9 (pu_s Q l) (kc8 Q l)) then 1 else 0), e + e1, s + s1, h + (if hp9 (cc9 (kc8 Q l) (pu_s Q l)) (t3 (cc9 (kc8 Q l) (pu_s Q l)) (ct9 (cc9 (kc8 Q l) (pu_s Q l)) (Q 7) (Q 8) (Q 9) (mo9 (kc8 Q l) (pu_s Q l)))) then 1 else 0), ⟨?_, ?_, ?_, ?_, ?_, ?_⟩, ?_, ?_, by omega, by omega, by omega⟩
  · rw [ej 2 (by decide), pR_2, t1, nI_add]
  · rw [ej 3 (by decide), a2, t2, nI_add]
  · rw [ej 4 (by decide), a3, t3', nI_add]
  · rw [ej 5 (by decide), pR_5, t4, nI_add]
  · omega
  · by_cases q : hp9 (cc9 (kc8 Q l) (pu_s Q l)) (t3 (cc9 (kc8 Q l) (pu_s Q l)) (ct9 (cc9 (kc8 Q l) (pu_s Q l)) (Q 7) (Q 8) (Q 9) (mo9 (kc8 Q l) (pu_s Q l))))
    · rw [if_pos q] at hbp ⊢
      have hb1 : br8 (1 : Int32) = 1 := by decide
      rw [hb1] at hbp
      omega
    · rw [if_neg q] at hbp ⊢
      omega
  · split <;> omega
  · split <;> omega
theorem tF_T {cs : Nat → Nat} : ∀ rem l Q u e s h, l + rem = kn8 Q → RI8 Q → (∀ l', l ≤ l' → l' < kn8 Q → kc8 Q l' = cs l') → T9 Q u e s h → ∃ u' e' s' h', T9 (tF9 cs rem l Q) u' e' s' h' ∧ u' ≤ u + rem ∧ h' ≤ h + rem ∧ e ≤ e' ∧ s ≤ s' ∧ ∀ l0, l ≤ l0 → l0 < l + rem → e + s + cn8 (tn8 (mo9 (cs l0) (pu_s Q l0))) (cc9 (cs l0) (pu_s Q l0)) ≤ e' + s' := by
  intro rem
  induction rem with
  | zero => intro l Q u e s h _ _ _ hT; exact ⟨u, e, s, h, hT, by omega, by omega, by omega, by omega, fun l0 h1 h2 => by omega⟩
  | succ rem ih =>
    intro l Q u e s h hl hR hc hT
    have hlk : l < kn8 Q := by omega
    obtain ⟨u1, e1, s1, h1, hT1, b1, b2, b3, b4, b5⟩ := tl_T hR hlk hT
    have hR1 := ri_tl hR hlk
    rw [hc l (Nat.le_refl _) hlk] at hT1 b5 hR1
    obtain ⟨u2, e2, s2, h2, hT2, c1, c2, c3, c4, c5⟩ := ih (l + 1) (tl9 (cs l) l Q) u1 e1 s1 h1 (by rw [tl_kn]; omega) hR1 (fun l' a1 a2 => by rw [tl_kn] at a2; rw [tl_kc (by omega)]; exact hc l' (by omega) a2) hT1
    refine ⟨u2, e2, s2, h2, hT2, by omega, by omega, by omega, by omega, fun l0 a1 a2 => ?_⟩
    by_cases q : l0 = l
    · subst q; omega
    · have h3 := c5 l0 (by omega) (by omega)
      have hA : pu_A (pu_s (tl9 (cs l) l Q) l0) (pu_s Q l0) (cs l0) := pA_37 (by rw [← hc l0 (by omega) (by omega)]; exact (hR.2.2.2 l0 (by omega)).2.1) (fun j hj => tl_o q hj)
      obtain ⟨m1, m2⟩ := A_mo hA
      have e9 : cn8 (tn8 (mo9 (cs l0) (pu_s (tl9 (cs l) l Q) l0))) (cc9 (cs l0) (pu_s (tl9 (cs l) l Q) l0)) = cn8 (tn8 (mo9 (cs l0) (pu_s Q l0))) (cc9 (cs l0) (pu_s Q l0)) := by
        rw [← m1]
        refine cn_cong (fun k hk => ?_)
        show ((la9' (mo9 (cs l0) (pu_s (tl9 (cs l) l Q) l0)) k).toInt = 21) ↔ ((la9' (mo9 (cs l0) (pu_s Q l0)) k).toInt = 21)
        rw [A_la m2 hk]
      rw [e9] at h3
      omega
theorem T9_row {u e s h : Nat} (hR : RI8 Q) (f : ∀ i, i < 121 → i ≠ 1 → Q' i = Q i) (hT : T9 Q u e s h) : T9 Q' u e s h := by
  obtain ⟨t1, t2, t3', t4, t5, t6⟩ := hT
  obtain ⟨hR', hn, hc⟩ := ri_row hR f
  have hn3 := hR.2.1
  have es : ∀ l j, l < 3 → j < 37 → pu_s Q' l j = pu_s Q l j := fun l j hl hj => f _ (by omega) (by omega)
  have eT : TH8 Q' = TH8 Q := by
    unfold TH8
    rw [hn]
    refine sn_cong (fun l hl => ?_)
    rw [hc l (by omega)]
    have h6 := (hR.2.2.2 l hl).2.1
    exact cn_cong (fun k hk => by
      show (21 ≤ (la9' (pu_s Q' l) k).toInt) ↔ (21 ≤ (la9' (pu_s Q l) k).toInt)
      rw [la_37 (by omega) (fun i hi => es l i (by omega) hi)])
  have eB : BR8 Q' = BR8 Q := by
    unfold BR8
    rw [hn]
    exact sn_cong (fun l hl => by rw [es l 5 (by omega) (by decide)])
  exact ⟨(f 2 (by omega) (by omega)).trans t1, (f 3 (by omega) (by omega)).trans t2, (f 4 (by omega) (by omega)).trans t3', (f 5 (by omega) (by omega)).trans t4, by rw [eT]; exact t5, by rw [eB]; exact t6⟩
theorem tq_T {u e s h : Nat} (hR : RI8 Q) (hT : T9 Q u e s h) : ∃ u' e' s' h', T9 (tq8 Q) u' e' s' h' ∧ u' ≤ u + 3 ∧ h' ≤ h + 3 ∧ e ≤ e' ∧ s ≤ s' ∧ ∀ l0, l0 < kn8 Q → e + s + cn8 (tn8 (mo9 (kc8 Q l0) (pu_s Q l0))) (cc9 (kc8 Q l0) (pu_s Q l0)) ≤ e' + s' := by
  have hn3 := hR.2.1
  obtain ⟨u1, e1, s1, h1, hT1, b1, b2, b3, b4, b5⟩ := tF_T (cs := kc8 Q) (kn8 Q) 0 Q u e s h (by omega) hR (fun _ _ _ => rfl) hT
  have hR1 := ri_tF (cs := kc8 Q) (kn8 Q) 0 Q (by omega) hR (fun _ _ _ => rfl)
  exact ⟨u1, e1, s1, h1, T9_row hR1 (fun i _ h1 => pu_u_ne h1) hT1, by omega, by omega, b3, b4, fun l0 hl0 => b5 l0 (by omega) (by omega)⟩
theorem T9_S {p : Nat → Int32} {c' u e s h : Nat} (hR : RI8 Q) (hl : l < kn8 Q) (hI : pu_I p c') (ht : cn8 (tu8 p) c' = cn8 (tu8 (pu_s Q l)) (kc8 Q l)) (hb : br8 (p 5) ≤ br8 (pu_s Q l 5)) (hT : T9 Q u e s h) : T9 (pu_S Q l p) u e s h := by
  obtain ⟨t1, t2, t3', t4, t5, t6⟩ := hT
  have hn := (ri_S hR hl hI).2
  have hn3 := hR.2.1
  have ekc : kc8 (pu_S Q l p) l = c' := kc_of (pI_cong (fun j hj => ps_l hj) hI)
  have hup := TH_up (Q' := pu_S Q l p) hn hl (fun l' j _ hne hj => ps_n hne hj) hn3 (fun l' hl' => (hR.2.2.2 l' hl').2.1)
  have hbp := BR_up (Q' := pu_S Q l p) hn hl (fun l' j _ hne hj => ps_n hne hj) hn3
  have et : cn8 (tu8 (pu_s (pu_S Q l p) l)) (kc8 (pu_S Q l p) l) = cn8 (tu8 p) c' := by
    rw [ekc]
    have h6 := hI.2.1
    refine cn_cong (fun k hk => ?_)
    show (21 ≤ (la9' (pu_s (pu_S Q l p) l) k).toInt) ↔ (21 ≤ (la9' p k).toInt)
    rw [la_37 (b := p) (by omega) (fun j hj => ps_l hj)]
  rw [et, ht] at hup
  rw [show pu_s (pu_S Q l p) l 5 = p 5 from ps_l (by decide)] at hbp
  exact ⟨(ps_h (by decide)).trans t1, (ps_h (by decide)).trans t2, (ps_h (by decide)).trans t3', (ps_h (by decide)).trans t4, by omega, by omega⟩
theorem T9_ql {u e s h : Nat} (hR : RI8 Q) (hn : kn8 Q < 3) (hT : T9 Q u e s h) : T9 (ql8 Q) u e s h := by
  obtain ⟨t1, t2, t3', t4, t5, t6⟩ := hT
  have hk := (ri_ql hR hn).2
  have e0 : ∀ j, j < 37 → pu_s (ql8 Q) (kn8 Q) j = nl8 j := fun j hj => by
    unfold ql8 pu_s
    rw [pu_u_ne (by omega), ps_i hj]
  have e1 : ∀ l j, l < kn8 Q → j < 37 → pu_s (ql8 Q) l j = pu_s Q l j := fun l j hl hj => by
    unfold ql8 pu_s
    rw [pu_u_ne (by omega)]
    exact if_neg (by omega)
  have ej : ∀ j, 1 ≤ j → j < 10 → ql8 Q j = Q j := fun j h1 hj => by
    unfold ql8
    rw [pu_u_ne (by omega), ps_h hj]
  have ek0 : kc8 (ql8 Q) (kn8 Q) = 0 := kc_of (pI_cong e0 nl_I)
  have ek : ∀ l, l < kn8 Q → kc8 (ql8 Q) l = kc8 Q l := fun l hl => by
    unfold kc8
    exact congrArg Int32.toNatClampNeg (e1 l 0 hl (by decide))
  have eT : TH8 (ql8 Q) = TH8 Q := by
    unfold TH8
    rw [hk, sn_s, ek0]
    show sn8 _ (kn8 Q) + 0 = _
    rw [Nat.add_zero]
    refine sn_cong (fun l hl => ?_)
    rw [ek l hl]
    have h6 := (hR.2.2.2 l hl).2.1
    exact cn_cong (fun k hk => by
      show (21 ≤ (la9' (pu_s (ql8 Q) l) k).toInt) ↔ (21 ≤ (la9' (pu_s Q l) k).toInt)
      rw [la_37 (by omega) (fun i hi => e1 l i hl hi)])
  have eB : BR8 (ql8 Q) = BR8 Q := by
    unfold BR8
    rw [hk, sn_s, e0 5 (by decide)]
    show sn8 _ (kn8 Q) + 0 = _
    rw [Nat.add_zero]
    exact sn_cong (fun l hl => by rw [e1 l 5 hl (by decide)])
  exact ⟨(ej 2 (by omega) (by omega)).trans t1, (ej 3 (by omega) (by omega)).trans t2, (ej 4 (by omega) (by omega)).trans t3', (ej 5 (by omega) (by omega)).trans t4, by rw [eT]; exact t5, by rw [eB]; exact t6⟩
end TB
