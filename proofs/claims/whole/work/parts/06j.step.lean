section QE
variable {z : Sh9} {x l c : Nat} {M : Mem9} {R p : Nat → Int32}
theorem mR_o {j : Nat} (h : j ≠ 2) : mR9 c p R j = R j := by
  unfold mR9
  split
  · exact pu_u_ne h
  · rfl
/-- the totals after a lane's tick -/
def pR9 (c : Nat) (p R : Nat → Int32) : Nat → Int32 := tR9 (hi9 (cc9 c p) (t3 (cc9 c p) (ct9 (cc9 c p) (R 7) (R 8) (R 9) (mo9 c p)))) (hR9 (cc9 c p) (t3 (cc9 c p) (ct9 (cc9 c p) (R 7) (R 8) (R 9) (mo9 c p))) (cR9 (cc9 c p) (mo9 c p) (mR9 c p R))) (cc9 c p)
/-- the arm is up after step 3 -/
def up9 (c : Nat) (p R : Nat → Int32) : Int32 := if t3 (cc9 c p) (ct9 (cc9 c p) (R 7) (R 8) (R 9) (mo9 c p)) 1 = 4 then 1 else 0
theorem em_step {x0 n g : Nat} {u : Nat → Int32} {G : Nat → Nat → Int32 → Mem9 → Re9} (ho : RW9 z x0 3 0) (hm : RW9 z (x0 + 7) 11 6) (hx : RW9 z x 10 121) (hne : x0 + 7 ≠ x) (hne2 : x0 ≠ x) (hR0 : R 0 = nI n) (hln : l < n) (hn : n ≤ 3) (hg : g ≤ 20) (hset : R 9 = nI g) (hI : pu_I p c) :
    f_X3_tickOn_b2 z G x0 x (nI l) (pu_R (pu_R M (x0 + 7) u) x (pu_S R l p)) = G x0 x (nI l + 1) (pu_R (pu_R (wr9 M x0 10 (M x0 10 + up9 c p R)) (x0 + 7) (mu9 c p u)) x (pu_S (pR9 c p R) l (tk9 c (R 7) (R 8) (R 9) p))) := by
  have hl : l < 3 := by omega
  have hI2 := pI_ct (g0 := R 7) (g1 := R 8) hg hI
  rw [← hset] at hI2
  obtain ⟨i0, i6, ⟨h, h1, h2⟩, ⟨q, q1, q2⟩, ⟨w, w1, w2⟩, i4, i5, iB, iV, iZ⟩ := hI
  have e0 : ∀ N, ld9 z (pu_R N x (pu_S R l p)) 10 x (0 : Int32) = some (R 0) := fun N => (ld_k (k := 0) hx (by decide) (by decide)).trans (by rw [pr_x, ps_h (by decide)])
  have hmu := mu_go (u := u) i6 iV
  have hd0 : mo9 c p 0 = nI (cc9 c p) := mo_0 i0
  have hd6 : cc9 c p ≤ 6 := Nat.le_trans cc_le i6
  have mB := mo_B iB
  unfold f_X3_tickOn_b2
  rw [e0, sb_k, hR0, if_neg (nI_ge hln (by omega)), iv_k ho, em_moveAll ho hm hx hne hl i0 i6, bv_k, em_check hx hl hd0 hd6 mB, bv_k, mR_o (by decide), mR_o (by decide), mR_o (by decide)]
  unfold pR9 tk9 up9
  generalize mR9 c p R = R1
  generalize mu9 c p u = u1 at hmu ⊢
  generalize hdd : cc9 c p = d at hI2 hmu hd0 hd6 mB ⊢
  generalize hmm : mo9 c p = m at hI2 hmu hd0 mB ⊢
  have hfr : ∀ k, la9' (ct9 d (R 7) (R 8) (R 9) m) k = la9' m k := fun k => by
    unfold la9' fr9 ln9
    rw [ct_far (by omega) (by omega) (fun _ => by omega), ct_far (by omega) (by omega) (fun _ => by omega)]
  generalize ct9 d (R 7) (R 8) (R 9) m = y at hI2 hfr ⊢
  obtain ⟨j0, j6, ⟨h', j1, j2⟩, ⟨q', k1, k2⟩, -, -, j5, jB, jV, -⟩ := hI2
  have jQ := pV_Q j6 (by omega) jV
  rw [em_turnArm hx hl j0 j6 jB jQ j5 j2 j1 k2 (by omega), bv_k, gf_k ho, sb_k, pr_o hne2, pr_o (show x0 ≠ x0 + 7 by omega), em_of1 hx hl, bi_k]
  have t0 : t3 d y 0 = nI d := (t3_o (by decide) (by decide)).trans j0
  have hgo : ∀ k, k < d → la9' (hi9 d (t3 d y)) k = 21 → u1 k = 1 := by
    intro k hk e
    have e2 : la9' (hi9 d (t3 d y)) k = la9' m k := by
      rw [← hfr k]
      unfold la9' fr9 ln9
      rw [hi_o (by omega), hi_o (by omega), t3_o (by omega) (by omega), t3_o (by omega) (by omega)]
    refine hmu k hk ?_
    rw [← e2, e]
    decide
  have hB2 : pu_B (hi9 d (t3 d y)) d := fun k hk => by
    have e1 : lo9 (hi9 d (t3 d y)) k = lo9 y k := by unfold lo9; rw [hi_o (by omega), t3_o (by omega) (by omega)]
    have e2 : fo9 (hi9 d (t3 d y)) k = fo9 y k := by unfold fo9; rw [hi_o (by omega), t3_o (by omega) (by omega)]
    have e3 : le9' (hi9 d (t3 d y)) k = le9' y k := by unfold le9'; rw [hi_o (by omega), t3_o (by omega) (by omega)]
    rw [e1, e2, e3]
    exact jB k hk
  have e45 : ∀ v : Int32, f_X3_tickOn_b45 z G x0 x (nI l) v (M x0 10) x0 (pu_R (pu_R M (x0 + 7) u1) x (pu_S (cR9 d m R1) l (t3 d y))) = G x0 x (nI l + 1) (pu_R (pu_R (wr9 M x0 10 (M x0 10 + v)) (x0 + 7) u1) x (pu_S (tR9 (hi9 d (t3 d y)) (hR9 d (t3 d y) (cR9 d m R1)) d) l (th9 (hi9 d (t3 d y)) d))) := by
    intro v
    unfold f_X3_tickOn_b45
    rw [pf_k ho, sb_k, pr_wo hne2, pr_wo (show x0 ≠ x0 + 7 by omega), em_hit hx hl t0 hd6, bv_k, iv_k ho, em_goThrough ho hm hx hne hl ((hi_o (by decide)).trans t0) hd6 hB2 hgo, bv_k]
  by_cases e : t3 d y 1 = 4
  · rw [if_pos e, if_pos e, e45]
  · rw [if_neg e, if_neg e, e45]
end QE
