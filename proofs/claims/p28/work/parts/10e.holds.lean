section UE
variable {z : Sh9} {M M0 M1 : Mem9} {b k l w n c B T : Nat} {s t : St8} {x1 x2 x3 x4 y v : Int32} {Post : Mem9 → Prop} {p : Nat → Int32} {R : Nat → Int32 → Int32 → Int32 → Int32 → Int32 → Int32 → Mem9 → Re9}
theorem rs_4 : rs9 c p = 4 ↔ ¬ p 5 = 0 := by
  unfold rs9
  by_cases q : p 5 = 0
  · rw [if_pos q]
    refine ⟨fun h => ?_, fun h => absurd q h⟩
    exfalso
    by_cases q1 : (fs9 (lw9 p) c 0).isSome = true
    · rw [if_pos q1] at h; exact absurd h (by decide)
    · rw [if_neg q1] at h
      by_cases q2 : p 4 = 0 ∧ (fs9 (cv9 p) c 0).isSome = true
      · rw [if_pos q2] at h; exact absurd h (by decide)
      · rw [if_neg q2] at h
        by_cases q3 : p 2 ≤ 0
        · rw [if_pos q3] at h; exact absurd h (by decide)
        · rw [if_neg q3] at h; exact absurd h (by decide)
  · rw [if_neg q]
    exact ⟨fun _ => q, fun _ => rfl⟩
theorem rs_3 (h : rs9 c p = 3) : ¬ p 2 ≤ 0 := by
  unfold rs9 at h
  by_cases q : p 5 = 0
  · rw [if_pos q] at h
    by_cases q1 : (fs9 (lw9 p) c 0).isSome = true
    · rw [if_pos q1] at h; exact absurd h (by decide)
    · rw [if_neg q1] at h
      by_cases q2 : p 4 = 0 ∧ (fs9 (cv9 p) c 0).isSome = true
      · rw [if_pos q2] at h; exact absurd h (by decide)
      · rw [if_neg q2] at h
        by_cases q3 : p 2 ≤ 0
        · rw [if_pos q3] at h; exact absurd h (by decide)
        · exact q3
  · rw [if_neg q] at h; exact absurd h (by decide)
theorem rs_2 (h : rs9 c p = 2) : p 4 = 0 := by
  unfold rs9 at h
  by_cases q : p 5 = 0
  · rw [if_pos q] at h
    by_cases q1 : (fs9 (lw9 p) c 0).isSome = true
    · rw [if_pos q1] at h; exact absurd h (by decide)
    · rw [if_neg q1] at h
      by_cases q2 : p 4 = 0 ∧ (fs9 (cv9 p) c 0).isSome = true
      · exact q2.1
      · rw [if_neg q2] at h
        by_cases q3 : p 2 ≤ 0
        · rw [if_pos q3] at h; exact absurd h (by decide)
        · rw [if_neg q3] at h; exact absurd h (by decide)
  · rw [if_neg q] at h; exact absurd h (by decide)
theorem la_39 (hI : pu_I p c) : ∀ k, k < c → (la9' p k).toInt ≤ 39 := by
  obtain ⟨i0, i6, -, -, -, -, -, iB, iV, iZ⟩ := hI
  intro k
  induction k with
  | zero => intro hk; exact iZ hk
  | succ k ih =>
    intro hk
    have h1 := (iV (k + 1) hk).2.2.2.2 (by omega)
    rw [Nat.add_sub_cancel] at h1
    have h2 := pV_la i6 (T := 50) (by omega) iV hk
    have h3 := (iV (k + 1) hk).1
    have := ih (by omega)
    omega
/-! one lane: behind its vehicles -/
theorem hd_448 (hz : HZ8 z b) (hB : B < 1000000000) (hR : RI8 s.1) (hl : l < kn8 s.1) (hr : ∀ M, OB8 M b s B → F8 M0 M (b + 23) 21 → RT8 (R b x1 x2 x3 x4 1 (nI l + 1) M) 1 Post) (h : OB8 M b s B) (hf : F8 M0 M (b + 23) 21) : RT8 (f_L_holds_b448 z R b x1 x2 x3 x4 (nI l) (nI (kc8 s.1 l)) M) 1 Post := by
  have h6 := (hR.2.2.2 l hl).2.1
  unfold f_L_holds_b448
  refine s_q (u_empty hl) hz hB h hf (fun M h hf => ?_)
  by_cases q : kc8 s.1 l = 0
  · have e : le8 (s.1 7) (s.1 8) (s.1 9) 401 0 (kc8 s.1 l) (pu_s s.1 l) = 0 := by
      rw [show (401 : Nat) = 400 + 1 from rfl, le_s, if_pos q]
      rfl
    rw [if_pos e]
    unfold f_L_holds_b466
    rw [q, if_pos (show nI 0 = 0 from rfl)]
    unfold f_L_holds_b476
    rw [if_pos rfl]
    exact hr M h hf
  · have e : ¬ le8 (s.1 7) (s.1 8) (s.1 9) 401 0 (kc8 s.1 l) (pu_s s.1 l) = 0 := fun e => by
      rw [show (401 : Nat) = 400 + 1 from rfl, le_s, if_neg q] at e
      rcases le_ge (g0 := s.1 7) (g1 := s.1 8) (g2 := s.1 9) 400 (0 + 1) (cc9 (kc8 s.1 l) (pu_s s.1 l)) (tk9 (kc8 s.1 l) (s.1 7) (s.1 8) (s.1 9) (pu_s s.1 l)) with h1 | ⟨k, h2, h3, h4⟩
      · rw [h1] at e
        exact absurd e (by decide)
      · rw [h4] at e
        exact nI_ne0 (by omega) (by omega) e
    rw [if_neg e]
    unfold f_L_holds_b466
    rw [if_neg (nI_ne0 (by omega) (by omega))]
    unfold f_L_holds_b476
    rw [if_pos rfl]
    exact hr M h hf
theorem hd_430 (hz : HZ8 z b) (hB : B < 1000000000) (hR : RI8 s.1) (hl : l < kn8 s.1) (hr : ∀ M, OB8 M b s B → F8 M0 M (b + 23) 21 → RT8 (R b x1 x2 x3 x4 1 (nI l + 1) M) 1 Post) (h : OB8 M b s B) (hf : F8 M0 M (b + 23) 21) : RT8 (f_L_holds_b430 z R b x1 x2 x3 x4 (nI l) (nI (kc8 s.1 l)) (rs9 (kc8 s.1 l) (pu_s s.1 l)) M) 1 Post := by
  unfold f_L_holds_b430
  by_cases q : rs9 (kc8 s.1 l) (pu_s s.1 l) = 2
  · rw [if_pos q]
    refine s_q (u_lane (w := 4) hl (by omega)) hz hB h hf (fun M h hf => ?_)
    have e : nu8 s.1 l 4 = 0 := rs_2 (p := pu_s s.1 l) q
    rw [if_pos e]
    exact hd_448 hz hB hR hl hr h hf
  · rw [if_neg q]
    exact hd_448 hz hB hR hl hr h hf
theorem hd_391 (hz : HZ8 z b) (hB : B < 1000000000) (hR : RI8 s.1) (hl : l < kn8 s.1) (hr : ∀ M, OB8 M b s B → F8 M0 M (b + 23) 21 → RT8 (R b x1 x2 x3 x4 1 (nI l + 1) M) 1 Post) (h : OB8 M b s B) (hf : F8 M0 M (b + 23) 21) (hv : v = if rs9 (kc8 s.1 l) (pu_s s.1 l) = 4 then 1 else 0) : RT8 (f_L_holds_b391 z R b x1 x2 x3 x4 (nI l) (nI (kc8 s.1 l)) (rs9 (kc8 s.1 l) (pu_s s.1 l)) v M) 1 Post := by
  have h5 := (hR.2.2.2 l hl).2.2.2.2.2.2.1
  have go : ∀ M, OB8 M b s B → F8 M0 M (b + 23) 21 → ∀ u : Int32, RT8 (f_L_holds_b409 z R b x1 x2 x3 x4 (nI l) (nI (kc8 s.1 l)) (rs9 (kc8 s.1 l) (pu_s s.1 l)) u u M) 1 Post := fun M h hf u => by
    unfold f_L_holds_b409
    rw [if_pos rfl]
    by_cases q : rs9 (kc8 s.1 l) (pu_s s.1 l) = 3
    · rw [if_pos q]
      refine s_q (u_lane (w := 2) hl (by omega)) hz hB h hf (fun M h hf => ?_)
      have e : ¬ nu8 s.1 l 2 ≤ 0 := rs_3 (p := pu_s s.1 l) q
      rw [if_neg e]
      exact hd_430 hz hB hR hl hr h hf
    · rw [if_neg q]
      exact hd_430 hz hB hR hl hr h hf
  unfold f_L_holds_b391
  refine s_q (u_lane (w := 5) hl (by omega)) hz hB h hf (fun M h hf => ?_)
  have e5 : nu8 s.1 l 5 = pu_s s.1 l 5 := rfl
  rw [e5]
  rcases h5 with q | q
  · have hv2 : v = 0 := by rw [hv, if_neg (fun e => rs_4.mp e q)]
    rw [if_neg (by rw [q]; decide), hv2]
    exact go M h hf 0
  · have hv2 : v = 1 := by rw [hv, if_pos (rs_4.mpr (by rw [q]; decide))]
    rw [if_pos q, hv2]
    exact go M h hf 1
theorem hd_332 {u : Int32} (hz : HZ8 z b) (hB : B < 1000000000) (hR : RI8 s.1) (hJ : J8 (pu_s s.1 l) (kc8 s.1 l)) (hl : l < kn8 s.1) (hr : ∀ M, OB8 M b s B → F8 M0 M (b + 23) 21 → RT8 (R b x1 x2 x3 x4 1 (nI l + 1) M) 1 Post) (h : OB8 M b s B) (hf : F8 M0 M (b + 23) 21) (hu0 : (u = 1 ∧ ∃ k, k < kc8 s.1 l ∧ ck9 (pu_s s.1 l) k) ∨ (u = 0 ∧ ¬ ∃ k, k < kc8 s.1 l ∧ ck9 (pu_s s.1 l) k)) : RT8 (f_L_holds_b332 z R b x1 x2 x3 x4 1 (nI l) (nI (kc8 s.1 l)) u M) 1 Post := by
  have go : ∀ M, OB8 M b s B → F8 M0 M (b + 23) 21 → ∀ u : Int32, RT8 (f_L_holds_b377 z R b x1 x2 x3 x4 (nI l) (nI (kc8 s.1 l)) (rs9 (kc8 s.1 l) (pu_s s.1 l)) u u M) 1 Post := fun M h hf u => by
    unfold f_L_holds_b377
    rw [if_pos rfl]
    by_cases q : rs9 (kc8 s.1 l) (pu_s s.1 l) = 4
    · rw [if_pos q]
      exact hd_391 hz hB hR hl hr h hf (by rw [if_pos q])
    · rw [if_neg q]
      exact hd_391 hz hB hR hl hr h hf (by rw [if_neg q])
  obtain ⟨-, ⟨q, q1, q2, q3⟩, -⟩ := hJ
  unfold f_L_holds_b332
  refine s_q (u_why hl) hz hB h hf (fun M h hf => ?_)
  rw [if_neg (by decide)]
  refine s_q (u_lane (w := 6) hl (by omega)) hz hB h hf (fun M h hf => ?_)
  have e6 : nu8 s.1 l 6 = nI q := q2
  rw [e6]
  rcases hu0 with ⟨hu, hx⟩ | ⟨hu, hx⟩
  · have hq : q ≠ 0 := q3.mpr hx
    rw [if_neg (nI_nle (by omega) (by omega)), hu]
    unfold f_L_holds_b366
    rw [if_pos rfl]
    exact go M h hf 1
  · have hq : q = 0 := Decidable.byContradiction (fun e => hx (q3.mp e))
    rw [hq, if_pos (show nI 0 ≤ 0 by decide), hu]
    unfold f_L_holds_b366
    rw [if_neg (by decide)]
    exact go M h hf 0
/-! one lane: its vehicles -/
theorem hd_237 {wall at' : Int32} {R2 : Nat → Int32 → Int32 → Int32 → Int32 → Int32 → Int32 → Int32 → Int32 → Int32 → Int32 → Mem9 → Re9} (hz : HZ8 z b) (hB : B < 1000000000) (hR : RI8 s.1) (hJ : J8 (pu_s s.1 l) (kc8 s.1 l)) (hl : l < kn8 s.1) (hk : k < kc8 s.1 l) (hw : (fr9 (pu_s s.1 l) k).toInt < wall.toInt) (hr : ∀ M, OB8 M b s B → F8 M0 M (b + 23) 21 → RT8 (R2 b x1 x2 x3 x4 1 (nI l) (nI (kc8 s.1 l)) (la9' (pu_s s.1 l) k) at' (nI k + 1) M) 1 Post) (h : OB8 M b s B) (hf : F8 M0 M (b + 23) 21) : RT8 (f_L_holds_b237 z R R2 b x1 x2 x3 x4 (nI l) (nI (kc8 s.1 l)) wall (nI k) (ln9 (pu_s s.1 l) k) (fr9 (pu_s s.1 l) k) (le9' (pu_s s.1 l) k) at' M) 1 Post := by
  have hI := hR.2.2.2 l hl
  have h39 := la_39 hI k hk
  obtain ⟨i0, i6, -, -, -, -, -, iB, iV, iZ⟩ := hI
  obtain ⟨a1, a2, -, -, -⟩ := iV k hk
  obtain ⟨b1, b2, b3⟩ := iB k hk
  obtain ⟨j1, j2⟩ := hJ.2.2 k hk
  have i12' : (12 : Int32).toInt = 12 := by decide
  have i39 : (39 : Int32).toInt = 39 := by decide
  have end1 : ∀ M, OB8 M b s B → F8 M0 M (b + 23) 21 → RT8 (f_L_holds_b310 z R R2 b x1 x2 x3 x4 (nI l) (nI (kc8 s.1 l)) at' (nI k) (ln9 (pu_s s.1 l) k) (fr9 (pu_s s.1 l) k) M) 1 Post := fun M h hf => by
    unfold f_L_holds_b310 f_L_holds_b315
    rw [nm_k]
    exact hr M h hf
  have e283 : RT8 (f_L_holds_b283 z R R2 b x1 x2 x3 x4 (nI l) (nI (kc8 s.1 l)) at' (nI k) (ln9 (pu_s s.1 l) k) (fr9 (pu_s s.1 l) k) (le9' (pu_s s.1 l) k) M) 1 Post := by
    unfold f_L_holds_b283
    by_cases q : fr9 (pu_s s.1 l) k < 20
    · rw [if_pos q]
      exact end1 M h hf
    · rw [if_neg q]
      by_cases q1 : le9' (pu_s s.1 l) k = 1
      · rw [if_pos q1]
        exact end1 M h hf
      · rw [if_neg q1]
        refine s_q (u_veh (w := 3) hl hk (by omega)) hz hB h hf (fun M h hf => ?_)
        have e3 : pu_s s.1 l (7 + 5 * k + 3) = 1 := by
          rcases j2 (by rw [i32_lt, i32_20] at q; omega) with e | e
          · exact absurd e q1
          · exact e
        rw [if_pos e3]
        exact end1 M h hf
  unfold f_L_holds_b237
  rw [if_neg (by rw [i32_le]; omega), if_neg (by rw [i32_lt, i39]; show ¬ 39 < (la9' (pu_s s.1 l) k).toInt; omega), if_neg (by rw [i32_lt, i32_2]; omega), if_neg (by rw [i32_lt, i12']; omega)]
  by_cases q : le9' (pu_s s.1 l) k = 0
  · rw [if_pos q]
    exact e283
  · rw [if_neg q, if_neg (by rw [i32_lt, i32_19]; have := j1 ((b9_ne b3).mp q); omega)]
    exact e283
/-- what the front must be less than, ahead of vehicle k -/
def wa8 (p : Nat → Int32) (k : Nat) : Int32 := if k = 0 then 1000 else la9' p (k - 1)
theorem hd_in (hz : HZ8 z b) (hB : B < 1000000000) (hR : RI8 s.1) (hJ : J8 (pu_s s.1 l) (kc8 s.1 l)) (hl : l < kn8 s.1) (hr : ∀ M, OB8 M b s B → F8 M0 M (b + 23) 21 → RT8 (R b x1 x2 x3 x4 1 (nI l + 1) M) 1 Post) : ∀ rem k m M u, k + rem = kc8 s.1 l → rem < m → ((u = 1 ∧ ∃ j, j < k ∧ ck9 (pu_s s.1 l) j) ∨ (u = 0 ∧ ¬ ∃ j, j < k ∧ ck9 (pu_s s.1 l) j)) → OB8 M b s B → F8 M0 M (b + 23) 21 → RT8 (fx9 (fun _ _ _ _ _ _ _ _ _ _ _ _ => none) (f_L_holds_b171 z R) m b x1 x2 x3 x4 1 (nI l) (nI (kc8 s.1 l)) (wa8 (pu_s s.1 l) k) u (nI k) M) 1 Post := by
  have hI := hR.2.2.2 l hl
  have h6 := hI.2.1
  have hV := hI.2.2.2.2.2.2.2.2.1
  intro rem
  induction rem with
  | zero =>
    intro k m M u hk hm hu h hf
    obtain ⟨m, rfl⟩ : ∃ q, m = q + 1 := ⟨m - 1, by omega⟩
    have hk : k = kc8 s.1 l := by omega
    subst hk
    rw [fx_k]
    unfold f_L_holds_b171
    rw [if_pos (nI_le (Nat.le_refl _) (by omega))]
    exact hd_332 hz hB hR hJ hl hr h hf hu
  | succ rem ih =>
    intro k m M u hk hm hu h hf
    obtain ⟨m, rfl⟩ : ∃ q, m = q + 1 := ⟨m - 1, by omega⟩
    have hkc : k < kc8 s.1 l := by omega
    have hw : (fr9 (pu_s s.1 l) k).toInt < (wa8 (pu_s s.1 l) k).toInt := by
      unfold wa8
      by_cases q : k = 0
      · rw [if_pos q, show (1000 : Int32).toInt = 1000 by decide]
        have := (hV k hkc).2.2.2.1
        omega
      · rw [if_neg q]
        exact ((hV k hkc).2.2.2.2 (by omega)).1
    have hwn : wa8 (pu_s s.1 l) (k + 1) = la9' (pu_s s.1 l) k := if_neg (by omega)
    rw [fx_k]
    unfold f_L_holds_b171
    rw [if_neg (nI_ge hkc (by omega)), if_neg (by decide)]
    refine s_q (u_veh (w := 0) hl hkc (by omega)) hz hB h hf (fun M h hf => ?_)
    refine s_q (u_veh (w := 1) hl hkc (by omega)) hz hB h hf (fun M h hf => ?_)
    refine s_q (u_veh (w := 4) hl hkc (by omega)) hz hB h hf (fun M h hf => ?_)
    have go : ∀ u', ((u' = 1 ∧ ∃ j, j < k + 1 ∧ ck9 (pu_s s.1 l) j) ∨ (u' = 0 ∧ ¬ ∃ j, j < k + 1 ∧ ck9 (pu_s s.1 l) j)) → RT8 (f_L_holds_b237 z R (fx9 (fun _ _ _ _ _ _ _ _ _ _ _ _ => none) (f_L_holds_b171 z R) m) b x1 x2 x3 x4 (nI l) (nI (kc8 s.1 l)) (wa8 (pu_s s.1 l) k) (nI k) (ln9 (pu_s s.1 l) k) (fr9 (pu_s s.1 l) k) (le9' (pu_s s.1 l) k) u' M) 1 Post := fun u' hu' => by
      refine hd_237 hz hB hR hJ hl hkc hw (fun M h hf => ?_) h hf
      rw [nI_1, ← hwn]
      exact ih (k + 1) m M u' (by omega) (by omega) hu' h hf
    have keep : ¬ ck9 (pu_s s.1 l) k → ((u = 1 ∧ ∃ j, j < k + 1 ∧ ck9 (pu_s s.1 l) j) ∨ (u = 0 ∧ ¬ ∃ j, j < k + 1 ∧ ck9 (pu_s s.1 l) j)) := fun hn => by
      rcases hu with ⟨e, j, h1, h2⟩ | ⟨e, h1⟩
      · exact Or.inl ⟨e, j, by omega, h2⟩
      · refine Or.inr ⟨e, ?_⟩
        rintro ⟨j, h2, h3⟩
        by_cases q : j = k
        · subst q; exact hn h3
        · exact h1 ⟨j, by omega, h3⟩
    show RT8 (if fr9 (pu_s s.1 l) k = 19 then (if le9' (pu_s s.1 l) k = 0 then _ else _) else _) 1 Post
    by_cases q1 : fr9 (pu_s s.1 l) k = 19
    · rw [if_pos q1]
      by_cases q2 : le9' (pu_s s.1 l) k = 0
      · rw [if_pos q2]
        exact go 1 (Or.inl ⟨rfl, k, by omega, q1, q2⟩)
      · rw [if_neg q2]
        exact go u (keep (fun e => q2 e.2))
    · rw [if_neg q1]
      exact go u (keep (fun e => q1 e.1))
/-! the end, and all lanes -/
theorem sm_sn {f : Nat → Int32} {g : Nat → Nat} (e : ∀ l, l < n → f l = nI (g l)) : SM8 f n = nI (sn8 g n) := by
  induction n with
  | zero => rfl
  | succ n ih => rw [sm_s, sn_s, ih (fun l hl => e l (by omega)), e n (by omega), nI_add]
theorem br_of (h : b9 v) : v = nI (br8 v) := by
  rcases h with q | q
  · rw [q]; rfl
  · rw [q]; rfl
theorem hd_492 (hz : HZ8 z b) (hB : B < 1000000000) (hG : RG8 s.1 T) (hT : T ≤ 100000000) (h : OB8 M b s B) (hf : F8 M0 M (b + 23) 21) : RT8 (f_L_holds_b492 z b (SM8 (fun l => pu_s s.1 l 0) (kn8 s.1)) (SM8 (fun l => pu_s s.1 l 5) (kn8 s.1)) (SM8 (fun l => pu_s s.1 l 4) (kn8 s.1)) 1 M) 1 (fun M' => F8 M0 M' (b + 23) 21) := by
  obtain ⟨hR, -, -, t, u, e, s', w, t1, t2, ⟨a1, a2, a3, a4, a5, a6⟩, t4, t5⟩ := hG
  have hth := TH_le hR
  unfold f_L_holds_b492
  rw [if_neg (by decide)]
  refine s_q (u_about (w := 2) (by omega)) hz hB h hf (fun M h hf => ?_)
  rw [if_pos (show aw8 s.1 2 = SM8 (fun l => pu_s s.1 l 0) (kn8 s.1) from rfl)]
  refine s_q (u_about (w := 7) (by omega)) hz hB h hf (fun M h hf => ?_)
  rw [if_pos (show aw8 s.1 7 = SM8 (fun l => pu_s s.1 l 5) (kn8 s.1) from rfl)]
  refine s_q (u_about (w := 8) (by omega)) hz hB h hf (fun M h hf => ?_)
  rw [if_pos (show aw8 s.1 8 = SM8 (fun l => pu_s s.1 l 4) (kn8 s.1) from rfl)]
  refine s_q (u_about (w := 3) (by omega)) hz hB h hf (fun M h hf => ?_)
  refine s_q (u_about (w := 4) (by omega)) hz hB h hf (fun M h hf => ?_)
  refine s_q (u_about (w := 5) (by omega)) hz hB h hf (fun M h hf => ?_)
  have e3 : aw8 s.1 3 = nI u := a1
  have e4 : aw8 s.1 4 = nI e := a2
  have e5 : aw8 s.1 5 = nI s' := a3
  have e6 : aw8 s.1 6 = nI w := a4
  have eb : SM8 (fun l => pu_s s.1 l 5) (kn8 s.1) = nI (BR8 s.1) := sm_sn (fun l hl => br_of (hR.2.2.2 l hl).2.2.2.2.2.2.1)
  rw [e3, e4, e5, nI_add, if_neg (nI_nlt (by omega) (by omega))]
  refine s_q (u_about (w := 6) (by omega)) hz hB h hf (fun M h hf => ?_)
  rw [e6, eb, if_neg (nI_nlt a6 (by omega))]
  exact rt_1 hf
theorem hd_out (hz : HZ8 z b) (hB : B < 1000000000) (hG : RG8 s.1 T) (hT : T ≤ 100000000) : ∀ rem l m M, l + rem = kn8 s.1 → rem < m → OB8 M b s B → F8 M0 M (b + 23) 21 → RT8 (fx9 (fun _ _ _ _ _ _ _ _ => none) (f_L_holds_b31 z) m b (nI (kn8 s.1)) (SM8 (fun l => pu_s s.1 l 0) l) (SM8 (fun l => pu_s s.1 l 5) l) (SM8 (fun l => pu_s s.1 l 4) l) 1 (nI l) M) 1 (fun M' => F8 M0 M' (b + 23) 21) := by
  have hR := hG.1
  have hn3 := hR.2.1
  have i96 : (96 : Int32).toInt = 96 := by decide
  intro rem
  induction rem with
  | zero =>
    intro l m M hl hm h hf
    obtain ⟨m, rfl⟩ : ∃ q, m = q + 1 := ⟨m - 1, by omega⟩
    have hl : l = kn8 s.1 := by omega
    subst hl
    rw [fx_k]
    unfold f_L_holds_b31
    rw [if_pos (nI_le (Nat.le_refl _) (by omega))]
    exact hd_492 hz hB hG hT h hf
  | succ rem ih =>
    intro l m M hl hm h hf
    obtain ⟨m, rfl⟩ : ∃ q, m = q + 1 := ⟨m - 1, by omega⟩
    have hlk : l < kn8 s.1 := by omega
    have hI := hR.2.2.2 l hlk
    have hJ := hG.2.1 l hlk
    obtain ⟨i0, i6, ⟨h', h1, h2⟩, ⟨q', q1, q2⟩, -, -, -, -, -, -⟩ := id hI
    obtain ⟨⟨w', w1, w2, w3⟩, -, -⟩ := id hJ
    rw [fx_k]
    unfold f_L_holds_b31
    rw [if_neg (nI_ge hlk (by omega)), if_neg (by decide)]
    refine s_q (u_lane (w := 0) hlk (by omega)) hz hB h hf (fun M h hf => ?_)
    refine s_q (u_lane (w := 1) hlk (by omega)) hz hB h hf (fun M h hf => ?_)
    rw [nm_k]
    refine s_q (u_lane (w := 5) hlk (by omega)) hz hB h hf (fun M h hf => ?_)
    rw [nm_k]
    refine s_q (u_lane (w := 4) hlk (by omega)) hz hB h hf (fun M h hf => ?_)
    rw [nm_k]
    have e0 : nu8 s.1 l 0 = nI (kc8 s.1 l) := i0
    have e1 : nu8 s.1 l 1 = nI h' := h2
    have e2 : nu8 s.1 l 2 = nI q' := q2
    have e3 : nu8 s.1 l 3 = nI w' := w3
    have s0 : SM8 (fun l => pu_s s.1 l 0) l + nu8 s.1 l 0 = SM8 (fun l => pu_s s.1 l 0) (l + 1) := rfl
    have s5 : SM8 (fun l => pu_s s.1 l 5) l + nu8 s.1 l 5 = SM8 (fun l => pu_s s.1 l 5) (l + 1) := rfl
    have s4 : SM8 (fun l => pu_s s.1 l 4) l + nu8 s.1 l 4 = SM8 (fun l => pu_s s.1 l 4) (l + 1) := rfl
    rw [s0, s5, s4, e0, e1, if_neg (show ¬ (6 : Int32) < nI (kc8 s.1 l) from nI_nlt (a := 6) i6 (by omega)), if_neg (nI_pos (by omega)), if_neg (show ¬ (4 : Int32) < nI h' from nI_nlt (a := 4) h1 (by omega))]
    refine s_q (u_lane (w := 2) hlk (by omega)) hz hB h hf (fun M h hf => ?_)
    rw [e2, if_neg (nI_pos (by omega))]
    refine s_q (u_lane (w := 3) hlk (by omega)) hz hB h hf (fun M h hf => ?_)
    rw [e3, if_neg (show ¬ nI w' < (16 : Int32) from nI_nlt (b := 16) w1 (by omega))]
    refine s_q (u_lane (w := 3) hlk (by omega)) hz hB h hf (fun M h hf => ?_)
    rw [e3, if_neg (show ¬ (96 : Int32) < nI w' from nI_nlt (a := 96) w2 (by omega))]
    unfold f_L_holds_b166
    refine hd_in hz hB hR hJ hlk (fun M h hf => ?_) (kc8 s.1 l) 0 26 M 0 (by omega) (by omega) (Or.inr ⟨rfl, fun ⟨j, h1, _⟩ => absurd h1 (Nat.not_lt_zero j)⟩) h hf
    rw [nI_1]
    exact ih (l + 1) m M (by omega) (by omega) h hf
theorem u_holds (hG : SG8 s T) (hT : T ≤ 100000000) : QU8 z (fun b M => f_L_holds z b M) s 1 := qu_of (fun b M B hz hB h => by
  have hR := hG.1.1
  have hn3 := hR.2.1
  have e0 : aw8 s.1 0 = nI (kn8 s.1) := hR.1
  show RT8 (f_L_holds z b M) 1 _
  unfold f_L_holds f_L_holds_b0
  refine s_q (u_about (w := 0) (by omega)) hz hB h f8_refl (fun M1 h1 f1 => ?_)
  rw [e0, if_neg (show ¬ (3 : Int32) < nI (kn8 s.1) from nI_nlt (a := 3) hn3 (by omega))]
  unfold f_L_holds_b26
  exact hd_out hz hB hG.1 hT (kn8 s.1) 0 26 M1 (by omega) (by omega) h1 f1)
end UE
