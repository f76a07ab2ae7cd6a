/-! ===== the pure part: rows, and reading and writing by number ===== -/
/-- a cell of that kind -/
def RW9 (z : Sh9) (a t n : Nat) : Prop := z.1 ≤ a ∧ a < z.1 + z.2.1 ∧ z.2.2 (a - z.1) = (t, n)
section PU
variable {z : Sh9} {M : Mem9} {a t n k off : Nat} {v : Int32}
theorem ok_O (h : RW9 z a t n) : okO9 z a t := ⟨h.1, h.2.1, by rw [h.2.2]⟩
theorem gf_k (h : RW9 z a t n) : gf9 z M a t k = some (M a k) := if_pos (ok_O h)
theorem rf_k (h : RW9 z a t n) : rf9 z a t off = some (a + off) := if_pos (ok_O h)
theorem pf_k (h : RW9 z a t n) : pf9 z M a t k v = some (wr9 M a k v) := if_pos (ok_O h)
theorem pz_k (h : RW9 z a t n) (hv : b9 v) : pz9 z M a t k v = some (wr9 M a k v) := if_pos ⟨ok_O h, hv⟩
theorem iv_k {r : Re9} (h : RW9 z a t n) : iv9 z a t r = r := if_pos (ok_O h)
theorem ok_A (h : RW9 z a t n) (hk : k < n) (hn : n < 2147483648) : okA9 z a t (nI k) := by
  refine ⟨h.1, h.2.1, by rw [h.2.2], ?_, ?_⟩
  · rw [nI_toInt (by omega)]; omega
  · rw [nI_toInt (by omega), h.2.2]; show (k : Int) < (n : Int); omega
theorem ld_k (h : RW9 z a t n) (hk : k < n) (hn : n < 2147483648) : ld9 z M t a (nI k) = some (M a k) := by
  unfold ld9
  rw [if_pos (ok_A h hk hn), nI_clamp (by omega)]
theorem la_k (h : RW9 z a t n) (hk : k < n) (hn : n < 2147483648) : la9 z t a (nI k) = some (el9 t a k) := by
  unfold la9
  rw [if_pos (ok_A h hk hn), nI_clamp (by omega)]
theorem st_k (h : RW9 z a 10 n) (hk : k < n) (hn : n < 2147483648) : st9 z M a (nI k) v = some (wr9 M a k v) := by
  unfold st9
  rw [if_pos (ok_A h hk hn), nI_clamp (by omega)]
theorem sz_k (h : RW9 z a 11 n) (hk : k < n) (hn : n < 2147483648) (hv : b9 v) : sz9 z M a (nI k) v = some (wr9 M a k v) := by
  unfold sz9
  rw [if_pos ⟨ok_A h hk hn, hv⟩, nI_clamp (by omega)]
theorem sl_k (h : RW9 z a 13 n) (hk : k < n) (hn : n < 2147483648) : sl9 z M a (nI k) v = some (wr9 M a k v) := by
  unfold sl9
  rw [if_pos (ok_A h hk hn), nI_clamp (by omega)]
theorem bi_k {K : Int32 → Mem9 → Re9} : bi9 (some (.inl (some (.int v)), M)) K = K v M := rfl
theorem bn_k {K : Int32 → Mem9 → Re9} : bn9 (some (.inl (some (.int v)), M)) K = K v M := rfl
theorem bv_k {K : Mem9 → Re9} : bv9 (some (.inl none, M)) K = K M := rfl
theorem sb_k {α β : Type} {x : α} {K : α → Option β} : (some x).bind K = K x := rfl
theorem fx_k {α : Type} {bot : α} {F : α → α} : fx9 bot F (n + 1) = F (fx9 bot F n) := rfl
theorem wr_eq : wr9 M a k v a k = v := by rw [wr9_eq]; exact if_pos rfl
theorem wr_nk {j : Nat} (h : j ≠ k) : wr9 M a k v a j = M a j := by rw [wr9_eq]; exact if_neg h
theorem wr_na {b j : Nat} (h : b ≠ a) : wr9 M a k v b j = M b j := by rw [wr9_ne h]
theorem int_or (c : Prop) [Decidable c] : b9 (if c then (1 : Int32) else 0) := by
  by_cases h : c
  · exact Or.inr (if_pos h)
  · exact Or.inl (if_neg h)
theorem b9_ne {x : Int32} (h : b9 x) : x ≠ 0 ↔ x = 1 := by
  rcases h with h | h <;> subst h <;> decide
/-- a lane's cells -/
def pu_L (z : Sh9) (b : Nat) : Prop := RW9 z b 1 0 ∧ RW9 z (b + 1) 10 6 ∧ RW9 z (b + 2) 10 6 ∧ RW9 z (b + 3) 11 6 ∧ RW9 z (b + 4) 11 6 ∧ RW9 z (b + 5) 11 6
/-- a lane as a row of 37 numbers, as the other side keeps it -/
def vc9 (M : Mem9) (b : Nat) : Nat → Int32 := fun j =>
  if j = 0 then M b 5 else if j = 1 then M b 6 else if j = 2 then M b 7 else if j = 3 then M b 8 else if j = 4 then M b 10 else if j = 5 then M b 11 else if j = 6 then M b 9
  else M (b + 1 + (j - 7) % 5) ((j - 7) / 5)
theorem vc_v {b i k : Nat} (hi : i < 5) : vc9 M b (7 + 5 * k + i) = M (b + 1 + i) k := by
  unfold vc9
  rw [if_neg (by omega), if_neg (by omega), if_neg (by omega), if_neg (by omega), if_neg (by omega), if_neg (by omega), if_neg (by omega), show (7 + 5 * k + i - 7) % 5 = i by omega, show (7 + 5 * k + i - 7) / 5 = k by omega]
/-! what a lane does, on a row -/
def ln9 (r : Nat → Int32) (k : Nat) : Int32 := r (7 + 5 * k + 0)
def fr9 (r : Nat → Int32) (k : Nat) : Int32 := r (7 + 5 * k + 1)
def lo9 (r : Nat → Int32) (k : Nat) : Int32 := r (7 + 5 * k + 2)
def fo9 (r : Nat → Int32) (k : Nat) : Int32 := r (7 + 5 * k + 3)
def le9' (r : Nat → Int32) (k : Nat) : Int32 := r (7 + 5 * k + 4)
def la9' (r : Nat → Int32) (k : Nat) : Int32 := fr9 r k - ln9 r k + 1
abbrev cm9 (r : Nat → Int32) (k : Nat) : Prop := (k = 0 ∨ fr9 r k + 2 ≤ la9' r (k - 1)) ∧ (fr9 r k = 19 → r 1 = 4 ∧ (le9' r k = 1 ∨ fo9 r k = 1))
theorem vc_ln {b k : Nat} : ln9 (vc9 M b) k = M (b + 1) k := vc_v (by omega)
theorem vc_fr {b k : Nat} : fr9 (vc9 M b) k = M (b + 2) k := vc_v (by omega)
theorem vc_lo {b k : Nat} : lo9 (vc9 M b) k = M (b + 3) k := vc_v (by omega)
theorem vc_fo {b k : Nat} : fo9 (vc9 M b) k = M (b + 4) k := vc_v (by omega)
theorem vc_le {b k : Nat} : le9' (vc9 M b) k = M (b + 5) k := vc_v (by omega)
theorem vc_la {b k : Nat} : la9' (vc9 M b) k = M (b + 2) k - M (b + 1) k + 1 := by
  unfold la9'
  rw [vc_fr, vc_ln]
/-- a lane's row and its five counters, laid into a memory -/
def pu_W (M : Mem9) (b : Nat) (r t : Nat → Int32) : Mem9 := fun a k =>
  if a = b then (if k = 5 then r 0 else if k = 6 then r 1 else if k = 7 then r 2 else if k = 8 then r 3 else if k = 10 then r 4 else if k = 11 then r 5 else if k = 9 then r 6 else if 12 ≤ k ∧ k ≤ 16 then t (k - 12) else M b k)
  else if b < a ∧ a ≤ b + 5 then r (7 + 5 * k + (a - b - 1)) else M a k
def pu_u (r : Nat → Int32) (j : Nat) (v : Int32) : Nat → Int32 := fun i => if i = j then v else r i
theorem pu_u_eq {r : Nat → Int32} {j : Nat} {v : Int32} : pu_u r j v j = v := if_pos rfl
theorem pu_u_ne {r : Nat → Int32} {i j : Nat} {v : Int32} (h : i ≠ j) : pu_u r j v i = r i := if_neg h
section PW
variable {b j : Nat} {r s : Nat → Int32}
theorem pw_5 : pu_W M b r s b 5 = r 0 := by unfold pu_W; rw [if_pos rfl]; rfl
theorem pw_6 : pu_W M b r s b 6 = r 1 := by unfold pu_W; rw [if_pos rfl]; rfl
theorem pw_7 : pu_W M b r s b 7 = r 2 := by unfold pu_W; rw [if_pos rfl]; rfl
theorem pw_8 : pu_W M b r s b 8 = r 3 := by unfold pu_W; rw [if_pos rfl]; rfl
theorem pw_10 : pu_W M b r s b 10 = r 4 := by unfold pu_W; rw [if_pos rfl]; rfl
theorem pw_11 : pu_W M b r s b 11 = r 5 := by unfold pu_W; rw [if_pos rfl]; rfl
theorem pw_9 : pu_W M b r s b 9 = r 6 := by unfold pu_W; rw [if_pos rfl]; rfl
theorem pw_12 : pu_W M b r s b 12 = s 0 := by unfold pu_W; rw [if_pos rfl]; rfl
theorem pw_13 : pu_W M b r s b 13 = s 1 := by unfold pu_W; rw [if_pos rfl]; rfl
theorem pw_14 : pu_W M b r s b 14 = s 2 := by unfold pu_W; rw [if_pos rfl]; rfl
theorem pw_15 : pu_W M b r s b 15 = s 3 := by unfold pu_W; rw [if_pos rfl]; rfl
theorem pw_16 : pu_W M b r s b 16 = s 4 := by unfold pu_W; rw [if_pos rfl]; rfl
theorem pw_i {i : Nat} (hi : i < 5) : pu_W M b r s (b + 1 + i) k = r (7 + 5 * k + i) := by
  unfold pu_W
  rw [if_neg (by omega), if_pos (by omega), show b + 1 + i - b - 1 = i by omega]
theorem pw_a1 : pu_W M b r s (b + 1) k = ln9 r k := pw_i (i := 0) (by omega)
theorem pw_a2 : pu_W M b r s (b + 2) k = fr9 r k := pw_i (i := 1) (by omega)
theorem pw_a3 : pu_W M b r s (b + 3) k = lo9 r k := pw_i (i := 2) (by omega)
theorem pw_a4 : pu_W M b r s (b + 4) k = fo9 r k := pw_i (i := 3) (by omega)
theorem pw_a5 : pu_W M b r s (b + 5) k = le9' r k := pw_i (i := 4) (by omega)
theorem pw_o {a : Nat} (h : a < b ∨ b + 5 < a) : pu_W M b r s a k = M a k := by
  unfold pu_W
  rw [if_neg (by omega), if_neg (by omega)]
theorem pw_ext {M1 M2 : Mem9} {b : Nat} (h0 : ∀ k, M1 b k = M2 b k) (h1 : ∀ i k, i < 5 → M1 (b + 1 + i) k = M2 (b + 1 + i) k) (h2 : ∀ a k, a < b ∨ b + 5 < a → M1 a k = M2 a k) : M1 = M2 := by
  funext a k
  by_cases q : a < b ∨ b + 5 < a
  · exact h2 a k q
  · by_cases e : a = b
    · rw [e]; exact h0 k
    · obtain ⟨i, hi, rfl⟩ : ∃ i, i < 5 ∧ a = b + 1 + i := ⟨a - b - 1, by omega, by omega⟩
      exact h1 i k hi
theorem wr_ap {a' k' : Nat} : wr9 M a k v a' k' = if a' = a then (if k' = k then v else M a' k') else M a' k' := by
  by_cases h : a' = a
  · rw [if_pos h, h, wr9_eq]
  · rw [if_neg h, wr9_ne h]
theorem pw_wi {i : Nat} (hi : i < 5) : wr9 (pu_W M b r s) (b + 1 + i) k v = pu_W M b (pu_u r (7 + 5 * k + i) v) s := by
  refine pw_ext (b := b) (fun q => ?_) (fun i' q hi' => ?_) (fun a q h => ?_)
  · rw [wr_ap, if_neg (by omega)]
    unfold pu_W
    rw [if_pos rfl, if_pos rfl, pu_u_ne (by omega), pu_u_ne (by omega), pu_u_ne (by omega), pu_u_ne (by omega), pu_u_ne (by omega), pu_u_ne (by omega), pu_u_ne (by omega)]
  · rw [wr_ap, pw_i hi', pw_i hi']
    by_cases e : i' = i
    · subst e
      rw [if_pos rfl]
      by_cases e2 : q = k
      · subst e2; rw [if_pos rfl, pu_u_eq]
      · rw [if_neg e2, pu_u_ne (by omega)]
    · rw [if_neg (by omega), pu_u_ne (by omega)]
  · rw [wr_ap, if_neg (by omega), pw_o h, pw_o h]
theorem pw_w1 : wr9 (pu_W M b r s) (b + 1) k v = pu_W M b (pu_u r (7 + 5 * k + 0) v) s := pw_wi (i := 0) (by omega)
theorem pw_w2 : wr9 (pu_W M b r s) (b + 2) k v = pu_W M b (pu_u r (7 + 5 * k + 1) v) s := pw_wi (i := 1) (by omega)
theorem pw_w3 : wr9 (pu_W M b r s) (b + 3) k v = pu_W M b (pu_u r (7 + 5 * k + 2) v) s := pw_wi (i := 2) (by omega)
theorem pw_w4 : wr9 (pu_W M b r s) (b + 4) k v = pu_W M b (pu_u r (7 + 5 * k + 3) v) s := pw_wi (i := 3) (by omega)
theorem pw_w5 : wr9 (pu_W M b r s) (b + 5) k v = pu_W M b (pu_u r (7 + 5 * k + 4) v) s := pw_wi (i := 4) (by omega)
theorem pw_wr {q x : Nat} (hq : (q = 5 ∧ x = 0) ∨ (q = 6 ∧ x = 1) ∨ (q = 7 ∧ x = 2) ∨ (q = 8 ∧ x = 3) ∨ (q = 10 ∧ x = 4) ∨ (q = 11 ∧ x = 5) ∨ (q = 9 ∧ x = 6)) : wr9 (pu_W M b r s) b q v = pu_W M b (pu_u r x v) s := by
  refine pw_ext (b := b) (fun k => ?_) (fun i' k hi' => ?_) (fun a k h => ?_)
  · rw [wr_ap, if_pos rfl]
    by_cases h : k = q
    · subst h
      rw [if_pos rfl]
      unfold pu_W pu_u
      rw [if_pos rfl]
      rcases hq with ⟨rfl, rfl⟩ | ⟨rfl, rfl⟩ | ⟨rfl, rfl⟩ | ⟨rfl, rfl⟩ | ⟨rfl, rfl⟩ | ⟨rfl, rfl⟩ | ⟨rfl, rfl⟩ <;> rfl
    · rw [if_neg h]
      unfold pu_W pu_u
      rw [if_pos rfl, if_pos rfl]
      rcases hq with ⟨rfl, rfl⟩ | ⟨rfl, rfl⟩ | ⟨rfl, rfl⟩ | ⟨rfl, rfl⟩ | ⟨rfl, rfl⟩ | ⟨rfl, rfl⟩ | ⟨rfl, rfl⟩ <;> simp [h]
  · rw [wr_ap, if_neg (by omega), pw_i hi', pw_i hi', pu_u_ne (by omega)]
  · rw [wr_ap, if_neg (by omega), pw_o h, pw_o h]
theorem pw_wt {q x : Nat} (hq : q = 12 + x) (hx : x < 5) : wr9 (pu_W M b r s) b q v = pu_W M b r (pu_u s x v) := by
  refine pw_ext (b := b) (fun k => ?_) (fun i' k hi' => ?_) (fun a k h => ?_)
  · rw [wr_ap, if_pos rfl]
    subst hq
    unfold pu_W pu_u
    rw [if_pos rfl, if_pos rfl]
    by_cases h : k = 12 + x
    · rw [if_pos h, if_neg (by omega), if_neg (by omega), if_neg (by omega), if_neg (by omega), if_neg (by omega), if_neg (by omega), if_neg (by omega), if_pos (by omega), if_pos (by omega)]
    · rw [if_neg h]
      by_cases h2 : 12 ≤ k ∧ k ≤ 16
      · rw [if_neg (c := k - 12 = x) (by omega)]
      · rw [if_neg h2, if_neg h2]
  · rw [wr_ap, if_neg (by omega), pw_i hi', pw_i hi']
  · rw [wr_ap, if_neg (by omega), pw_o h, pw_o h]
theorem pw_x5 : wr9 (pu_W M b r s) b 5 v = pu_W M b (pu_u r 0 v) s := pw_wr (by omega)
theorem pw_x6 : wr9 (pu_W M b r s) b 6 v = pu_W M b (pu_u r 1 v) s := pw_wr (by omega)
theorem pw_x7 : wr9 (pu_W M b r s) b 7 v = pu_W M b (pu_u r 2 v) s := pw_wr (by omega)
theorem pw_x8 : wr9 (pu_W M b r s) b 8 v = pu_W M b (pu_u r 3 v) s := pw_wr (by omega)
theorem pw_x10 : wr9 (pu_W M b r s) b 10 v = pu_W M b (pu_u r 4 v) s := pw_wr (by omega)
theorem pw_x11 : wr9 (pu_W M b r s) b 11 v = pu_W M b (pu_u r 5 v) s := pw_wr (by omega)
theorem pw_x9 : wr9 (pu_W M b r s) b 9 v = pu_W M b (pu_u r 6 v) s := pw_wr (by omega)
theorem pw_x12 : wr9 (pu_W M b r s) b 12 v = pu_W M b r (pu_u s 0 v) := pw_wt rfl (by omega)
theorem pw_x13 : wr9 (pu_W M b r s) b 13 v = pu_W M b r (pu_u s 1 v) := pw_wt rfl (by omega)
theorem pw_x14 : wr9 (pu_W M b r s) b 14 v = pu_W M b r (pu_u s 2 v) := pw_wt rfl (by omega)
theorem pw_x15 : wr9 (pu_W M b r s) b 15 v = pu_W M b r (pu_u s 3 v) := pw_wt rfl (by omega)
theorem pw_x16 : wr9 (pu_W M b r s) b 16 v = pu_W M b r (pu_u s 4 v) := pw_wt rfl (by omega)
def pu_t (M : Mem9) (b : Nat) : Nat → Int32 := fun i => M b (12 + i)
theorem pw_self : pu_W M b (vc9 M b) (pu_t M b) = M := by
  refine pw_ext (b := b) (fun k => ?_) (fun i' k hi' => ?_) (fun a k h => pw_o h)
  · unfold pu_W vc9 pu_t
    rw [if_pos rfl]
    by_cases e5 : k = 5
    · subst e5; rfl
    · by_cases e6 : k = 6
      · subst e6; rfl
      · by_cases e7 : k = 7
        · subst e7; rfl
        · by_cases e8 : k = 8
          · subst e8; rfl
          · by_cases e10 : k = 10
            · subst e10; rfl
            · by_cases e11 : k = 11
              · subst e11; rfl
              · by_cases e9 : k = 9
                · subst e9; rfl
                · rw [if_neg e5, if_neg e6, if_neg e7, if_neg e8, if_neg e10, if_neg e11, if_neg e9]
                  by_cases h2 : 12 ≤ k ∧ k ≤ 16
                  · rw [if_pos h2, show 12 + (k - 12) = k by omega]
                  · rw [if_neg h2]
  · rw [pw_i hi', vc_v hi']
end PW
end PU
