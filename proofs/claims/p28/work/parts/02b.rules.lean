/-! ===== the rules: an instruction, a row ===== -/
def lk9 (ls : List (Nat × Value)) (i : Nat) : Option Value := List.lookup i ls
theorem lk9_mem {ls : List (Nat × Value)} {i : Nat} {v : Value} (h : lk9 ls i = some v) : (i, v) ∈ ls := by
  unfold lk9 at h
  induction ls with
  | nil => cases h
  | cons q ls ih =>
    obtain ⟨j, w⟩ := q
    rw [List.lookup_cons] at h
    by_cases hj : i = j
    · subst hj
      rw [show (i == i) = true from beq_self_eq_true i] at h
      cases h
      exact List.mem_cons_self
    · rw [show (i == j) = false from by simpa using hj] at h
      exact List.mem_cons_of_mem _ (ih h)
theorem lk9_at {lsA : Array Slot} {nL : Nat} {ls : List (Nat × Value)} {i : Nat} {v : Value} (hl : lv_has lsA nL ls) (h : lk9 ls i = some v) : lsA[i]? = some (.val v) := hl.2.2 _ (lk9_mem h)
theorem lk9_ix {ls : List (Nat × Value)} {i : Nat} {v : Value} (h : lk9 ls i = some v) : ∃ k : Nat, ls[k]? = some (i, v) := List.getElem?_of_mem (lk9_mem h)
def lset9 (ls : List (Nat × Value)) (i : Nat) (v : Value) : List (Nat × Value) := (i, v) :: ls.filter (fun q => !(q.1 == i) && !(q.1 + 1 == i && q.2.category == 2))
def lsetL9 (ls : List (Nat × Value)) (i : Nat) (v : Value) : List (Nat × Value) := (i, v) :: ls.filter (fun q => !(q.1 == i) && (!(q.1 == i + 1) && !(q.1 + 1 == i && q.2.category == 2)))
theorem j_none {z : Sh9} {N : Nv9} {X : Cx9} {out : Out9 × Mem9} {nL : Nat} {pc : Nat} {ls : List (Nat × Value)} {st : List Value} {M : Mem9} {κ : Ka9} : J9 z N X out nL pc ls st M κ none := by
  obtain ⟨p, l, e, R, s, m, args, below, meth, c, QQ⟩ := X
  intro hF
  cases hF
theorem j_loc {z : Sh9} {N : Nv9} {X : Cx9} {out : Out9 × Mem9} {nL : Nat} {pc : Nat} {ls ls' : List (Nat × Value)} {st : List Value} {M : Mem9} {κ : Ka9} {F : Re9} (ks : List Nat) (hk : lv_pick ls ks = ls') (k : J9 z N X out nL pc ls' st M κ F) : J9 z N X out nL pc ls st M κ F := by
  obtain ⟨p, l, e, R, s, m, args, below, meth, c, QQ⟩ := X
  intro hF H locs lsA hP hS hl
  exact k hF H locs lsA hP hS (lv_sub hl ks hk)
theorem j_nm {α : Type} {z : Sh9} {N : Nv9} {X : Cx9} {out : Out9 × Mem9} {nL : Nat} {pc : Nat} {ls : List (Nat × Value)} {st : List Value} {st' : α → List Value} {M : Mem9} {κ : Ka9} {e : α} {K : α → Re9} (hst : st = st' e) (k : ∀ x, J9 z N X out nL pc ls (st' x) M κ (K x)) : J9 z N X out nL pc ls st M κ (nm9 e K) := by
  rw [hst]
  exact k e
theorem j_ite {z : Sh9} {N : Nv9} {X : Cx9} {out : Out9 × Mem9} {nL : Nat} {pc : Nat} {ls : List (Nat × Value)} {st : List Value} {M : Mem9} {κ : Ka9} {F1 F2 : Re9} {p : Prop} [Decidable p] (k1 : p → J9 z N X out nL pc ls st M κ F1) (k2 : ¬ p → J9 z N X out nL pc ls st M κ F2) : J9 z N X out nL pc ls st M κ (if p then F1 else F2) := by
  by_cases q : p
  · rw [if_pos q]
    exact k1 q
  · rw [if_neg q]
    exact k2 q
theorem j_eq {z : Sh9} {N : Nv9} {X : Cx9} {out : Out9 × Mem9} {nL : Nat} {pc : Nat} {ls : List (Nat × Value)} {st st' : List Value} {M : Mem9} {κ : Ka9} {F : Re9} (h : st = st') (k : J9 z N X out nL pc ls st' M κ F) : J9 z N X out nL pc ls st M κ F := by
  rw [h]
  exact k
theorem j_iconst {z : Sh9} {N : Nv9} {X : Cx9} {out : Out9 × Mem9} {nL : Nat} {cm : Ka9} {cc : ByteArray} {own : String} {d : Nat} {rk : Nat} {hh : List (Nat × Nat × Nat × Nat)} {pc : Nat} {ls : List (Nat × Value)} {st : List Value} {M : Mem9} {κ : Ka9} {F : Re9} (C : OK9 z N X out nL cm cc own d rk hh) {n : Int} {v : Int32} (hd : decode cc pc = .ok (.iconst n, 1)) (hv : Int32.ofInt n = v) (k : J9 z N X out nL (pc + 1) (ls) (.int v :: st) M κ F) : J9 z N X out nL (pc) (ls) (st) M κ F := by
  obtain ⟨p, l, e, R, s, m, args, below, meth, c, QQ⟩ := X
  obtain ⟨hx, hb, hml, hown, hts, -⟩ := C
  intro hF H locs lsA hP hS hl
  exact lv_iconst hx hb hd hv (k hF H locs lsA hP hS hl)

theorem j_bipush {z : Sh9} {N : Nv9} {X : Cx9} {out : Out9 × Mem9} {nL : Nat} {cm : Ka9} {cc : ByteArray} {own : String} {d : Nat} {rk : Nat} {hh : List (Nat × Nat × Nat × Nat)} {pc : Nat} {ls : List (Nat × Value)} {st : List Value} {M : Mem9} {κ : Ka9} {F : Re9} (C : OK9 z N X out nL cm cc own d rk hh) {n : Int} {v : Int32} (hd : decode cc pc = .ok (.bipush n, 2)) (hv : (Int8.ofInt n).toInt32 = v) (k : J9 z N X out nL (pc + 2) (ls) (.int v :: st) M κ F) : J9 z N X out nL (pc) (ls) (st) M κ F := by
  obtain ⟨p, l, e, R, s, m, args, below, meth, c, QQ⟩ := X
  obtain ⟨hx, hb, hml, hown, hts, -⟩ := C
  intro hF H locs lsA hP hS hl
  exact lv_bipush hx hb hd hv (k hF H locs lsA hP hS hl)

theorem j_sipush {z : Sh9} {N : Nv9} {X : Cx9} {out : Out9 × Mem9} {nL : Nat} {cm : Ka9} {cc : ByteArray} {own : String} {d : Nat} {rk : Nat} {hh : List (Nat × Nat × Nat × Nat)} {pc : Nat} {ls : List (Nat × Value)} {st : List Value} {M : Mem9} {κ : Ka9} {F : Re9} (C : OK9 z N X out nL cm cc own d rk hh) {n : Int} {v : Int32} (hd : decode cc pc = .ok (.sipush n, 3)) (hv : (Int16.ofInt n).toInt32 = v) (k : J9 z N X out nL (pc + 3) (ls) (.int v :: st) M κ F) : J9 z N X out nL (pc) (ls) (st) M κ F := by
  obtain ⟨p, l, e, R, s, m, args, below, meth, c, QQ⟩ := X
  obtain ⟨hx, hb, hml, hown, hts, -⟩ := C
  intro hF H locs lsA hP hS hl
  exact lv_sipush hx hb hd hv (k hF H locs lsA hP hS hl)

theorem j_lconst {z : Sh9} {N : Nv9} {X : Cx9} {out : Out9 × Mem9} {nL : Nat} {cm : Ka9} {cc : ByteArray} {own : String} {d : Nat} {rk : Nat} {hh : List (Nat × Nat × Nat × Nat)} {pc : Nat} {ls : List (Nat × Value)} {st : List Value} {M : Mem9} {κ : Ka9} {F : Re9} (C : OK9 z N X out nL cm cc own d rk hh) {n : Fin 2} {v : Int64} (hd : decode cc pc = .ok (.lconst n, 1)) (hv : Int64.ofNat (n : Nat) = v) (k : J9 z N X out nL (pc + 1) (ls) (.long v :: st) M κ F) : J9 z N X out nL (pc) (ls) (st) M κ F := by
  obtain ⟨p, l, e, R, s, m, args, below, meth, c, QQ⟩ := X
  obtain ⟨hx, hb, hml, hown, hts, -⟩ := C
  intro hF H locs lsA hP hS hl
  exact lv_lconst hx hb hd hv (k hF H locs lsA hP hS hl)

theorem j_iload_n {z : Sh9} {N : Nv9} {X : Cx9} {out : Out9 × Mem9} {nL : Nat} {cm : Ka9} {cc : ByteArray} {own : String} {d : Nat} {rk : Nat} {hh : List (Nat × Nat × Nat × Nat)} {pc : Nat} {ls : List (Nat × Value)} {st : List Value} {M : Mem9} {κ : Ka9} {F : Re9} (C : OK9 z N X out nL cm cc own d rk hh) {k : Fin 4} {x : Int32} (hd : decode cc pc = .ok (.iload_n k, 1)) (hk : lk9 ls (k : Nat) = some (.int x)) (kk : J9 z N X out nL (pc + 1) (ls) (.int x :: st) M κ F) : J9 z N X out nL (pc) (ls) (st) M κ F := by
  obtain ⟨p, l, e, R, s, m, args, below, meth, c, QQ⟩ := X
  obtain ⟨hx, hb, hml, hown, hts, -⟩ := C
  intro hF H locs lsA hP hS hl
  exact lv_iload_n hx hb hd rfl (lk9_at hl hk) (kk hF H locs lsA hP hS hl)

theorem j_iload {z : Sh9} {N : Nv9} {X : Cx9} {out : Out9 × Mem9} {nL : Nat} {cm : Ka9} {cc : ByteArray} {own : String} {d : Nat} {rk : Nat} {hh : List (Nat × Nat × Nat × Nat)} {pc : Nat} {ls : List (Nat × Value)} {st : List Value} {M : Mem9} {κ : Ka9} {F : Re9} (C : OK9 z N X out nL cm cc own d rk hh) {i : Nat} {x : Int32} (hd : decode cc pc = .ok (.iload i, 2)) (hk : lk9 ls i = some (.int x)) (k : J9 z N X out nL (pc + 2) (ls) (.int x :: st) M κ F) : J9 z N X out nL (pc) (ls) (st) M κ F := by
  obtain ⟨p, l, e, R, s, m, args, below, meth, c, QQ⟩ := X
  obtain ⟨hx, hb, hml, hown, hts, -⟩ := C
  intro hF H locs lsA hP hS hl
  exact lv_iload hx hb hd (lk9_at hl hk) (k hF H locs lsA hP hS hl)

theorem j_lload_n {z : Sh9} {N : Nv9} {X : Cx9} {out : Out9 × Mem9} {nL : Nat} {cm : Ka9} {cc : ByteArray} {own : String} {d : Nat} {rk : Nat} {hh : List (Nat × Nat × Nat × Nat)} {pc : Nat} {ls : List (Nat × Value)} {st : List Value} {M : Mem9} {κ : Ka9} {F : Re9} (C : OK9 z N X out nL cm cc own d rk hh) {k : Fin 4} {x : Int64} (hd : decode cc pc = .ok (.lload_n k, 1)) (hk : lk9 ls (k : Nat) = some (.long x)) (kk : J9 z N X out nL (pc + 1) (ls) (.long x :: st) M κ F) : J9 z N X out nL (pc) (ls) (st) M κ F := by
  obtain ⟨p, l, e, R, s, m, args, below, meth, c, QQ⟩ := X
  obtain ⟨hx, hb, hml, hown, hts, -⟩ := C
  intro hF H locs lsA hP hS hl
  exact lv_lload_n hx hb hd rfl (lk9_at hl hk) (kk hF H locs lsA hP hS hl)

theorem j_lload {z : Sh9} {N : Nv9} {X : Cx9} {out : Out9 × Mem9} {nL : Nat} {cm : Ka9} {cc : ByteArray} {own : String} {d : Nat} {rk : Nat} {hh : List (Nat × Nat × Nat × Nat)} {pc : Nat} {ls : List (Nat × Value)} {st : List Value} {M : Mem9} {κ : Ka9} {F : Re9} (C : OK9 z N X out nL cm cc own d rk hh) {i : Nat} {x : Int64} (hd : decode cc pc = .ok (.lload i, 2)) (hk : lk9 ls i = some (.long x)) (k : J9 z N X out nL (pc + 2) (ls) (.long x :: st) M κ F) : J9 z N X out nL (pc) (ls) (st) M κ F := by
  obtain ⟨p, l, e, R, s, m, args, below, meth, c, QQ⟩ := X
  obtain ⟨hx, hb, hml, hown, hts, -⟩ := C
  intro hF H locs lsA hP hS hl
  exact lv_lload hx hb hd (lk9_at hl hk) (k hF H locs lsA hP hS hl)

theorem j_aload_n {z : Sh9} {N : Nv9} {X : Cx9} {out : Out9 × Mem9} {nL : Nat} {cm : Ka9} {cc : ByteArray} {own : String} {d : Nat} {rk : Nat} {hh : List (Nat × Nat × Nat × Nat)} {pc : Nat} {ls : List (Nat × Value)} {st : List Value} {M : Mem9} {κ : Ka9} {F : Re9} (C : OK9 z N X out nL cm cc own d rk hh) {k : Fin 4} {x : Nat} (hd : decode cc pc = .ok (.aload_n k, 1)) (hk : lk9 ls (k : Nat) = some (.ref x)) (kk : J9 z N X out nL (pc + 1) (ls) (.ref x :: st) M κ F) : J9 z N X out nL (pc) (ls) (st) M κ F := by
  obtain ⟨p, l, e, R, s, m, args, below, meth, c, QQ⟩ := X
  obtain ⟨hx, hb, hml, hown, hts, -⟩ := C
  intro hF H locs lsA hP hS hl
  exact lv_aload_n hx hb hd rfl (lk9_at hl hk) (kk hF H locs lsA hP hS hl)

theorem j_aload {z : Sh9} {N : Nv9} {X : Cx9} {out : Out9 × Mem9} {nL : Nat} {cm : Ka9} {cc : ByteArray} {own : String} {d : Nat} {rk : Nat} {hh : List (Nat × Nat × Nat × Nat)} {pc : Nat} {ls : List (Nat × Value)} {st : List Value} {M : Mem9} {κ : Ka9} {F : Re9} (C : OK9 z N X out nL cm cc own d rk hh) {i : Nat} {x : Nat} (hd : decode cc pc = .ok (.aload i, 2)) (hk : lk9 ls i = some (.ref x)) (k : J9 z N X out nL (pc + 2) (ls) (.ref x :: st) M κ F) : J9 z N X out nL (pc) (ls) (st) M κ F := by
  obtain ⟨p, l, e, R, s, m, args, below, meth, c, QQ⟩ := X
  obtain ⟨hx, hb, hml, hown, hts, -⟩ := C
  intro hF H locs lsA hP hS hl
  exact lv_aload hx hb hd (lk9_at hl hk) (k hF H locs lsA hP hS hl)

theorem j_istore_n {z : Sh9} {N : Nv9} {X : Cx9} {out : Out9 × Mem9} {nL : Nat} {cm : Ka9} {cc : ByteArray} {own : String} {d : Nat} {rk : Nat} {hh : List (Nat × Nat × Nat × Nat)} {pc : Nat} {ls : List (Nat × Value)} {st : List Value} {M : Mem9} {κ : Ka9} {F : Re9} (C : OK9 z N X out nL cm cc own d rk hh) {i : Fin 4} {x : Int32} {ls' : List (Nat × Value)} (hd : decode cc pc = .ok (.istore_n i, 1)) (hn : (i : Nat) < nL) (hs : lset9 ls i (.int x) = ls') (k : J9 z N X out nL (pc + 1) (ls') (st) M κ F) : J9 z N X out nL (pc) (ls) (.int x :: st) M κ F := by
  obtain ⟨p, l, e, R, s, m, args, below, meth, c, QQ⟩ := X
  obtain ⟨hx, hb, hml, hown, hts, -⟩ := C
  intro hF H locs lsA hP hS hl
  exact lv_istore_n hx hb hd rfl hl hn hs (fun ls2 hl2 => k hF H locs ls2 hP hS hl2)

theorem j_istore {z : Sh9} {N : Nv9} {X : Cx9} {out : Out9 × Mem9} {nL : Nat} {cm : Ka9} {cc : ByteArray} {own : String} {d : Nat} {rk : Nat} {hh : List (Nat × Nat × Nat × Nat)} {pc : Nat} {ls : List (Nat × Value)} {st : List Value} {M : Mem9} {κ : Ka9} {F : Re9} (C : OK9 z N X out nL cm cc own d rk hh) {i : Nat} {x : Int32} {ls' : List (Nat × Value)} (hd : decode cc pc = .ok (.istore i, 2)) (hn : (i : Nat) < nL) (hs : lset9 ls i (.int x) = ls') (k : J9 z N X out nL (pc + 2) (ls') (st) M κ F) : J9 z N X out nL (pc) (ls) (.int x :: st) M κ F := by
  obtain ⟨p, l, e, R, s, m, args, below, meth, c, QQ⟩ := X
  obtain ⟨hx, hb, hml, hown, hts, -⟩ := C
  intro hF H locs lsA hP hS hl
  exact lv_istore hx hb hd hl hn hs (fun ls2 hl2 => k hF H locs ls2 hP hS hl2)

theorem j_lstore_n {z : Sh9} {N : Nv9} {X : Cx9} {out : Out9 × Mem9} {nL : Nat} {cm : Ka9} {cc : ByteArray} {own : String} {d : Nat} {rk : Nat} {hh : List (Nat × Nat × Nat × Nat)} {pc : Nat} {ls : List (Nat × Value)} {st : List Value} {M : Mem9} {κ : Ka9} {F : Re9} (C : OK9 z N X out nL cm cc own d rk hh) {i : Fin 4} {x : Int64} {ls' : List (Nat × Value)} (hd : decode cc pc = .ok (.lstore_n i, 1)) (hn : (i : Nat) + 1 < nL) (hs : lsetL9 ls i (.long x) = ls') (k : J9 z N X out nL (pc + 1) (ls') (st) M κ F) : J9 z N X out nL (pc) (ls) (.long x :: st) M κ F := by
  obtain ⟨p, l, e, R, s, m, args, below, meth, c, QQ⟩ := X
  obtain ⟨hx, hb, hml, hown, hts, -⟩ := C
  intro hF H locs lsA hP hS hl
  exact lv_lstore_n hx hb hd rfl hl hn hs (fun ls2 hl2 => k hF H locs ls2 hP hS hl2)

theorem j_lstore {z : Sh9} {N : Nv9} {X : Cx9} {out : Out9 × Mem9} {nL : Nat} {cm : Ka9} {cc : ByteArray} {own : String} {d : Nat} {rk : Nat} {hh : List (Nat × Nat × Nat × Nat)} {pc : Nat} {ls : List (Nat × Value)} {st : List Value} {M : Mem9} {κ : Ka9} {F : Re9} (C : OK9 z N X out nL cm cc own d rk hh) {i : Nat} {x : Int64} {ls' : List (Nat × Value)} (hd : decode cc pc = .ok (.lstore i, 2)) (hn : (i : Nat) + 1 < nL) (hs : lsetL9 ls i (.long x) = ls') (k : J9 z N X out nL (pc + 2) (ls') (st) M κ F) : J9 z N X out nL (pc) (ls) (.long x :: st) M κ F := by
  obtain ⟨p, l, e, R, s, m, args, below, meth, c, QQ⟩ := X
  obtain ⟨hx, hb, hml, hown, hts, -⟩ := C
  intro hF H locs lsA hP hS hl
  exact lv_lstore hx hb hd hl hn hs (fun ls2 hl2 => k hF H locs ls2 hP hS hl2)

theorem j_astore_n {z : Sh9} {N : Nv9} {X : Cx9} {out : Out9 × Mem9} {nL : Nat} {cm : Ka9} {cc : ByteArray} {own : String} {d : Nat} {rk : Nat} {hh : List (Nat × Nat × Nat × Nat)} {pc : Nat} {ls : List (Nat × Value)} {st : List Value} {M : Mem9} {κ : Ka9} {F : Re9} (C : OK9 z N X out nL cm cc own d rk hh) {i : Fin 4} {x : Nat} {ls' : List (Nat × Value)} (hd : decode cc pc = .ok (.astore_n i, 1)) (hn : (i : Nat) < nL) (hs : lset9 ls i (.ref x) = ls') (k : J9 z N X out nL (pc + 1) (ls') (st) M κ F) : J9 z N X out nL (pc) (ls) (.ref x :: st) M κ F := by
  obtain ⟨p, l, e, R, s, m, args, below, meth, c, QQ⟩ := X
  obtain ⟨hx, hb, hml, hown, hts, -⟩ := C
  intro hF H locs lsA hP hS hl
  exact lv_astore_n hx hb hd rfl hl hn hs (fun ls2 hl2 => k hF H locs ls2 hP hS hl2)

theorem j_astore {z : Sh9} {N : Nv9} {X : Cx9} {out : Out9 × Mem9} {nL : Nat} {cm : Ka9} {cc : ByteArray} {own : String} {d : Nat} {rk : Nat} {hh : List (Nat × Nat × Nat × Nat)} {pc : Nat} {ls : List (Nat × Value)} {st : List Value} {M : Mem9} {κ : Ka9} {F : Re9} (C : OK9 z N X out nL cm cc own d rk hh) {i : Nat} {x : Nat} {ls' : List (Nat × Value)} (hd : decode cc pc = .ok (.astore i, 2)) (hn : (i : Nat) < nL) (hs : lset9 ls i (.ref x) = ls') (k : J9 z N X out nL (pc + 2) (ls') (st) M κ F) : J9 z N X out nL (pc) (ls) (.ref x :: st) M κ F := by
  obtain ⟨p, l, e, R, s, m, args, below, meth, c, QQ⟩ := X
  obtain ⟨hx, hb, hml, hown, hts, -⟩ := C
  intro hF H locs lsA hP hS hl
  exact lv_astore hx hb hd hl hn hs (fun ls2 hl2 => k hF H locs ls2 hP hS hl2)

theorem j_iinc {z : Sh9} {N : Nv9} {X : Cx9} {out : Out9 × Mem9} {nL : Nat} {cm : Ka9} {cc : ByteArray} {own : String} {d : Nat} {rk : Nat} {hh : List (Nat × Nat × Nat × Nat)} {pc : Nat} {ls : List (Nat × Value)} {st : List Value} {M : Mem9} {κ : Ka9} {F : Re9} (C : OK9 z N X out nL cm cc own d rk hh) {i : Nat} {n : Int} {x v : Int32} {ls' : List (Nat × Value)} (hd : decode cc pc = .ok (.iinc i n, 3)) (hk : lk9 ls i = some (.int x)) (hv : x + Int32.ofInt n = v) (hn : i < nL) (hs : lset9 ls i (.int v) = ls') (k : J9 z N X out nL (pc + 3) (ls') (st) M κ F) : J9 z N X out nL (pc) (ls) (st) M κ F := by
  obtain ⟨p, l, e, R, s, m, args, below, meth, c, QQ⟩ := X
  obtain ⟨hx, hb, hml, hown, hts, -⟩ := C
  intro hF H locs lsA hP hS hl
  obtain ⟨j, hj⟩ := lk9_ix hk
  exact lv_iinc hx hb hd hl hj hv hn hs (fun ls2 hl2 => k hF H locs ls2 hP hS hl2)

theorem j_iadd {z : Sh9} {N : Nv9} {X : Cx9} {out : Out9 × Mem9} {nL : Nat} {cm : Ka9} {cc : ByteArray} {own : String} {d : Nat} {rk : Nat} {hh : List (Nat × Nat × Nat × Nat)} {pc : Nat} {ls : List (Nat × Value)} {st : List Value} {M : Mem9} {κ : Ka9} {F : Re9} (C : OK9 z N X out nL cm cc own d rk hh) {x y : Int32} (hd : decode cc pc = .ok (.iadd, 1))  (k : J9 z N X out nL (pc + 1) (ls) (.int (x + y) :: st) M κ F) : J9 z N X out nL (pc) (ls) (.int y :: .int x :: st) M κ F := by
  obtain ⟨p, l, e, R, s, m, args, below, meth, c, QQ⟩ := X
  obtain ⟨hx, hb, hml, hown, hts, -⟩ := C
  intro hF H locs lsA hP hS hl
  exact lv_iadd hx hb hd  (k hF H locs lsA hP hS hl)

theorem j_isub {z : Sh9} {N : Nv9} {X : Cx9} {out : Out9 × Mem9} {nL : Nat} {cm : Ka9} {cc : ByteArray} {own : String} {d : Nat} {rk : Nat} {hh : List (Nat × Nat × Nat × Nat)} {pc : Nat} {ls : List (Nat × Value)} {st : List Value} {M : Mem9} {κ : Ka9} {F : Re9} (C : OK9 z N X out nL cm cc own d rk hh) {x y : Int32} (hd : decode cc pc = .ok (.isub, 1))  (k : J9 z N X out nL (pc + 1) (ls) (.int (x - y) :: st) M κ F) : J9 z N X out nL (pc) (ls) (.int y :: .int x :: st) M κ F := by
  obtain ⟨p, l, e, R, s, m, args, below, meth, c, QQ⟩ := X
  obtain ⟨hx, hb, hml, hown, hts, -⟩ := C
  intro hF H locs lsA hP hS hl
  exact lv_isub hx hb hd  (k hF H locs lsA hP hS hl)

theorem j_imul {z : Sh9} {N : Nv9} {X : Cx9} {out : Out9 × Mem9} {nL : Nat} {cm : Ka9} {cc : ByteArray} {own : String} {d : Nat} {rk : Nat} {hh : List (Nat × Nat × Nat × Nat)} {pc : Nat} {ls : List (Nat × Value)} {st : List Value} {M : Mem9} {κ : Ka9} {F : Re9} (C : OK9 z N X out nL cm cc own d rk hh) {x y : Int32} (hd : decode cc pc = .ok (.imul, 1))  (k : J9 z N X out nL (pc + 1) (ls) (.int (x * y) :: st) M κ F) : J9 z N X out nL (pc) (ls) (.int y :: .int x :: st) M κ F := by
  obtain ⟨p, l, e, R, s, m, args, below, meth, c, QQ⟩ := X
  obtain ⟨hx, hb, hml, hown, hts, -⟩ := C
  intro hF H locs lsA hP hS hl
  exact lv_imul hx hb hd  (k hF H locs lsA hP hS hl)

theorem j_iand {z : Sh9} {N : Nv9} {X : Cx9} {out : Out9 × Mem9} {nL : Nat} {cm : Ka9} {cc : ByteArray} {own : String} {d : Nat} {rk : Nat} {hh : List (Nat × Nat × Nat × Nat)} {pc : Nat} {ls : List (Nat × Value)} {st : List Value} {M : Mem9} {κ : Ka9} {F : Re9} (C : OK9 z N X out nL cm cc own d rk hh) {x y : Int32} (hd : decode cc pc = .ok (.iand, 1))  (k : J9 z N X out nL (pc + 1) (ls) (.int (x &&& y) :: st) M κ F) : J9 z N X out nL (pc) (ls) (.int y :: .int x :: st) M κ F := by
  obtain ⟨p, l, e, R, s, m, args, below, meth, c, QQ⟩ := X
  obtain ⟨hx, hb, hml, hown, hts, -⟩ := C
  intro hF H locs lsA hP hS hl
  exact lv_iand hx hb hd  (k hF H locs lsA hP hS hl)

theorem j_ladd {z : Sh9} {N : Nv9} {X : Cx9} {out : Out9 × Mem9} {nL : Nat} {cm : Ka9} {cc : ByteArray} {own : String} {d : Nat} {rk : Nat} {hh : List (Nat × Nat × Nat × Nat)} {pc : Nat} {ls : List (Nat × Value)} {st : List Value} {M : Mem9} {κ : Ka9} {F : Re9} (C : OK9 z N X out nL cm cc own d rk hh) {x y : Int64} (hd : decode cc pc = .ok (.ladd, 1))  (k : J9 z N X out nL (pc + 1) (ls) (.long (x + y) :: st) M κ F) : J9 z N X out nL (pc) (ls) (.long y :: .long x :: st) M κ F := by
  obtain ⟨p, l, e, R, s, m, args, below, meth, c, QQ⟩ := X
  obtain ⟨hx, hb, hml, hown, hts, -⟩ := C
  intro hF H locs lsA hP hS hl
  exact lv_ladd hx hb hd  (k hF H locs lsA hP hS hl)

theorem j_lsub {z : Sh9} {N : Nv9} {X : Cx9} {out : Out9 × Mem9} {nL : Nat} {cm : Ka9} {cc : ByteArray} {own : String} {d : Nat} {rk : Nat} {hh : List (Nat × Nat × Nat × Nat)} {pc : Nat} {ls : List (Nat × Value)} {st : List Value} {M : Mem9} {κ : Ka9} {F : Re9} (C : OK9 z N X out nL cm cc own d rk hh) {x y : Int64} (hd : decode cc pc = .ok (.lsub, 1))  (k : J9 z N X out nL (pc + 1) (ls) (.long (x - y) :: st) M κ F) : J9 z N X out nL (pc) (ls) (.long y :: .long x :: st) M κ F := by
  obtain ⟨p, l, e, R, s, m, args, below, meth, c, QQ⟩ := X
  obtain ⟨hx, hb, hml, hown, hts, -⟩ := C
  intro hF H locs lsA hP hS hl
  exact lv_lsub hx hb hd  (k hF H locs lsA hP hS hl)

theorem j_lmul {z : Sh9} {N : Nv9} {X : Cx9} {out : Out9 × Mem9} {nL : Nat} {cm : Ka9} {cc : ByteArray} {own : String} {d : Nat} {rk : Nat} {hh : List (Nat × Nat × Nat × Nat)} {pc : Nat} {ls : List (Nat × Value)} {st : List Value} {M : Mem9} {κ : Ka9} {F : Re9} (C : OK9 z N X out nL cm cc own d rk hh) {x y : Int64} (hd : decode cc pc = .ok (.lmul, 1))  (k : J9 z N X out nL (pc + 1) (ls) (.long (x * y) :: st) M κ F) : J9 z N X out nL (pc) (ls) (.long y :: .long x :: st) M κ F := by
  obtain ⟨p, l, e, R, s, m, args, below, meth, c, QQ⟩ := X
  obtain ⟨hx, hb, hml, hown, hts, -⟩ := C
  intro hF H locs lsA hP hS hl
  exact lv_lmul hx hb hd  (k hF H locs lsA hP hS hl)

theorem j_land {z : Sh9} {N : Nv9} {X : Cx9} {out : Out9 × Mem9} {nL : Nat} {cm : Ka9} {cc : ByteArray} {own : String} {d : Nat} {rk : Nat} {hh : List (Nat × Nat × Nat × Nat)} {pc : Nat} {ls : List (Nat × Value)} {st : List Value} {M : Mem9} {κ : Ka9} {F : Re9} (C : OK9 z N X out nL cm cc own d rk hh) {x y : Int64} (hd : decode cc pc = .ok (.land, 1))  (k : J9 z N X out nL (pc + 1) (ls) (.long (x &&& y) :: st) M κ F) : J9 z N X out nL (pc) (ls) (.long y :: .long x :: st) M κ F := by
  obtain ⟨p, l, e, R, s, m, args, below, meth, c, QQ⟩ := X
  obtain ⟨hx, hb, hml, hown, hts, -⟩ := C
  intro hF H locs lsA hP hS hl
  exact lv_land hx hb hd  (k hF H locs lsA hP hS hl)

theorem j_lor {z : Sh9} {N : Nv9} {X : Cx9} {out : Out9 × Mem9} {nL : Nat} {cm : Ka9} {cc : ByteArray} {own : String} {d : Nat} {rk : Nat} {hh : List (Nat × Nat × Nat × Nat)} {pc : Nat} {ls : List (Nat × Value)} {st : List Value} {M : Mem9} {κ : Ka9} {F : Re9} (C : OK9 z N X out nL cm cc own d rk hh) {x y : Int64} (hd : decode cc pc = .ok (.lor, 1))  (k : J9 z N X out nL (pc + 1) (ls) (.long (x ||| y) :: st) M κ F) : J9 z N X out nL (pc) (ls) (.long y :: .long x :: st) M κ F := by
  obtain ⟨p, l, e, R, s, m, args, below, meth, c, QQ⟩ := X
  obtain ⟨hx, hb, hml, hown, hts, -⟩ := C
  intro hF H locs lsA hP hS hl
  exact lv_lor hx hb hd  (k hF H locs lsA hP hS hl)

theorem j_lshl {z : Sh9} {N : Nv9} {X : Cx9} {out : Out9 × Mem9} {nL : Nat} {cm : Ka9} {cc : ByteArray} {own : String} {d : Nat} {rk : Nat} {hh : List (Nat × Nat × Nat × Nat)} {pc : Nat} {ls : List (Nat × Value)} {st : List Value} {M : Mem9} {κ : Ka9} {F : Re9} (C : OK9 z N X out nL cm cc own d rk hh) {x v : Int64} {y : Int32} (hd : decode cc pc = .ok (.lshl, 1)) (hv : x <<< (y.toInt64 &&& 63) = v) (k : J9 z N X out nL (pc + 1) (ls) (.long v :: st) M κ F) : J9 z N X out nL (pc) (ls) (.int y :: .long x :: st) M κ F := by
  obtain ⟨p, l, e, R, s, m, args, below, meth, c, QQ⟩ := X
  obtain ⟨hx, hb, hml, hown, hts, -⟩ := C
  intro hF H locs lsA hP hS hl
  exact lv_lshl hx hb hd hv (k hF H locs lsA hP hS hl)

theorem j_lushr {z : Sh9} {N : Nv9} {X : Cx9} {out : Out9 × Mem9} {nL : Nat} {cm : Ka9} {cc : ByteArray} {own : String} {d : Nat} {rk : Nat} {hh : List (Nat × Nat × Nat × Nat)} {pc : Nat} {ls : List (Nat × Value)} {st : List Value} {M : Mem9} {κ : Ka9} {F : Re9} (C : OK9 z N X out nL cm cc own d rk hh) {x v : Int64} {y : Int32} (hd : decode cc pc = .ok (.lushr, 1)) (hv : (x.toUInt64 >>> (y.toInt64.toUInt64 &&& Int64.toUInt64 63)).toInt64 = v) (k : J9 z N X out nL (pc + 1) (ls) (.long v :: st) M κ F) : J9 z N X out nL (pc) (ls) (.int y :: .long x :: st) M κ F := by
  obtain ⟨p, l, e, R, s, m, args, below, meth, c, QQ⟩ := X
  obtain ⟨hx, hb, hml, hown, hts, -⟩ := C
  intro hF H locs lsA hP hS hl
  exact lv_lushr hx hb hd hv (k hF H locs lsA hP hS hl)

theorem j_i2l {z : Sh9} {N : Nv9} {X : Cx9} {out : Out9 × Mem9} {nL : Nat} {cm : Ka9} {cc : ByteArray} {own : String} {d : Nat} {rk : Nat} {hh : List (Nat × Nat × Nat × Nat)} {pc : Nat} {ls : List (Nat × Value)} {st : List Value} {M : Mem9} {κ : Ka9} {F : Re9} (C : OK9 z N X out nL cm cc own d rk hh) {x : Int32} (hd : decode cc pc = .ok (.i2l, 1))  (k : J9 z N X out nL (pc + 1) (ls) (.long x.toInt64 :: st) M κ F) : J9 z N X out nL (pc) (ls) (.int x :: st) M κ F := by
  obtain ⟨p, l, e, R, s, m, args, below, meth, c, QQ⟩ := X
  obtain ⟨hx, hb, hml, hown, hts, -⟩ := C
  intro hF H locs lsA hP hS hl
  exact lv_i2l hx hb hd rfl (k hF H locs lsA hP hS hl)

theorem j_l2i {z : Sh9} {N : Nv9} {X : Cx9} {out : Out9 × Mem9} {nL : Nat} {cm : Ka9} {cc : ByteArray} {own : String} {d : Nat} {rk : Nat} {hh : List (Nat × Nat × Nat × Nat)} {pc : Nat} {ls : List (Nat × Value)} {st : List Value} {M : Mem9} {κ : Ka9} {F : Re9} (C : OK9 z N X out nL cm cc own d rk hh) {x : Int64} (hd : decode cc pc = .ok (.l2i, 1))  (k : J9 z N X out nL (pc + 1) (ls) (.int x.toInt32 :: st) M κ F) : J9 z N X out nL (pc) (ls) (.long x :: st) M κ F := by
  obtain ⟨p, l, e, R, s, m, args, below, meth, c, QQ⟩ := X
  obtain ⟨hx, hb, hml, hown, hts, -⟩ := C
  intro hF H locs lsA hP hS hl
  exact lv_l2i hx hb hd rfl (k hF H locs lsA hP hS hl)

theorem j_i2c {z : Sh9} {N : Nv9} {X : Cx9} {out : Out9 × Mem9} {nL : Nat} {cm : Ka9} {cc : ByteArray} {own : String} {d : Nat} {rk : Nat} {hh : List (Nat × Nat × Nat × Nat)} {pc : Nat} {ls : List (Nat × Value)} {st : List Value} {M : Mem9} {κ : Ka9} {F : Re9} (C : OK9 z N X out nL cm cc own d rk hh) {x : Int32} (hd : decode cc pc = .ok (.i2c, 1))  (k : J9 z N X out nL (pc + 1) (ls) (.int (x.toUInt32 % 65536).toInt32 :: st) M κ F) : J9 z N X out nL (pc) (ls) (.int x :: st) M κ F := by
  obtain ⟨p, l, e, R, s, m, args, below, meth, c, QQ⟩ := X
  obtain ⟨hx, hb, hml, hown, hts, -⟩ := C
  intro hF H locs lsA hP hS hl
  exact lv_i2c hx hb hd rfl (k hF H locs lsA hP hS hl)

theorem j_dup {z : Sh9} {N : Nv9} {X : Cx9} {out : Out9 × Mem9} {nL : Nat} {cm : Ka9} {cc : ByteArray} {own : String} {d : Nat} {rk : Nat} {hh : List (Nat × Nat × Nat × Nat)} {pc : Nat} {ls : List (Nat × Value)} {st : List Value} {M : Mem9} {κ : Ka9} {F : Re9} (C : OK9 z N X out nL cm cc own d rk hh) {va : Value} (hd : decode cc pc = .ok (.dup, 1)) (hva : va.category = 1) (k : J9 z N X out nL (pc + 1) (ls) (va :: va :: st) M κ F) : J9 z N X out nL (pc) (ls) (va :: st) M κ F := by
  obtain ⟨p, l, e, R, s, m, args, below, meth, c, QQ⟩ := X
  obtain ⟨hx, hb, hml, hown, hts, -⟩ := C
  intro hF H locs lsA hP hS hl
  exact lv_dup hx hb hd hva (k hF H locs lsA hP hS hl)

theorem j_pop {z : Sh9} {N : Nv9} {X : Cx9} {out : Out9 × Mem9} {nL : Nat} {cm : Ka9} {cc : ByteArray} {own : String} {d : Nat} {rk : Nat} {hh : List (Nat × Nat × Nat × Nat)} {pc : Nat} {ls : List (Nat × Value)} {st : List Value} {M : Mem9} {κ : Ka9} {F : Re9} (C : OK9 z N X out nL cm cc own d rk hh) {va : Value} (hd : decode cc pc = .ok (.pop, 1)) (hva : va.category = 1) (k : J9 z N X out nL (pc + 1) (ls) (st) M κ F) : J9 z N X out nL (pc) (ls) (va :: st) M κ F := by
  obtain ⟨p, l, e, R, s, m, args, below, meth, c, QQ⟩ := X
  obtain ⟨hx, hb, hml, hown, hts, -⟩ := C
  intro hF H locs lsA hP hS hl
  exact lv_pop hx hb hd hva (k hF H locs lsA hP hS hl)

theorem j_dup2_11 {z : Sh9} {N : Nv9} {X : Cx9} {out : Out9 × Mem9} {nL : Nat} {cm : Ka9} {cc : ByteArray} {own : String} {d : Nat} {rk : Nat} {hh : List (Nat × Nat × Nat × Nat)} {pc : Nat} {ls : List (Nat × Value)} {st : List Value} {M : Mem9} {κ : Ka9} {F : Re9} (C : OK9 z N X out nL cm cc own d rk hh) {va vb : Value} (hd : decode cc pc = .ok (.dup2, 1)) (hva : va.category = 1) (hvb : vb.category = 1) (k : J9 z N X out nL (pc + 1) (ls) (va :: vb :: va :: vb :: st) M κ F) : J9 z N X out nL (pc) (ls) (va :: vb :: st) M κ F := by
  obtain ⟨p, l, e, R, s, m, args, below, meth, c, QQ⟩ := X
  obtain ⟨hx, hb, hml, hown, hts, -⟩ := C
  intro hF H locs lsA hP hS hl
  exact lv_dup2_11 hx hb hd hva hvb (k hF H locs lsA hP hS hl)

theorem j_lcmp {z : Sh9} {N : Nv9} {X : Cx9} {out : Out9 × Mem9} {nL : Nat} {cm : Ka9} {cc : ByteArray} {own : String} {d : Nat} {rk : Nat} {hh : List (Nat × Nat × Nat × Nat)} {pc : Nat} {ls : List (Nat × Value)} {st : List Value} {M : Mem9} {κ : Ka9} {F : Re9} (C : OK9 z N X out nL cm cc own d rk hh) {x y : Int64} (hd : decode cc pc = .ok (.lcmp, 1)) (k : J9 z N X out nL (pc + 1) (ls) (.int (lg_cmp x y) :: st) M κ F) : J9 z N X out nL (pc) (ls) (.long y :: .long x :: st) M κ F := by
  obtain ⟨p, l, e, R, s, m, args, below, meth, c, QQ⟩ := X
  obtain ⟨hx, hb, hml, hown, hts, -⟩ := C
  intro hF H locs lsA hP hS hl
  exact W.lcmp hx hb hd (k hF H locs lsA hP hS hl)

theorem j_idiv {z : Sh9} {N : Nv9} {X : Cx9} {out : Out9 × Mem9} {nL : Nat} {cm : Ka9} {cc : ByteArray} {own : String} {d : Nat} {rk : Nat} {hh : List (Nat × Nat × Nat × Nat)} {pc : Nat} {ls : List (Nat × Value)} {st : List Value} {M : Mem9} {κ : Ka9} (C : OK9 z N X out nL cm cc own d rk hh) {x y : Int32} {K : Int32 → Re9} (hd : decode cc pc = .ok (.idiv, 1)) (k : ∀ v, J9 z N X out nL (pc + 1) (ls) (.int v :: st) M κ (K v)) : J9 z N X out nL (pc) (ls) (.int y :: .int x :: st) M κ ((dv9 x y).bind K) := by
  obtain ⟨p, l, e, R, s, m, args, below, meth, c, QQ⟩ := X
  obtain ⟨hx, hb, hml, hown, hts, -⟩ := C
  intro hF H locs lsA hP hS hl
  unfold dv9 at hF
  by_cases h0 : y = 0
  · rw [if_pos h0] at hF
    cases hF
  · rw [if_neg h0] at hF
    exact lv_idiv hx hb hd h0 (k _ hF H locs lsA hP hS hl)

theorem j_irem {z : Sh9} {N : Nv9} {X : Cx9} {out : Out9 × Mem9} {nL : Nat} {cm : Ka9} {cc : ByteArray} {own : String} {d : Nat} {rk : Nat} {hh : List (Nat × Nat × Nat × Nat)} {pc : Nat} {ls : List (Nat × Value)} {st : List Value} {M : Mem9} {κ : Ka9} (C : OK9 z N X out nL cm cc own d rk hh) {x y : Int32} {K : Int32 → Re9} (hd : decode cc pc = .ok (.irem, 1)) (k : ∀ v, J9 z N X out nL (pc + 1) (ls) (.int v :: st) M κ (K v)) : J9 z N X out nL (pc) (ls) (.int y :: .int x :: st) M κ ((rm9 x y).bind K) := by
  obtain ⟨p, l, e, R, s, m, args, below, meth, c, QQ⟩ := X
  obtain ⟨hx, hb, hml, hown, hts, -⟩ := C
  intro hF H locs lsA hP hS hl
  unfold rm9 at hF
  by_cases h0 : y = 0
  · rw [if_pos h0] at hF
    cases hF
  · rw [if_neg h0] at hF
    exact lv_irem hx hb hd h0 (k _ hF H locs lsA hP hS hl)

theorem j_ldiv {z : Sh9} {N : Nv9} {X : Cx9} {out : Out9 × Mem9} {nL : Nat} {cm : Ka9} {cc : ByteArray} {own : String} {d : Nat} {rk : Nat} {hh : List (Nat × Nat × Nat × Nat)} {pc : Nat} {ls : List (Nat × Value)} {st : List Value} {M : Mem9} {κ : Ka9} (C : OK9 z N X out nL cm cc own d rk hh) {x y : Int64} {K : Int64 → Re9} (hd : decode cc pc = .ok (.ldiv, 1)) (k : ∀ v, J9 z N X out nL (pc + 1) (ls) (.long v :: st) M κ (K v)) : J9 z N X out nL (pc) (ls) (.long y :: .long x :: st) M κ ((dl9 x y).bind K) := by
  obtain ⟨p, l, e, R, s, m, args, below, meth, c, QQ⟩ := X
  obtain ⟨hx, hb, hml, hown, hts, -⟩ := C
  intro hF H locs lsA hP hS hl
  unfold dl9 at hF
  by_cases h0 : y = 0
  · rw [if_pos h0] at hF
    cases hF
  · rw [if_neg h0] at hF
    exact lv_ldiv hx hb hd h0 (k _ hF H locs lsA hP hS hl)

theorem j_lrem {z : Sh9} {N : Nv9} {X : Cx9} {out : Out9 × Mem9} {nL : Nat} {cm : Ka9} {cc : ByteArray} {own : String} {d : Nat} {rk : Nat} {hh : List (Nat × Nat × Nat × Nat)} {pc : Nat} {ls : List (Nat × Value)} {st : List Value} {M : Mem9} {κ : Ka9} (C : OK9 z N X out nL cm cc own d rk hh) {x y : Int64} {K : Int64 → Re9} (hd : decode cc pc = .ok (.lrem, 1)) (k : ∀ v, J9 z N X out nL (pc + 1) (ls) (.long v :: st) M κ (K v)) : J9 z N X out nL (pc) (ls) (.long y :: .long x :: st) M κ ((rl9 x y).bind K) := by
  obtain ⟨p, l, e, R, s, m, args, below, meth, c, QQ⟩ := X
  obtain ⟨hx, hb, hml, hown, hts, -⟩ := C
  intro hF H locs lsA hP hS hl
  unfold rl9 at hF
  by_cases h0 : y = 0
  · rw [if_pos h0] at hF
    cases hF
  · rw [if_neg h0] at hF
    exact lv_lrem hx hb hd h0 (k _ hF H locs lsA hP hS hl)

theorem j_if_eq {z : Sh9} {N : Nv9} {X : Cx9} {out : Out9 × Mem9} {nL : Nat} {cm : Ka9} {cc : ByteArray} {own : String} {d : Nat} {rk : Nat} {hh : List (Nat × Nat × Nat × Nat)} {pc : Nat} {ls : List (Nat × Value)} {st : List Value} {M : Mem9} {κ : Ka9} (C : OK9 z N X out nL cm cc own d rk hh) {x : Int32} {F1 F2 : Re9} {off : Int} {tgt : Nat} (hd : decode cc pc = .ok (.ifCond .eq off, 3)) (ht : (pc : Int) + off = (tgt : Int)) (k1 : x = 0 → J9 z N X out nL (tgt) (ls) (st) M κ F1) (k2 : ¬ (x = 0) → J9 z N X out nL (pc + 3) (ls) (st) M κ F2) : J9 z N X out nL (pc) (ls) (.int x :: st) M κ (if x = 0 then F1 else F2) := by
  obtain ⟨p, l, e, R, s, m, args, below, meth, c, QQ⟩ := X
  obtain ⟨hx, hb, hml, hown, hts, -⟩ := C
  intro hF H locs lsA hP hS hl
  refine lv_if_eq hx hb hd ht (fun q => ?_) (fun q => ?_)
  · rw [if_pos q] at hF
    exact k1 q hF H locs lsA hP hS hl
  · rw [if_neg q] at hF
    exact k2 q hF H locs lsA hP hS hl

theorem j_if_ne {z : Sh9} {N : Nv9} {X : Cx9} {out : Out9 × Mem9} {nL : Nat} {cm : Ka9} {cc : ByteArray} {own : String} {d : Nat} {rk : Nat} {hh : List (Nat × Nat × Nat × Nat)} {pc : Nat} {ls : List (Nat × Value)} {st : List Value} {M : Mem9} {κ : Ka9} (C : OK9 z N X out nL cm cc own d rk hh) {x : Int32} {F1 F2 : Re9} {off : Int} {tgt : Nat} (hd : decode cc pc = .ok (.ifCond .ne off, 3)) (ht : (pc : Int) + off = (tgt : Int)) (k1 : ¬ x = 0 → J9 z N X out nL (tgt) (ls) (st) M κ F1) (k2 : x = 0 → J9 z N X out nL (pc + 3) (ls) (st) M κ F2) : J9 z N X out nL (pc) (ls) (.int x :: st) M κ (if x = 0 then F2 else F1) := by
  obtain ⟨p, l, e, R, s, m, args, below, meth, c, QQ⟩ := X
  obtain ⟨hx, hb, hml, hown, hts, -⟩ := C
  intro hF H locs lsA hP hS hl
  refine lv_if_ne hx hb hd ht (fun q => ?_) (fun q => ?_)
  · rw [if_neg q] at hF
    exact k1 q hF H locs lsA hP hS hl
  · rw [if_pos q] at hF
    exact k2 q hF H locs lsA hP hS hl

theorem j_if_lt {z : Sh9} {N : Nv9} {X : Cx9} {out : Out9 × Mem9} {nL : Nat} {cm : Ka9} {cc : ByteArray} {own : String} {d : Nat} {rk : Nat} {hh : List (Nat × Nat × Nat × Nat)} {pc : Nat} {ls : List (Nat × Value)} {st : List Value} {M : Mem9} {κ : Ka9} (C : OK9 z N X out nL cm cc own d rk hh) {x : Int32} {F1 F2 : Re9} {off : Int} {tgt : Nat} (hd : decode cc pc = .ok (.ifCond .lt off, 3)) (ht : (pc : Int) + off = (tgt : Int)) (k1 : x < 0 → J9 z N X out nL (tgt) (ls) (st) M κ F1) (k2 : ¬ (x < 0) → J9 z N X out nL (pc + 3) (ls) (st) M κ F2) : J9 z N X out nL (pc) (ls) (.int x :: st) M κ (if x < 0 then F1 else F2) := by
  obtain ⟨p, l, e, R, s, m, args, below, meth, c, QQ⟩ := X
  obtain ⟨hx, hb, hml, hown, hts, -⟩ := C
  intro hF H locs lsA hP hS hl
  refine lv_if_lt hx hb hd ht (fun q => ?_) (fun q => ?_)
  · rw [if_pos q] at hF
    exact k1 q hF H locs lsA hP hS hl
  · rw [if_neg q] at hF
    exact k2 q hF H locs lsA hP hS hl

theorem j_if_ge {z : Sh9} {N : Nv9} {X : Cx9} {out : Out9 × Mem9} {nL : Nat} {cm : Ka9} {cc : ByteArray} {own : String} {d : Nat} {rk : Nat} {hh : List (Nat × Nat × Nat × Nat)} {pc : Nat} {ls : List (Nat × Value)} {st : List Value} {M : Mem9} {κ : Ka9} (C : OK9 z N X out nL cm cc own d rk hh) {x : Int32} {F1 F2 : Re9} {off : Int} {tgt : Nat} (hd : decode cc pc = .ok (.ifCond .ge off, 3)) (ht : (pc : Int) + off = (tgt : Int)) (k1 : 0 ≤ x → J9 z N X out nL (tgt) (ls) (st) M κ F1) (k2 : ¬ (0 ≤ x) → J9 z N X out nL (pc + 3) (ls) (st) M κ F2) : J9 z N X out nL (pc) (ls) (.int x :: st) M κ (if 0 ≤ x then F1 else F2) := by
  obtain ⟨p, l, e, R, s, m, args, below, meth, c, QQ⟩ := X
  obtain ⟨hx, hb, hml, hown, hts, -⟩ := C
  intro hF H locs lsA hP hS hl
  refine lv_if_ge hx hb hd ht (fun q => ?_) (fun q => ?_)
  · rw [if_pos q] at hF
    exact k1 q hF H locs lsA hP hS hl
  · rw [if_neg q] at hF
    exact k2 q hF H locs lsA hP hS hl

theorem j_if_gt {z : Sh9} {N : Nv9} {X : Cx9} {out : Out9 × Mem9} {nL : Nat} {cm : Ka9} {cc : ByteArray} {own : String} {d : Nat} {rk : Nat} {hh : List (Nat × Nat × Nat × Nat)} {pc : Nat} {ls : List (Nat × Value)} {st : List Value} {M : Mem9} {κ : Ka9} (C : OK9 z N X out nL cm cc own d rk hh) {x : Int32} {F1 F2 : Re9} {off : Int} {tgt : Nat} (hd : decode cc pc = .ok (.ifCond .gt off, 3)) (ht : (pc : Int) + off = (tgt : Int)) (k1 : 0 < x → J9 z N X out nL (tgt) (ls) (st) M κ F1) (k2 : ¬ (0 < x) → J9 z N X out nL (pc + 3) (ls) (st) M κ F2) : J9 z N X out nL (pc) (ls) (.int x :: st) M κ (if 0 < x then F1 else F2) := by
  obtain ⟨p, l, e, R, s, m, args, below, meth, c, QQ⟩ := X
  obtain ⟨hx, hb, hml, hown, hts, -⟩ := C
  intro hF H locs lsA hP hS hl
  refine lv_if_gt hx hb hd ht (fun q => ?_) (fun q => ?_)
  · rw [if_pos q] at hF
    exact k1 q hF H locs lsA hP hS hl
  · rw [if_neg q] at hF
    exact k2 q hF H locs lsA hP hS hl

theorem j_if_le {z : Sh9} {N : Nv9} {X : Cx9} {out : Out9 × Mem9} {nL : Nat} {cm : Ka9} {cc : ByteArray} {own : String} {d : Nat} {rk : Nat} {hh : List (Nat × Nat × Nat × Nat)} {pc : Nat} {ls : List (Nat × Value)} {st : List Value} {M : Mem9} {κ : Ka9} (C : OK9 z N X out nL cm cc own d rk hh) {x : Int32} {F1 F2 : Re9} {off : Int} {tgt : Nat} (hd : decode cc pc = .ok (.ifCond .le off, 3)) (ht : (pc : Int) + off = (tgt : Int)) (k1 : x ≤ 0 → J9 z N X out nL (tgt) (ls) (st) M κ F1) (k2 : ¬ (x ≤ 0) → J9 z N X out nL (pc + 3) (ls) (st) M κ F2) : J9 z N X out nL (pc) (ls) (.int x :: st) M κ (if x ≤ 0 then F1 else F2) := by
  obtain ⟨p, l, e, R, s, m, args, below, meth, c, QQ⟩ := X
  obtain ⟨hx, hb, hml, hown, hts, -⟩ := C
  intro hF H locs lsA hP hS hl
  refine lv_if_le hx hb hd ht (fun q => ?_) (fun q => ?_)
  · rw [if_pos q] at hF
    exact k1 q hF H locs lsA hP hS hl
  · rw [if_neg q] at hF
    exact k2 q hF H locs lsA hP hS hl

theorem j_icmp_eq {z : Sh9} {N : Nv9} {X : Cx9} {out : Out9 × Mem9} {nL : Nat} {cm : Ka9} {cc : ByteArray} {own : String} {d : Nat} {rk : Nat} {hh : List (Nat × Nat × Nat × Nat)} {pc : Nat} {ls : List (Nat × Value)} {st : List Value} {M : Mem9} {κ : Ka9} (C : OK9 z N X out nL cm cc own d rk hh) {x y : Int32} {F1 F2 : Re9} {off : Int} {tgt : Nat} (hd : decode cc pc = .ok (.if_icmp .eq off, 3)) (ht : (pc : Int) + off = (tgt : Int)) (k1 : x = y → J9 z N X out nL (tgt) (ls) (st) M κ F1) (k2 : ¬ (x = y) → J9 z N X out nL (pc + 3) (ls) (st) M κ F2) : J9 z N X out nL (pc) (ls) (.int y :: .int x :: st) M κ (if x = y then F1 else F2) := by
  obtain ⟨p, l, e, R, s, m, args, below, meth, c, QQ⟩ := X
  obtain ⟨hx, hb, hml, hown, hts, -⟩ := C
  intro hF H locs lsA hP hS hl
  refine lv_icmp_eq hx hb hd ht (fun q => ?_) (fun q => ?_)
  · rw [if_pos q] at hF
    exact k1 q hF H locs lsA hP hS hl
  · rw [if_neg q] at hF
    exact k2 q hF H locs lsA hP hS hl

theorem j_icmp_ne {z : Sh9} {N : Nv9} {X : Cx9} {out : Out9 × Mem9} {nL : Nat} {cm : Ka9} {cc : ByteArray} {own : String} {d : Nat} {rk : Nat} {hh : List (Nat × Nat × Nat × Nat)} {pc : Nat} {ls : List (Nat × Value)} {st : List Value} {M : Mem9} {κ : Ka9} (C : OK9 z N X out nL cm cc own d rk hh) {x y : Int32} {F1 F2 : Re9} {off : Int} {tgt : Nat} (hd : decode cc pc = .ok (.if_icmp .ne off, 3)) (ht : (pc : Int) + off = (tgt : Int)) (k1 : ¬ x = y → J9 z N X out nL (tgt) (ls) (st) M κ F1) (k2 : x = y → J9 z N X out nL (pc + 3) (ls) (st) M κ F2) : J9 z N X out nL (pc) (ls) (.int y :: .int x :: st) M κ (if x = y then F2 else F1) := by
  obtain ⟨p, l, e, R, s, m, args, below, meth, c, QQ⟩ := X
  obtain ⟨hx, hb, hml, hown, hts, -⟩ := C
  intro hF H locs lsA hP hS hl
  refine lv_icmp_ne hx hb hd ht (fun q => ?_) (fun q => ?_)
  · rw [if_neg q] at hF
    exact k1 q hF H locs lsA hP hS hl
  · rw [if_pos q] at hF
    exact k2 q hF H locs lsA hP hS hl

theorem j_icmp_lt {z : Sh9} {N : Nv9} {X : Cx9} {out : Out9 × Mem9} {nL : Nat} {cm : Ka9} {cc : ByteArray} {own : String} {d : Nat} {rk : Nat} {hh : List (Nat × Nat × Nat × Nat)} {pc : Nat} {ls : List (Nat × Value)} {st : List Value} {M : Mem9} {κ : Ka9} (C : OK9 z N X out nL cm cc own d rk hh) {x y : Int32} {F1 F2 : Re9} {off : Int} {tgt : Nat} (hd : decode cc pc = .ok (.if_icmp .lt off, 3)) (ht : (pc : Int) + off = (tgt : Int)) (k1 : x < y → J9 z N X out nL (tgt) (ls) (st) M κ F1) (k2 : ¬ (x < y) → J9 z N X out nL (pc + 3) (ls) (st) M κ F2) : J9 z N X out nL (pc) (ls) (.int y :: .int x :: st) M κ (if x < y then F1 else F2) := by
  obtain ⟨p, l, e, R, s, m, args, below, meth, c, QQ⟩ := X
  obtain ⟨hx, hb, hml, hown, hts, -⟩ := C
  intro hF H locs lsA hP hS hl
  refine lv_icmp_lt hx hb hd ht (fun q => ?_) (fun q => ?_)
  · rw [if_pos q] at hF
    exact k1 q hF H locs lsA hP hS hl
  · rw [if_neg q] at hF
    exact k2 q hF H locs lsA hP hS hl

theorem j_icmp_ge {z : Sh9} {N : Nv9} {X : Cx9} {out : Out9 × Mem9} {nL : Nat} {cm : Ka9} {cc : ByteArray} {own : String} {d : Nat} {rk : Nat} {hh : List (Nat × Nat × Nat × Nat)} {pc : Nat} {ls : List (Nat × Value)} {st : List Value} {M : Mem9} {κ : Ka9} (C : OK9 z N X out nL cm cc own d rk hh) {x y : Int32} {F1 F2 : Re9} {off : Int} {tgt : Nat} (hd : decode cc pc = .ok (.if_icmp .ge off, 3)) (ht : (pc : Int) + off = (tgt : Int)) (k1 : y ≤ x → J9 z N X out nL (tgt) (ls) (st) M κ F1) (k2 : ¬ (y ≤ x) → J9 z N X out nL (pc + 3) (ls) (st) M κ F2) : J9 z N X out nL (pc) (ls) (.int y :: .int x :: st) M κ (if y ≤ x then F1 else F2) := by
  obtain ⟨p, l, e, R, s, m, args, below, meth, c, QQ⟩ := X
  obtain ⟨hx, hb, hml, hown, hts, -⟩ := C
  intro hF H locs lsA hP hS hl
  refine lv_icmp_ge hx hb hd ht (fun q => ?_) (fun q => ?_)
  · rw [if_pos q] at hF
    exact k1 q hF H locs lsA hP hS hl
  · rw [if_neg q] at hF
    exact k2 q hF H locs lsA hP hS hl

theorem j_icmp_gt {z : Sh9} {N : Nv9} {X : Cx9} {out : Out9 × Mem9} {nL : Nat} {cm : Ka9} {cc : ByteArray} {own : String} {d : Nat} {rk : Nat} {hh : List (Nat × Nat × Nat × Nat)} {pc : Nat} {ls : List (Nat × Value)} {st : List Value} {M : Mem9} {κ : Ka9} (C : OK9 z N X out nL cm cc own d rk hh) {x y : Int32} {F1 F2 : Re9} {off : Int} {tgt : Nat} (hd : decode cc pc = .ok (.if_icmp .gt off, 3)) (ht : (pc : Int) + off = (tgt : Int)) (k1 : y < x → J9 z N X out nL (tgt) (ls) (st) M κ F1) (k2 : ¬ (y < x) → J9 z N X out nL (pc + 3) (ls) (st) M κ F2) : J9 z N X out nL (pc) (ls) (.int y :: .int x :: st) M κ (if y < x then F1 else F2) := by
  obtain ⟨p, l, e, R, s, m, args, below, meth, c, QQ⟩ := X
  obtain ⟨hx, hb, hml, hown, hts, -⟩ := C
  intro hF H locs lsA hP hS hl
  refine lv_icmp_gt hx hb hd ht (fun q => ?_) (fun q => ?_)
  · rw [if_pos q] at hF
    exact k1 q hF H locs lsA hP hS hl
  · rw [if_neg q] at hF
    exact k2 q hF H locs lsA hP hS hl

theorem j_icmp_le {z : Sh9} {N : Nv9} {X : Cx9} {out : Out9 × Mem9} {nL : Nat} {cm : Ka9} {cc : ByteArray} {own : String} {d : Nat} {rk : Nat} {hh : List (Nat × Nat × Nat × Nat)} {pc : Nat} {ls : List (Nat × Value)} {st : List Value} {M : Mem9} {κ : Ka9} (C : OK9 z N X out nL cm cc own d rk hh) {x y : Int32} {F1 F2 : Re9} {off : Int} {tgt : Nat} (hd : decode cc pc = .ok (.if_icmp .le off, 3)) (ht : (pc : Int) + off = (tgt : Int)) (k1 : x ≤ y → J9 z N X out nL (tgt) (ls) (st) M κ F1) (k2 : ¬ (x ≤ y) → J9 z N X out nL (pc + 3) (ls) (st) M κ F2) : J9 z N X out nL (pc) (ls) (.int y :: .int x :: st) M κ (if x ≤ y then F1 else F2) := by
  obtain ⟨p, l, e, R, s, m, args, below, meth, c, QQ⟩ := X
  obtain ⟨hx, hb, hml, hown, hts, -⟩ := C
  intro hF H locs lsA hP hS hl
  refine lv_icmp_le hx hb hd ht (fun q => ?_) (fun q => ?_)
  · rw [if_pos q] at hF
    exact k1 q hF H locs lsA hP hS hl
  · rw [if_neg q] at hF
    exact k2 q hF H locs lsA hP hS hl
