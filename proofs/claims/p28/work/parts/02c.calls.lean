
/-! ===== the rules that touch the cells, the calls, the ends ===== -/
theorem j_goto {z : Sh9} {N : Nv9} {X : Cx9} {out : Out9 × Mem9} {nL : Nat} {cm : Ka9} {cc : ByteArray} {own : String} {d : Nat} {rk : Nat} {hh : List (Nat × Nat × Nat × Nat)} {pc : Nat} {ls : List (Nat × Value)} {st : List Value} {M : Mem9} {κ : Ka9} {F : Re9} (C : OK9 z N X out nL cm cc own d rk hh) {off : Int} {tgt : Nat} (hd : decode cc pc = .ok (.goto off, 3)) (ht : (pc : Int) + off = (tgt : Int)) (k : J9 z N X out nL tgt ls st M κ F) : J9 z N X out nL pc ls st M κ F := by
  obtain ⟨p, l, e, R, s, m, args, below, meth, c, QQ⟩ := X
  obtain ⟨hx, hb, hml, hown, hts, -⟩ := C
  intro hF H locs lsA hP hS hl
  exact lv_goto hx hb hd ht (k hF H locs lsA hP hS hl)
theorem j_tsIn {z : Sh9} {N : Nv9} {X : Cx9} {out : Out9 × Mem9} {nL : Nat} {cm : Ka9} {cc : ByteArray} {own : String} {d : Nat} {rk : Nat} {hh : List (Nat × Nat × Nat × Nat)} {pc : Nat} {ls : List (Nat × Value)} {st : List Value} {M : Mem9} {κ : Ka9} {F : Re9} (C : OK9 z N X out nL cm cc own d rk hh) {dflt lo hi : Int} {offs : Array Int} {len : Nat} {x : Int32} (v : Int) {off : Int} {tgt : Nat} (hd : decode cc pc = .ok (.tableswitch dflt lo hi offs, len)) (hv : x.toInt = v) (h1 : lo ≤ v ∧ v ≤ hi) (ho : offs[(v - lo).toNat]? = some off) (ht : (pc : Int) + off = (tgt : Int)) (k : J9 z N X out nL tgt ls st M κ F) : J9 z N X out nL pc ls (.int x :: st) M κ F := by
  obtain ⟨p, l, e, R, s, m, args, below, meth, c, QQ⟩ := X
  obtain ⟨hx, hb, hml, hown, hts, -⟩ := C
  intro hF H locs lsA hP hS hl
  exact lv_tableIn hx hb hd (by omega) (by omega) (by rw [hv]; exact ho) ht (k hF H locs lsA hP hS hl)
theorem j_tsOut {z : Sh9} {N : Nv9} {X : Cx9} {out : Out9 × Mem9} {nL : Nat} {cm : Ka9} {cc : ByteArray} {own : String} {d : Nat} {rk : Nat} {hh : List (Nat × Nat × Nat × Nat)} {pc : Nat} {ls : List (Nat × Value)} {st : List Value} {M : Mem9} {κ : Ka9} {F : Re9} (C : OK9 z N X out nL cm cc own d rk hh) {dflt lo hi : Int} {offs : Array Int} {len : Nat} {x : Int32} {tgt : Nat} (hd : decode cc pc = .ok (.tableswitch dflt lo hi offs, len)) (h : x.toInt < lo ∨ hi < x.toInt) (ht : (pc : Int) + dflt = (tgt : Int)) (k : J9 z N X out nL tgt ls st M κ F) : J9 z N X out nL pc ls (.int x :: st) M κ F := by
  obtain ⟨p, l, e, R, s, m, args, below, meth, c, QQ⟩ := X
  obtain ⟨hx, hb, hml, hown, hts, -⟩ := C
  intro hF H locs lsA hP hS hl
  exact lv_tableOut hx hb hd h ht (k hF H locs lsA hP hS hl)
theorem j_lookup {z : Sh9} {N : Nv9} {X : Cx9} {out : Out9 × Mem9} {nL : Nat} {cm : Ka9} {cc : ByteArray} {own : String} {d : Nat} {rk : Nat} {hh : List (Nat × Nat × Nat × Nat)} {pc : Nat} {ls : List (Nat × Value)} {st : List Value} {M : Mem9} {κ : Ka9} {F : Re9} (C : OK9 z N X out nL cm cc own d rk hh) {dflt : Int} {ps : Array (Int × Int)} {len : Nat} {x : Int32} {off : Int} {tgt : Nat} (hd : decode cc pc = .ok (.lookupswitch dflt ps, len)) (hp : (ps.toList.zip (ps.toList.drop 1)).all (fun (a, next) => a.1 < next.1) = true) (ho : Op.lookupswitch.offset ps.toList dflt x.toInt = off) (ht : (pc : Int) + off = (tgt : Int)) (k : J9 z N X out nL tgt ls st M κ F) : J9 z N X out nL pc ls (.int x :: st) M κ F := by
  obtain ⟨p, l, e, R, s, m, args, below, meth, c, QQ⟩ := X
  obtain ⟨hx, hb, hml, hown, hts, -⟩ := C
  intro hF H locs lsA hP hS hl
  exact lv_lookup hx hb hd hp ho ht (k hF H locs lsA hP hS hl)
theorem j_ldc2 {z : Sh9} {N : Nv9} {X : Cx9} {out : Out9 × Mem9} {nL : Nat} {cm : Ka9} {cc : ByteArray} {own : String} {d : Nat} {rk : Nat} {hh : List (Nat × Nat × Nat × Nat)} {pc : Nat} {ls : List (Nat × Value)} {st : List Value} {M : Mem9} {κ : Ka9} {F : Re9} (C : OK9 z N X out nL cm cc own d rk hh) {idx : Nat} {v : Int64} (hd : decode cc pc = .ok (.ldc2_w idx, 3)) (hc : Cond.constantLong own idx v ∈ gw9) (k : J9 z N X out nL (pc + 3) ls (.long v :: st) M κ F) : J9 z N X out nL pc ls st M κ F := by
  obtain ⟨p, l, e, R, s, m, args, below, meth, c, QQ⟩ := X
  obtain ⟨hx, hb, hml, hown, hts, -⟩ := C
  intro hF H locs lsA hP hS hl
  exact lv_ldc2 hx hb hown (hts _ hc) hd (k hF H locs lsA hP hS hl)
theorem j_ldc {z : Sh9} {N : Nv9} {X : Cx9} {out : Out9 × Mem9} {nL : Nat} {cm : Ka9} {cc : ByteArray} {own : String} {d : Nat} {rk : Nat} {hh : List (Nat × Nat × Nat × Nat)} {pc : Nat} {ls : List (Nat × Value)} {st : List Value} {M : Mem9} {κ : Ka9} {F : Re9} (C : OK9 z N X out nL cm cc own d rk hh) {idx : Nat} {v : Int32} (hd : decode cc pc = .ok (.ldc idx, 2)) (hc : Cond.constant own idx v ∈ gw9) (k : J9 z N X out nL (pc + 2) ls (.int v :: st) M κ F) : J9 z N X out nL pc ls st M κ F := by
  obtain ⟨p, l, e, R, s, m, args, below, meth, c, QQ⟩ := X
  obtain ⟨hx, hb, hml, hown, hts, -⟩ := C
  intro hF H locs lsA hP hS hl
  exact lv_ldc hx hb hown (hts _ hc) hd (k hF H locs lsA hP hS hl)
/-- a field's link: by the class's place, the field's place -/
def FL9 (own : String) (idx ci k : Nat) (T : u_T) (Nf : Nat) : Prop := vwCl[ci]? = some ((T k).1, T, Nf) ∧ k < Nf ∧ (∀ w ∈ u_ws (T k).1 T Nf, w ∈ gw9) ∧ Cond.fieldLink own idx (T k).1 (T k).2.1 (T k).2.2.1 ∈ gw9 ∧ (∃ ty0 : Nat → FieldType, ∀ j, j < Nf → parseFieldDescriptor (T j).2.2.1 = some (ty0 j)) ∧ (∀ a, a < Nf → ∀ b, b < Nf → a ≠ b → (T a).2.1 ≠ (T b).2.1)
def FI9 (ci k : Nat) : Prop := ∀ (ca : Nat → ClassId) (a n : Nat) (m : Nat → Int32), ∃ fs : List Value, mk9 ca a m (ci, n) = .inr (ci, fs) ∧ fs[k]? = some (.int (m k)) ∧ k < fs.length ∧ ∀ v : Int32, mk9 ca a (fun j => if j = k then v else m j) (ci, n) = .inr (ci, fs.set k (.int v))
def FR9 (ci k off : Nat) : Prop := ∀ (ca : Nat → ClassId) (a n : Nat) (m : Nat → Int32), ∃ fs : List Value, mk9 ca a m (ci, n) = .inr (ci, fs) ∧ fs[k]? = some (.ref (a + off))
theorem mk9_kd {ca : Nat → ClassId} {a : Nat} {m : Nat → Int32} {kd : Nat × Nat} {ci : Nat} (h : kd.1 = ci) : mk9 ca a m kd = mk9 ca a m (ci, kd.2) := by rw [← h]
theorem okO9.add {z : Sh9} {a ci : Nat} (h : okO9 z a ci) : ∃ i, i < z.2.1 ∧ a = z.1 + i ∧ (z.2.2 i).1 = ci := ⟨a - z.1, by omega, by omega, h.2.2⟩
theorem okA9.add {z : Sh9} {a t : Nat} {i : Int32} (h : okA9 z a t i) : ∃ j, j < z.2.1 ∧ a = z.1 + j ∧ (z.2.2 j).1 = t ∧ vp_in i (z.2.2 j).2 := ⟨a - z.1, by omega, by omega, h.2.2.1, vp_in_iff.mpr h.2.2.2⟩
theorem j_getI {z : Sh9} {N : Nv9} {X : Cx9} {out : Out9 × Mem9} {nL : Nat} {cm : Ka9} {cc : ByteArray} {own : String} {d : Nat} {rk : Nat} {hh : List (Nat × Nat × Nat × Nat)} {pc : Nat} {ls : List (Nat × Value)} {st : List Value} {M : Mem9} {κ : Ka9} (C : OK9 z N X out nL cm cc own d rk hh) {idx ci k Nf a : Nat} {T : u_T} {K : Int32 → Re9} (hd : decode cc pc = .ok (.getfield idx, 3)) (hf : FL9 own idx ci k T Nf) (hi : FI9 ci k) (kk : ∀ v, J9 z N X out nL (pc + 3) ls (.int v :: st) M κ (K v)) : J9 z N X out nL pc ls (.ref a :: st) M κ ((gf9 z M a ci k).bind K) := by
  obtain ⟨p, l, e, R, s, m, args, below, meth, c, QQ⟩ := X
  obtain ⟨hx, hb, hml, hown, hts, hE, -⟩ := C
  obtain ⟨sb, L, xs, D, ca⟩ := N
  intro hF H locs lsA hP hS hl
  unfold gf9 at hF
  by_cases h0 : okO9 z a ci
  · rw [if_pos h0] at hF
    obtain ⟨i, hi3, rfl, hkd⟩ := h0.add
    obtain ⟨f1, f2, f3, f4, f5, f6⟩ := hf
    obtain ⟨fs, g1, g2, -⟩ := hi ca (z.1 + i) (z.2.2 i).2 (M (z.1 + i))
    exact va_get (D := D) (ci := ci) (v := .int (M (z.1 + i) k)) hx hb hts f3 hown hE.1 hP i (by rw [WS9_get hi3, mk9_kd hkd, g1]) f1 k f2 (hts _ f4) (fun _ h9 => h9) g2 hd (kk _ hF H locs lsA hP hS hl)
  · rw [if_neg h0] at hF
    cases hF
theorem j_getR {z : Sh9} {N : Nv9} {X : Cx9} {out : Out9 × Mem9} {nL : Nat} {cm : Ka9} {cc : ByteArray} {own : String} {d : Nat} {rk : Nat} {hh : List (Nat × Nat × Nat × Nat)} {pc : Nat} {ls : List (Nat × Value)} {st : List Value} {M : Mem9} {κ : Ka9} (C : OK9 z N X out nL cm cc own d rk hh) {idx ci k Nf a off : Nat} {T : u_T} {K : Nat → Re9} (hd : decode cc pc = .ok (.getfield idx, 3)) (hf : FL9 own idx ci k T Nf) (hi : FR9 ci k off) (kk : ∀ v, J9 z N X out nL (pc + 3) ls (.ref v :: st) M κ (K v)) : J9 z N X out nL pc ls (.ref a :: st) M κ ((rf9 z a ci off).bind K) := by
  obtain ⟨p, l, e, R, s, m, args, below, meth, c, QQ⟩ := X
  obtain ⟨hx, hb, hml, hown, hts, hE, -⟩ := C
  obtain ⟨sb, L, xs, D, ca⟩ := N
  intro hF H locs lsA hP hS hl
  unfold rf9 at hF
  by_cases h0 : okO9 z a ci
  · rw [if_pos h0] at hF
    obtain ⟨i, hi3, rfl, hkd⟩ := h0.add
    obtain ⟨f1, f2, f3, f4, f5, f6⟩ := hf
    obtain ⟨fs, g1, g2⟩ := hi ca (z.1 + i) (z.2.2 i).2 (M (z.1 + i))
    exact va_get (D := D) (ci := ci) (v := .ref (z.1 + i + off)) hx hb hts f3 hown hE.1 hP i (by rw [WS9_get hi3, mk9_kd hkd, g1]) f1 k f2 (hts _ f4) (fun _ h9 => h9) g2 hd (kk _ hF H locs lsA hP hS hl)
  · rw [if_neg h0] at hF
    cases hF
theorem j_put0 {z : Sh9} {N : Nv9} {p : Program} {l : Launch} {e : Env} {R : Room} {s : State} {m : MethodId} {args : Array Value} {below : List Frame} {meth : Method} {c : Code} {QQ : State → Prop} {cc : ByteArray} {own : String} {pc : Nat} {rest : List Value} {M : Mem9} {cells slots : Nat} {H : Heap} {locs : List Loc} {lsA : Array Slot} {idx ci k Nf a : Nat} {T : u_T} {v : Int32} {ty : FieldType} (hx : p.tables.exec = Jvm.exec) (hb : c.code = cc) (hown : s.vm.findClass own = some m.cls) (hts : ∀ w ∈ gw9, w.before args s = true) (hE : EV9 z N s)
    (hd : decode cc pc = .ok (.putfield idx, 3)) (hf : FL9 own idx ci k T Nf) (hi : FI9 ci k) (hfin : (T k).2.2.2 = false) (hty : parseFieldDescriptor (T k).2.2.1 = some ty) (hn : narrow ty (.int v) = .int v) (hfit : fits ty (.int v) = true) (h0 : okO9 z a ci) (hP : PM9 z N M H) (hS : va_S (A9 z) s.heap H locs)
    (kk : ∀ (H1 : Heap) (locs1 : List Loc), PM9 z N (wr9 M a k v) H1 → va_S (A9 z) s.heap H1 locs1 → W p l e R s m args below meth c H1 locs1 cells slots QQ (F0 m (pc + 3) lsA rest)) : W p l e R s m args below meth c H locs cells slots QQ (F0 m pc lsA (.int v :: .ref a :: rest)) := by
  obtain ⟨sb, L, xs, D, ca⟩ := N
  obtain ⟨i, hi3, rfl, hkd⟩ := h0.add
  obtain ⟨f1, f2, f3, f4, ⟨ty0, f5⟩, f6⟩ := hf
  obtain ⟨fs, g1, g2, g3, g4⟩ := hi ca (z.1 + i) (z.2.2 i).2 (M (z.1 + i))
  refine va_put (D := D) (ci := ci) (v := .int v) (ty := ty) hx hb hts f3 ty0 f5 f6 hown hE.1 hP (WS9_D z ca M) hS i (by rw [WS9_get hi3, mk9_kd hkd, g1]) f1 k f2 (hts _ f4) (fun _ h9 => h9) hfin hty hn hfit g3 hd (fun H1 locs1 hP1 hD1 hS1 => kk H1 locs1 ?_ hS1)
  rw [WS9_set (M' := wr9 M (z.1 + i) k v) hi3 (fun b hb => wr9_ne hb) (by rw [wr9_eq, mk9_kd hkd]; exact g4 v)] at hP1
  exact hP1
theorem j_putI {z : Sh9} {N : Nv9} {X : Cx9} {out : Out9 × Mem9} {nL : Nat} {cm : Ka9} {cc : ByteArray} {own : String} {d : Nat} {rk : Nat} {hh : List (Nat × Nat × Nat × Nat)} {pc : Nat} {ls : List (Nat × Value)} {st : List Value} {M : Mem9} {κ : Ka9} (C : OK9 z N X out nL cm cc own d rk hh) {idx ci k Nf a : Nat} {T : u_T} {v : Int32} {K : Mem9 → Re9} (hd : decode cc pc = .ok (.putfield idx, 3)) (hf : FL9 own idx ci k T Nf) (hi : FI9 ci k) (hfin : (T k).2.2.2 = false) (hty : parseFieldDescriptor (T k).2.2.1 = some .int) (kk : ∀ M', J9 z N X out nL (pc + 3) ls st M' κ (K M')) : J9 z N X out nL pc ls (.int v :: .ref a :: st) M κ ((pf9 z M a ci k v).bind K) := by
  obtain ⟨p, l, e, R, s, m, args, below, meth, c, QQ⟩ := X
  obtain ⟨hx, hb, hml, hown, hts, hE, -⟩ := C
  intro hF H locs lsA hP hS hl
  unfold pf9 at hF
  by_cases h0 : okO9 z a ci
  · rw [if_pos h0] at hF
    exact j_put0 hx hb hown hts hE hd hf hi hfin hty rfl rfl h0 hP hS (fun H1 locs1 hP1 hS1 => kk _ hF H1 locs1 lsA hP1 hS1 hl)
  · rw [if_neg h0] at hF
    cases hF
theorem j_putZ {z : Sh9} {N : Nv9} {X : Cx9} {out : Out9 × Mem9} {nL : Nat} {cm : Ka9} {cc : ByteArray} {own : String} {d : Nat} {rk : Nat} {hh : List (Nat × Nat × Nat × Nat)} {pc : Nat} {ls : List (Nat × Value)} {st : List Value} {M : Mem9} {κ : Ka9} (C : OK9 z N X out nL cm cc own d rk hh) {idx ci k Nf a : Nat} {T : u_T} {v : Int32} {K : Mem9 → Re9} (hd : decode cc pc = .ok (.putfield idx, 3)) (hf : FL9 own idx ci k T Nf) (hi : FI9 ci k) (hfin : (T k).2.2.2 = false) (hty : parseFieldDescriptor (T k).2.2.1 = some .boolean) (kk : ∀ M', J9 z N X out nL (pc + 3) ls st M' κ (K M')) : J9 z N X out nL pc ls (.int v :: .ref a :: st) M κ ((pz9 z M a ci k v).bind K) := by
  obtain ⟨p, l, e, R, s, m, args, below, meth, c, QQ⟩ := X
  obtain ⟨hx, hb, hml, hown, hts, hE, -⟩ := C
  intro hF H locs lsA hP hS hl
  unfold pz9 at hF
  by_cases h0 : okO9 z a ci ∧ b9 v
  · rw [if_pos h0] at hF
    refine j_put0 hx hb hown hts hE hd hf hi hfin hty ?_ ?_ h0.1 hP hS (fun H1 locs1 hP1 hS1 => kk _ hF H1 locs1 lsA hP1 hS1 hl)
    · rcases h0.2 with rfl | rfl <;> rfl
    · rcases h0.2 with rfl | rfl <;> rfl
  · rw [if_neg h0] at hF
    cases hF
theorem j_iaload {z : Sh9} {N : Nv9} {X : Cx9} {out : Out9 × Mem9} {nL : Nat} {cm : Ka9} {cc : ByteArray} {own : String} {d : Nat} {rk : Nat} {hh : List (Nat × Nat × Nat × Nat)} {pc : Nat} {ls : List (Nat × Value)} {st : List Value} {M : Mem9} {κ : Ka9} (C : OK9 z N X out nL cm cc own d rk hh) {a : Nat} {i : Int32} {K : Int32 → Re9} (hd : decode cc pc = .ok (.iaload, 1)) (kk : ∀ v, J9 z N X out nL (pc + 1) ls (.int v :: st) M κ (K v)) : J9 z N X out nL pc ls (.int i :: .ref a :: st) M κ ((ld9 z M 10 a i).bind K) := by
  obtain ⟨p, l, e, R, s, m, args, below, meth, c, QQ⟩ := X
  obtain ⟨hx, hb, hml, hown, hts, hE, -⟩ := C
  obtain ⟨sb, L, xs, D, ca⟩ := N
  intro hF H locs lsA hP hS hl
  unfold ld9 at hF
  by_cases h0 : okA9 z a 10 i
  · rw [if_pos h0] at hF
    obtain ⟨j, hj, rfl, hkd, hin⟩ := h0.add
    exact va_iald (D := D) (cA := ca 0) (f := M (z.1 + j)) hx hb hE.1 hP j 0 (by rw [WS9_get hj, mk9_kd hkd]; rfl) rfl hin hd (kk _ hF H locs lsA hP hS hl)
  · rw [if_neg h0] at hF
    cases hF
theorem j_baload {z : Sh9} {N : Nv9} {X : Cx9} {out : Out9 × Mem9} {nL : Nat} {cm : Ka9} {cc : ByteArray} {own : String} {d : Nat} {rk : Nat} {hh : List (Nat × Nat × Nat × Nat)} {pc : Nat} {ls : List (Nat × Value)} {st : List Value} {M : Mem9} {κ : Ka9} (C : OK9 z N X out nL cm cc own d rk hh) {a : Nat} {i : Int32} {K : Int32 → Re9} (hd : decode cc pc = .ok (.baload, 1)) (kk : ∀ v, J9 z N X out nL (pc + 1) ls (.int v :: st) M κ (K v)) : J9 z N X out nL pc ls (.int i :: .ref a :: st) M κ ((ld9 z M 11 a i).bind K) := by
  obtain ⟨p, l, e, R, s, m, args, below, meth, c, QQ⟩ := X
  obtain ⟨hx, hb, hml, hown, hts, hE, -⟩ := C
  obtain ⟨sb, L, xs, D, ca⟩ := N
  intro hF H locs lsA hP hS hl
  unfold ld9 at hF
  by_cases h0 : okA9 z a 11 i
  · rw [if_pos h0] at hF
    obtain ⟨j, hj, rfl, hkd, hin⟩ := h0.add
    exact va_zald (D := D) (cA := ca 1) (f := M (z.1 + j)) hx hb hE.1 hP j 1 (by rw [WS9_get hj, mk9_kd hkd]; rfl) rfl hin hd (kk _ hF H locs lsA hP hS hl)
  · rw [if_neg h0] at hF
    cases hF
theorem j_caload {z : Sh9} {N : Nv9} {X : Cx9} {out : Out9 × Mem9} {nL : Nat} {cm : Ka9} {cc : ByteArray} {own : String} {d : Nat} {rk : Nat} {hh : List (Nat × Nat × Nat × Nat)} {pc : Nat} {ls : List (Nat × Value)} {st : List Value} {M : Mem9} {κ : Ka9} (C : OK9 z N X out nL cm cc own d rk hh) {a : Nat} {i : Int32} {K : Int32 → Re9} (hd : decode cc pc = .ok (.caload, 1)) (kk : ∀ v, J9 z N X out nL (pc + 1) ls (.int v :: st) M κ (K v)) : J9 z N X out nL pc ls (.int i :: .ref a :: st) M κ ((ld9 z M 12 a i).bind K) := by
  obtain ⟨p, l, e, R, s, m, args, below, meth, c, QQ⟩ := X
  obtain ⟨hx, hb, hml, hown, hts, hE, -⟩ := C
  obtain ⟨sb, L, xs, D, ca⟩ := N
  intro hF H locs lsA hP hS hl
  unfold ld9 at hF
  by_cases h0 : okA9 z a 12 i
  · rw [if_pos h0] at hF
    obtain ⟨j, hj, rfl, hkd, hin⟩ := h0.add
    exact va_cald (D := D) (cA := ca 2) (f := M (z.1 + j)) hx hb hE.1 hP j 2 (by rw [WS9_get hj, mk9_kd hkd]; rfl) rfl hin hd (kk _ hF H locs lsA hP hS hl)
  · rw [if_neg h0] at hF
    cases hF
theorem j_aaload {z : Sh9} {N : Nv9} {X : Cx9} {out : Out9 × Mem9} {nL : Nat} {cm : Ka9} {cc : ByteArray} {own : String} {d : Nat} {rk : Nat} {hh : List (Nat × Nat × Nat × Nat)} {pc : Nat} {ls : List (Nat × Value)} {st : List Value} {M : Mem9} {κ : Ka9} (C : OK9 z N X out nL cm cc own d rk hh) {t a : Nat} {i : Int32} {K : Nat → Re9} (hd : decode cc pc = .ok (.aaload, 1)) (ht : t = 14 ∨ t = 15 ∨ t = 16) (kk : ∀ v, J9 z N X out nL (pc + 1) ls (.ref v :: st) M κ (K v)) : J9 z N X out nL pc ls (.int i :: .ref a :: st) M κ ((la9 z t a i).bind K) := by
  obtain ⟨p, l, e, R, s, m, args, below, meth, c, QQ⟩ := X
  obtain ⟨hx, hb, hml, hown, hts, hE, -⟩ := C
  obtain ⟨sb, L, xs, D, ca⟩ := N
  intro hF H locs lsA hP hS hl
  unfold la9 at hF
  by_cases h0 : okA9 z a t i
  · rw [if_pos h0] at hF
    obtain ⟨j, hj, rfl, hkd, hin⟩ := h0.add
    rcases ht with rfl | rfl | rfl
    · exact va_aldq (D := D) (cA := ca 4) (C := "LorryArms$Lane") (f := fun k => some (z.1 + j + 2 + 6 * k)) hx hb hE.1 hP j 4 (by rw [WS9_get hj, mk9_kd hkd]; rfl) rfl hin hd (kk _ hF H locs lsA hP hS hl)
    · exact va_aldq (D := D) (cA := ca 5) (C := "LorryArms$Gate") (f := fun k => some (z.1 + j + 3 + 21 * k)) hx hb hE.1 hP j 5 (by rw [WS9_get hj, mk9_kd hkd]; rfl) rfl hin hd (kk _ hF H locs lsA hP hS hl)
    · exact va_aldq (D := D) (cA := ca 5) (C := "LorryArms$Gate") (f := fun k => some (z.1 + j + 296 + 21 * k)) hx hb hE.1 hP j 5 (by rw [WS9_get hj, mk9_kd hkd]; rfl) rfl hin hd (kk _ hF H locs lsA hP hS hl)
  · rw [if_neg h0] at hF
    cases hF
theorem j_iastore {z : Sh9} {N : Nv9} {X : Cx9} {out : Out9 × Mem9} {nL : Nat} {cm : Ka9} {cc : ByteArray} {own : String} {d : Nat} {rk : Nat} {hh : List (Nat × Nat × Nat × Nat)} {pc : Nat} {ls : List (Nat × Value)} {st : List Value} {M : Mem9} {κ : Ka9} (C : OK9 z N X out nL cm cc own d rk hh) {a : Nat} {i v : Int32} {K : Mem9 → Re9} (hd : decode cc pc = .ok (.iastore, 1)) (kk : ∀ M', J9 z N X out nL (pc + 1) ls st M' κ (K M')) : J9 z N X out nL pc ls (.int v :: .int i :: .ref a :: st) M κ ((st9 z M a i v).bind K) := by
  obtain ⟨p, l, e, R, s, m, args, below, meth, c, QQ⟩ := X
  obtain ⟨hx, hb, hml, hown, hts, hE, -⟩ := C
  obtain ⟨sb, L, xs, D, ca⟩ := N
  intro hF H locs lsA hP hS hl
  unfold st9 at hF
  by_cases h0 : okA9 z a 10 i
  · rw [if_pos h0] at hF
    obtain ⟨j, hj, rfl, hkd, hin⟩ := h0.add
    refine va_iast (D := D) (cA := ca 0) (f := M (z.1 + j)) hx hb hE.1 hP (WS9_D z ca M) hS j 0 (by rw [WS9_get hj, mk9_kd hkd]; rfl) rfl hin hd (fun H1 locs1 hP1 hD1 hS1 => kk _ hF H1 locs1 lsA ?_ hS1 hl)
    rw [WS9_set (M' := wr9 M (z.1 + j) i.toNatClampNeg v) hj (fun b hb => wr9_ne hb) (by rw [wr9_eq, mk9_kd hkd]; rfl)] at hP1
    exact hP1
  · rw [if_neg h0] at hF
    cases hF
theorem j_bastore {z : Sh9} {N : Nv9} {X : Cx9} {out : Out9 × Mem9} {nL : Nat} {cm : Ka9} {cc : ByteArray} {own : String} {d : Nat} {rk : Nat} {hh : List (Nat × Nat × Nat × Nat)} {pc : Nat} {ls : List (Nat × Value)} {st : List Value} {M : Mem9} {κ : Ka9} (C : OK9 z N X out nL cm cc own d rk hh) {a : Nat} {i v : Int32} {K : Mem9 → Re9} (hd : decode cc pc = .ok (.bastore, 1)) (kk : ∀ M', J9 z N X out nL (pc + 1) ls st M' κ (K M')) : J9 z N X out nL pc ls (.int v :: .int i :: .ref a :: st) M κ ((sz9 z M a i v).bind K) := by
  obtain ⟨p, l, e, R, s, m, args, below, meth, c, QQ⟩ := X
  obtain ⟨hx, hb, hml, hown, hts, hE, -⟩ := C
  obtain ⟨sb, L, xs, D, ca⟩ := N
  intro hF H locs lsA hP hS hl
  unfold sz9 at hF
  by_cases h0 : okA9 z a 11 i ∧ b9 v
  · rw [if_pos h0] at hF
    obtain ⟨j, hj, rfl, hkd, hin⟩ := h0.1.add
    have hv : vp_nar .boolean v = v := by rcases h0.2 with rfl | rfl <;> rfl
    refine va_zast (D := D) (cA := ca 1) (f := M (z.1 + j)) hx hb hE.1 hP (WS9_D z ca M) hS j 1 (by rw [WS9_get hj, mk9_kd hkd]; rfl) rfl hin hd (fun H1 locs1 hP1 hD1 hS1 => kk _ hF H1 locs1 lsA ?_ hS1 hl)
    rw [hv, WS9_set (M' := wr9 M (z.1 + j) i.toNatClampNeg v) hj (fun b hb => wr9_ne hb) (by rw [wr9_eq, mk9_kd hkd]; rfl)] at hP1
    exact hP1
  · rw [if_neg h0] at hF
    cases hF
theorem j_castore {z : Sh9} {N : Nv9} {X : Cx9} {out : Out9 × Mem9} {nL : Nat} {cm : Ka9} {cc : ByteArray} {own : String} {d : Nat} {rk : Nat} {hh : List (Nat × Nat × Nat × Nat)} {pc : Nat} {ls : List (Nat × Value)} {st : List Value} {M : Mem9} {κ : Ka9} (C : OK9 z N X out nL cm cc own d rk hh) {a : Nat} {i v : Int32} {K : Mem9 → Re9} (hd : decode cc pc = .ok (.castore, 1)) (kk : ∀ M', J9 z N X out nL (pc + 1) ls st M' κ (K M')) : J9 z N X out nL pc ls (.int v :: .int i :: .ref a :: st) M κ ((sc9 z M a i v).bind K) := by
  obtain ⟨p, l, e, R, s, m, args, below, meth, c, QQ⟩ := X
  obtain ⟨hx, hb, hml, hown, hts, hE, -⟩ := C
  obtain ⟨sb, L, xs, D, ca⟩ := N
  intro hF H locs lsA hP hS hl
  unfold sc9 at hF
  by_cases h0 : okA9 z a 12 i ∧ vp_nar .char v = v
  · rw [if_pos h0] at hF
    obtain ⟨j, hj, rfl, hkd, hin⟩ := h0.1.add
    refine va_cast (D := D) (cA := ca 2) (f := M (z.1 + j)) hx hb hE.1 hP (WS9_D z ca M) hS j 2 (by rw [WS9_get hj, mk9_kd hkd]; rfl) rfl hin hd (fun H1 locs1 hP1 hD1 hS1 => kk _ hF H1 locs1 lsA ?_ hS1 hl)
    rw [h0.2, WS9_set (M' := wr9 M (z.1 + j) i.toNatClampNeg v) hj (fun b hb => wr9_ne hb) (by rw [wr9_eq, mk9_kd hkd]; rfl)] at hP1
    exact hP1
  · rw [if_neg h0] at hF
    cases hF
/-- System.arraycopy of ints -/
def cp9 (M : Mem9) (a0 sp a dp n : Nat) : Mem9 := fun b => if b = a then va_cpy (M a0) (M a) sp dp n else M b
abbrev okC9 (z : Sh9) (a0 a : Nat) (sp dp n : Int32) : Prop := (z.1 ≤ a0 ∧ a0 < z.1 + z.2.1 ∧ (z.2.2 (a0 - z.1)).1 = 10) ∧ (z.1 ≤ a ∧ a < z.1 + z.2.1 ∧ (z.2.2 (a - z.1)).1 = 10) ∧ (¬ sp < 0 ∧ ¬ dp < 0 ∧ ¬ n < 0) ∧ sp.toNatClampNeg + n.toNatClampNeg ≤ (z.2.2 (a0 - z.1)).2 ∧ dp.toNatClampNeg + n.toNatClampNeg ≤ (z.2.2 (a - z.1)).2
def ac9 (z : Sh9) (M : Mem9) (a0 : Nat) (sp : Int32) (a : Nat) (dp n : Int32) : Option Mem9 := if okC9 z a0 a sp dp n then some (cp9 M a0 sp.toNatClampNeg a dp.toNatClampNeg n.toNatClampNeg) else none
theorem j_copy {z : Sh9} {N : Nv9} {X : Cx9} {out : Out9 × Mem9} {nL : Nat} {cm : Ka9} {cc : ByteArray} {own : String} {d : Nat} {rk : Nat} {hh : List (Nat × Nat × Nat × Nat)} {pc : Nat} {ls : List (Nat × Value)} {st : List Value} {M : Mem9} {κ : Ka9} (C : OK9 z N X out nL cm cc own d rk hh) {idx a0 a : Nat} {sp dp n : Int32} {K : Mem9 → Re9} (hd : decode cc pc = .ok (.invokestatic idx, 3)) (w1 : Cond.methodLink own idx arraycopyName ∈ gw9) (w2 : Cond.native arraycopyName ∈ gw9) (w3 : Cond.static arraycopyName ∈ gw9) (w4 : Cond.initialized "java/lang/System" ∈ gw9) (hdd : 2 ≤ d) (hcat : (st.map fun v => v.category).sum ≤ 8) (kk : ∀ M', J9 z N X out nL (pc + 3) ls st M' κ (K M')) : J9 z N X out nL pc ls (.int n :: .int dp :: .ref a :: .int sp :: .ref a0 :: st) M κ ((ac9 z M a0 sp a dp n).bind K) := by
  obtain ⟨p, l, e, R, s, m, args, below, meth, c, QQ⟩ := X
  obtain ⟨hx, hb, hml, hown, hts, hE, ⟨r1, r2, -, -⟩, -⟩ := C
  obtain ⟨sb, L, xs, D, ca⟩ := N
  intro hF H locs lsA hP hS hl
  unfold ac9 at hF
  by_cases h0 : okC9 z a0 a sp dp n
  · rw [if_pos h0] at hF
    obtain ⟨h1, h2, ⟨n1, n2, n3⟩, h4, h5⟩ := h0
    obtain ⟨i, hi, rfl, hki⟩ := okO9.add (ci := 10) h1
    obtain ⟨j, hj, rfl, hkj⟩ := okO9.add (ci := 10) h2
    rw [Nat.add_sub_cancel_left] at h4 h5
    refine va_copyi (D := D) (c0 := ca 0) (c1 := ca 0) (f := M (z.1 + i)) (g := M (z.1 + j)) (ty := .int) hx hb (by rw [hml]; exact hl.1.symm) hown (hts _ w1) (hts _ w2) (hts _ w3) (hts _ w4) hE.1 hP (WS9_D z ca M) hS i j 0 0 (by rw [WS9_get hi, mk9_kd hki]; rfl) (by rw [WS9_get hj, mk9_kd hkj]; rfl) rfl rfl rfl n1 n2 n3 h4 h5 (fun _ _ => rfl) (by omega) ?_ hd (fun H1 locs1 hP1 hD1 hS1 => kk _ hF H1 locs1 lsA ?_ hS1 hl)
    · have h9 : nativeFrameWords "java/lang/System" "arraycopy" 5 ≤ 40 := by decide
      omega
    · rw [WS9_set (M' := cp9 M (z.1 + i) sp.toNatClampNeg (z.1 + j) dp.toNatClampNeg n.toNatClampNeg) hj (fun b hb => by unfold cp9; rw [if_neg hb]) (by unfold cp9; rw [if_pos rfl, mk9_kd hkj]; rfl)] at hP1
      exact hP1
  · rw [if_neg h0] at hF
    cases hF
theorem j_min {z : Sh9} {N : Nv9} {X : Cx9} {out : Out9 × Mem9} {nL : Nat} {cm : Ka9} {cc : ByteArray} {own : String} {d : Nat} {rk : Nat} {hh : List (Nat × Nat × Nat × Nat)} {pc : Nat} {ls : List (Nat × Value)} {st : List Value} {M : Mem9} {κ : Ka9} {F : Re9} (C : OK9 z N X out nL cm cc own d rk hh) {idx : Nat} {x y : Int32} (hd : decode cc pc = .ok (.invokestatic idx, 3)) (w1 : Cond.methodLink own idx Lib.Math.min.name ∈ gw9) (w2 : Cond.static Lib.Math.min.name ∈ gw9) (w3 : Cond.initialized "java/lang/Math" ∈ gw9) (w4 : Cond.code Lib.Math.min.name Lib.Math.min.code 2 (some .int) ∈ gw9) (hdd : 1 ≤ d) (hcat : (st.map fun v => v.category).sum ≤ 8) (hκ : le9 κ cm) (k : J9 z N X out nL (pc + 3) ls (.int (if y < x then y else x) :: st) M κ F) : J9 z N X out nL pc ls (.int y :: .int x :: st) M κ F := by
  obtain ⟨p, l, e, R, s, m, args, below, meth, c, QQ⟩ := X
  obtain ⟨hx, hb, hml, hown, hts, hE, ⟨r1, r2, r3, r4⟩, -⟩ := C
  obtain ⟨k1, k2⟩ := hκ
  intro hF H locs lsA hP hS hl
  exact va_mmin hx hb (by rw [hml]; exact hl.1.symm) hown (hts _ w1) (hts _ w2) (hts _ w3) (hts _ w4) (by omega) (by omega) (by omega) (by omega) hd (k hF H locs lsA hP hS hl)
theorem j_max {z : Sh9} {N : Nv9} {X : Cx9} {out : Out9 × Mem9} {nL : Nat} {cm : Ka9} {cc : ByteArray} {own : String} {d : Nat} {rk : Nat} {hh : List (Nat × Nat × Nat × Nat)} {pc : Nat} {ls : List (Nat × Value)} {st : List Value} {M : Mem9} {κ : Ka9} {F : Re9} (C : OK9 z N X out nL cm cc own d rk hh) {idx : Nat} {x y : Int32} (hd : decode cc pc = .ok (.invokestatic idx, 3)) (w1 : Cond.methodLink own idx Lib.Math.max.name ∈ gw9) (w2 : Cond.static Lib.Math.max.name ∈ gw9) (w3 : Cond.initialized "java/lang/Math" ∈ gw9) (w4 : Cond.code Lib.Math.max.name Lib.Math.max.code 2 (some .int) ∈ gw9) (hdd : 1 ≤ d) (hcat : (st.map fun v => v.category).sum ≤ 8) (hκ : le9 κ cm) (k : J9 z N X out nL (pc + 3) ls (.int (if x < y then y else x) :: st) M κ F) : J9 z N X out nL pc ls (.int y :: .int x :: st) M κ F := by
  obtain ⟨p, l, e, R, s, m, args, below, meth, c, QQ⟩ := X
  obtain ⟨hx, hb, hml, hown, hts, hE, ⟨r1, r2, r3, r4⟩, -⟩ := C
  obtain ⟨k1, k2⟩ := hκ
  intro hF H locs lsA hP hS hl
  exact va_mmax hx hb (by rw [hml]; exact hl.1.symm) hown (hts _ w1) (hts _ w2) (hts _ w3) (hts _ w4) (by omega) (by omega) (by omega) (by omega) hd (k hF H locs lsA hP hS hl)
/-! ===== ends ===== -/
theorem j_ireturn {z : Sh9} {N : Nv9} {X : Cx9} {out : Out9 × Mem9} {nL : Nat} {cm : Ka9} {cc : ByteArray} {own : String} {d : Nat} {rk : Nat} {hh : List (Nat × Nat × Nat × Nat)} {pc : Nat} {ls : List (Nat × Value)} {M : Mem9} {κ : Ka9} (C : OK9 z N X out nL cm cc own d rk hh) {v : Int32} (hrk : rk = 1) (hd : decode cc pc = .ok (.ireturn, 1)) (hκ : le9 κ cm) : J9 z N X out nL pc ls [.int v] M κ (ri9 v M) := by
  obtain ⟨p, l, e, R, s, m, args, below, meth, c, QQ⟩ := X
  obtain ⟨hx, hb, hml, hown, hts, hE, hr, hst, htb, hret, -⟩ := C
  intro hF H locs lsA hP hS hl
  exact hret (some (.int v)) .ireturn pc M κ H locs lsA (Or.inr (Or.inl ⟨hrk, ⟨v, rfl⟩, rfl⟩)) hd (Option.some.inj hF).symm hκ hP hS
theorem j_zreturn {z : Sh9} {N : Nv9} {X : Cx9} {out : Out9 × Mem9} {nL : Nat} {cm : Ka9} {cc : ByteArray} {own : String} {d : Nat} {rk : Nat} {hh : List (Nat × Nat × Nat × Nat)} {pc : Nat} {ls : List (Nat × Value)} {M : Mem9} {κ : Ka9} (C : OK9 z N X out nL cm cc own d rk hh) {v : Int32} (hrk : rk = 2) (hd : decode cc pc = .ok (.ireturn, 1)) (hκ : le9 κ cm) : J9 z N X out nL pc ls [.int v] M κ (rz9 v M) := by
  obtain ⟨p, l, e, R, s, m, args, below, meth, c, QQ⟩ := X
  obtain ⟨hx, hb, hml, hown, hts, hE, hr, hst, htb, hret, -⟩ := C
  intro hF H locs lsA hP hS hl
  unfold rz9 at hF
  by_cases h0 : b9 v
  · rw [if_pos h0] at hF
    exact hret (some (.int v)) .ireturn pc M κ H locs lsA (Or.inr (Or.inr (Or.inl ⟨hrk, ⟨v, h0, rfl⟩, rfl⟩))) hd (Option.some.inj hF).symm hκ hP hS
  · rw [if_neg h0] at hF
    cases hF
theorem j_lreturn {z : Sh9} {N : Nv9} {X : Cx9} {out : Out9 × Mem9} {nL : Nat} {cm : Ka9} {cc : ByteArray} {own : String} {d : Nat} {rk : Nat} {hh : List (Nat × Nat × Nat × Nat)} {pc : Nat} {ls : List (Nat × Value)} {M : Mem9} {κ : Ka9} (C : OK9 z N X out nL cm cc own d rk hh) {v : Int64} (hrk : rk = 3) (hd : decode cc pc = .ok (.lreturn, 1)) (hκ : le9 κ cm) : J9 z N X out nL pc ls [.long v] M κ (rj9 v M) := by
  obtain ⟨p, l, e, R, s, m, args, below, meth, c, QQ⟩ := X
  obtain ⟨hx, hb, hml, hown, hts, hE, hr, hst, htb, hret, -⟩ := C
  intro hF H locs lsA hP hS hl
  exact hret (some (.long v)) .lreturn pc M κ H locs lsA (Or.inr (Or.inr (Or.inr ⟨hrk, ⟨v, rfl⟩, rfl⟩))) hd (Option.some.inj hF).symm hκ hP hS
theorem j_return {z : Sh9} {N : Nv9} {X : Cx9} {out : Out9 × Mem9} {nL : Nat} {cm : Ka9} {cc : ByteArray} {own : String} {d : Nat} {rk : Nat} {hh : List (Nat × Nat × Nat × Nat)} {pc : Nat} {ls : List (Nat × Value)} {M : Mem9} {κ : Ka9} (C : OK9 z N X out nL cm cc own d rk hh) (hrk : rk = 0) (hd : decode cc pc = .ok (.return_, 1)) (hκ : le9 κ cm) : J9 z N X out nL pc ls [] M κ (rv9 M) := by
  obtain ⟨p, l, e, R, s, m, args, below, meth, c, QQ⟩ := X
  obtain ⟨hx, hb, hml, hown, hts, hE, hr, hst, htb, hret, -⟩ := C
  intro hF H locs lsA hP hS hl
  exact hret none .return_ pc M κ H locs lsA (Or.inl ⟨hrk, rfl, rfl⟩) hd (Option.some.inj hF).symm hκ hP hS
theorem j_throw {z : Sh9} {N : Nv9} {X : Cx9} {out : Out9 × Mem9} {nL : Nat} {cm : Ka9} {cc : ByteArray} {own : String} {d : Nat} {rk : Nat} {hh : List (Nat × Nat × Nat × Nat)} {pc : Nat} {ls : List (Nat × Value)} {st : List Value} {M : Mem9} {κ : Ka9} (C : OK9 z N X out nL cm cc own d rk hh) {E : String} (hh0 : hh = []) (hd : TH9 own cc pc E) (hdd : 6 ≤ d) (hcat : (st.map fun v => v.category).sum ≤ 8) (hκ : κ = (0, 0)) (hcm : le9 (co9 out.1) cm) : J9 z N X out nL pc ls st M κ (tx9 E M) := by
  obtain ⟨p, l, e, R, s, m, args, below, meth, c, QQ⟩ := X
  obtain ⟨hx, hb, hml, hown, hts, hE, hr, hst, htb, hret, hthrown, hthrow⟩ := C
  intro hF H locs lsA hP hS hl
  subst hκ
  have ho : out = (.inr E, M) := (Option.some.inj hF).symm
  refine hthrow hh0 E pc M (0, 0) H locs lsA st hd hl.1 hdd hcat ho ?_ hP hS
  rw [ho] at hcm
  exact hcm
/-! ===== calls ===== -/
theorem mk9_obj {ca : Nat → ClassId} {a : Nat} {m : Nat → Int32} {n ci : Nat} (h : ci ≤ 3) : ∃ fs, mk9 ca a m (ci, n) = .inr (ci, fs) := by
  match ci, h with
  | 0, _ => exact ⟨_, rfl⟩
  | 1, _ => exact ⟨_, rfl⟩
  | 2, _ => exact ⟨_, rfl⟩
  | 3, _ => exact ⟨_, rfl⟩
theorem call9 {z : Sh9} {N : Nv9} {p : Program} {l : Launch} {e : Env} {R : Room} {s : State} {m : MethodId} {args : Array Value} {below : List Frame} {meth : Method} {c : Code} {QQ : State → Prop} {pc : Nat} {st rest : List Value} {κ mc : Ka9} {H : Heap} {locs : List Loc} {lsA : Array Slot} {o : Out9 × Mem9} {a : Array Value} (hr : vx_Run p l e R s m args below meth c H locs κ.1 κ.2 mc.1 mc.2 (F0 m pc lsA st) rest (Qc9 z N o a) (XC9 z N o) (A9 z)) (hS : va_S (A9 z) s.heap H locs)
    (kN : ∀ (v : Option Value) (M' : Mem9) (H1 : Heap) (locs1 : List Loc), o = (.inl v, M') → PM9 z N M' H1 → va_S (A9 z) s.heap H1 locs1 → W p l e R s m args below meth c H1 locs1 (κ.1 + mc.1) (κ.2 + mc.2) QQ (F0 m (pc + 3) lsA (v.toList ++ rest)))
    (kX : ∀ (E : String) (M' : Mem9) (H1 : Heap) (locs1 : List Loc) (q : Addr) (ce : Cell), E ∈ excs9 → o = (.inr E, M') → PM9 z N M' H1 → va_S (A9 z) s.heap H1 locs1 → H1[q]? = some ce → ce.vm = .none → s.vm.findClass E = some ce.cls → vx_W p l e R s m args below meth c H1 locs1 (κ.1 + mc.1) (κ.2 + mc.2) QQ (F0 m pc lsA rest) q) : W p l e R s m args below meth c H locs κ.1 κ.2 QQ (F0 m pc lsA st) := by
  intro T hT X
  rcases hr T hT X with ⟨v, st₀, t, T', L, h0, X', hL, e1, e2, ⟨⟨v', hv, ho, hPM⟩, hF⟩, stp⟩ | ⟨q, st₀, t, T', L, E, ce, h0, X', hL, e1, e2, ⟨⟨hE, ho, hPM⟩, hF⟩, hce, hcv, hcl, stp⟩
  · cases hv
    obtain ⟨k1, k2, k3⟩ := vx_keep h0 e1 hS (fun q _ h => h) (fun q h => h) hL hF
    obtain ⟨t2, a1, b1⟩ := kN v o.2 T'.heap (locs ++ L) (by rw [← ho]) (by rw [e1]; exact hPM) k3 T' rfl X'
    exact ⟨t2, stp t2 a1, b1⟩
  · obtain ⟨k1, k2, k3⟩ := vx_keep h0 e1 hS (fun q _ h => h) (fun q h => h) hL hF
    obtain ⟨t2, a1, b1⟩ := kX E o.2 T'.heap (locs ++ L) q ce hE (by rw [← ho]) (by rw [e1]; exact hPM) k3 (by rw [e1]; exact hce) hcv hcl T' rfl X'
    exact ⟨t2, stp.trans a1, b1⟩
/-- a virtual call's words: of the class at place ci -/
def LV9 (own : String) (idx ci : Nat) (y : MethodName) (yc : ByteArray) (maxL : Nat) (ret : Option FieldType) (n : Nat) : Prop := ci ≤ 3 ∧ (∃ (T : u_T) (Nf : Nat), vwCl[ci]? = some (y.cls, T, Nf)) ∧ Cond.methodLink own idx y ∈ gw9 ∧ Cond.instanceMethod y ∈ gw9 ∧ Cond.selects y.cls y y ∈ gw9 ∧ Cond.initialized y.cls ∈ gw9 ∧ Cond.code y yc maxL ret ∈ gw9 ∧ (y.cls ≠ "java/lang/invoke/MethodHandle" ∧ y.cls ≠ "java/lang/invoke/VarHandle" ∧ (parseMethodDescriptor y.desc).map (fun d => d.parameters.length) = some n) ∧ maxL ≤ 17
def LS9 (own : String) (idx : Nat) (y : MethodName) (yc : ByteArray) (maxL : Nat) (ret : Option FieldType) (n : Nat) : Prop := y.cls = own ∧ Cond.methodLink own idx y ∈ gw9 ∧ Cond.static y ∈ gw9 ∧ Cond.initialized own ∈ gw9 ∧ Cond.code y yc maxL ret ∈ gw9 ∧ (y.cls ≠ "java/lang/invoke/MethodHandle" ∧ y.cls ≠ "java/lang/invoke/VarHandle" ∧ (parseMethodDescriptor y.desc).map (fun d => d.parameters.length) = some n) ∧ maxL ≤ 17
/-- of another class -/
def LO9 (own : String) (idx : Nat) (y : MethodName) (yc : ByteArray) (maxL : Nat) (ret : Option FieldType) (n : Nat) : Prop := Cond.methodLink own idx y ∈ gw9 ∧ Cond.static y ∈ gw9 ∧ Cond.initialized y.cls ∈ gw9 ∧ Cond.code y yc maxL ret ∈ gw9 ∧ (y.cls ≠ "java/lang/invoke/MethodHandle" ∧ y.cls ≠ "java/lang/invoke/VarHandle" ∧ (parseMethodDescriptor y.desc).map (fun d => d.parameters.length) = some n) ∧ maxL ≤ 17
def LW9 (own : String) (idx : Nat) (y : MethodName) (yc : ByteArray) (maxL : Nat) (ret : Option FieldType) (hw : List (Nat × Nat × Nat × Nat)) (n : Nat) : Prop := Cond.methodLink own idx y ∈ gw9 ∧ Cond.static y ∈ gw9 ∧ Cond.initialized y.cls ∈ gw9 ∧ Cond.codeWith y yc maxL ret hw ∈ gw9 ∧ (y.cls ≠ "java/lang/invoke/MethodHandle" ∧ y.cls ≠ "java/lang/invoke/VarHandle" ∧ (parseMethodDescriptor y.desc).map (fun d => d.parameters.length) = some n) ∧ maxL ≤ 17
theorem gw9_good : ∀ w ∈ gw9, w ∈ gw9 ∧ ((w.onTables && w.keeps) = true ∨ ∃ ty, w = .arrayClass ty) := fun w hw => ⟨hw, good_of_word (List.mem_filter.mp hw).2⟩
theorem good9 {L : List Cond} (h : ∀ w ∈ L, w ∈ gw9) : GoodIn gw9 L := fun w hw => gw9_good w (h w hw)
theorem pre9 {z : Sh9} {N : Nv9} {s : State} {H : Heap} {locs : List Loc} {M : Mem9} {av : List Value} (hE : EV9 z N s) (hS : va_S (A9 z) s.heap H locs) (hP : PM9 z N M H) : ∀ U : State, U.heap = H → s.WarmedH U.vm → Pc9 z N av M av.toArray U := fun U hU hW => ⟨rfl, hE.go hW (by rw [hU]; exact hS), by rw [hU]; exact hP⟩
/-- a virtual call: its words, its callee, what stands on the stack, the room; then the two ways on -/
theorem runV9 {z : Sh9} {N : Nv9} {out : Out9 × Mem9} {nL : Nat} {cm : Ka9} {cc : ByteArray} {own : String} {d rk : Nat} {hh : List (Nat × Nat × Nat × Nat)} {pc : Nat} {ls : List (Nat × Value)} {st : List Value} {M : Mem9} {κ : Ka9} {p : Program} {l : Launch} {e : Env} {R : Room} {s : State} {m : MethodId} {args : Array Value} {below : List Frame} {meth : Method} {c : Code} {QQ : State → Prop} (C : OK9 z N (p, l, e, R, s, m, args, below, meth, c, QQ) out nL cm cc own d rk hh) {idx ci n d' maxL b : Nat} {mc : Ka9} {y : MethodName} {yc : ByteArray} {ret : Option FieldType} {rest : List Value} {H : Heap} {locs : List Loc} {lsA : Array Slot} {o : Out9 × Mem9}
    (hd : decode cc pc = .ok (.invokevirtual idx, 3)) (hl : LV9 own idx ci y yc maxL ret n) (hst : st.drop n = .ref b :: rest) (hn : n ≤ st.length) (hcat : (rest.map fun v => v.category).sum ≤ 8) (hdd : d' + 1 ≤ d) (hsp : Sp9 l z N y (Cond.code y yc maxL ret) d' (.ref b :: (st.take n).reverse) M mc o) (hb9 : okO9 z b ci) (hκ : le9 (ad9 κ mc) cm) (hP : PM9 z N M H) (hS : va_S (A9 z) s.heap H locs) (hls : lv_has lsA nL ls) :
    vx_Run p l e R s m args below meth c H locs κ.1 κ.2 mc.1 mc.2 (F0 m pc lsA st) rest (Qc9 z N o (Value.ref b :: (st.take n).reverse).toArray) (XC9 z N o) (A9 z) := by
  obtain ⟨hx, hb, hml, hown, hts, hE, ⟨r1, r2, r3, r4⟩, -⟩ := C
  have k1 : κ.1 + mc.1 ≤ cm.1 := hκ.1
  have k2 : κ.2 + mc.2 ≤ cm.2 := hκ.2
  obtain ⟨c0, ⟨T9, Nf9, c1⟩, c2, c3, c4, c5, c6, c7, c8⟩ := hl
  have hG : GoodIn gw9 (wsV own idx y.cls y (Cond.code y yc maxL ret :: gw9)) := by
    refine good9 (fun w hw => ?_)
    simp only [wsV, List.cons_append, List.nil_append, List.mem_cons] at hw
    rcases hw with rfl | rfl | rfl | rfl | rfl | hw
    · exact c2
    · exact c3
    · exact c4
    · exact c5
    · exact c6
    · exact hw
  have hrecv : ∃ cellB : Cell, H[b]? = some cellB ∧ cellB.vm.isStatics = false ∧ s.vm.findClass y.cls = some cellB.cls := by
    obtain ⟨sb, L, xs, D, ca⟩ := N
    obtain ⟨i, hi, rfl, hkd⟩ := hb9.add
    obtain ⟨fs, hfs⟩ := mk9_obj (ca := ca) (a := z.1 + i) (m := M (z.1 + i)) (n := (z.2.2 i).2) c0
    exact va_recv hE.1 hP c1 (q0 := i) (fs := fs) (by rw [WS9_get hi, mk9_kd hkd, hfs])
  refine vx_runV (own := own) (Ts := gw9) (As := (st.take n).reverse) (b := b) (C := y.cls) (n := n) ⟨hx, hb, hml, hown, hts⟩ hsp (cwV n hts hG rfl rfl rfl ⟨rfl, c7⟩ ⟨by show d' + 1 ≤ R.frames; omega, by show 8 + (maxL + 11) + 36 * d' ≤ R.locals; omega⟩) ⟨Pc9_blind, hrecv, pre9 hE hS hP⟩ rfl (by rw [List.length_reverse, List.length_take]; omega) hls.1 ?_ (lv_room hcat) hd ⟨by omega, by omega⟩
  show st = (st.take n).reverse.reverse ++ .ref b :: rest
  rw [List.reverse_reverse, ← hst, List.take_append_drop]
theorem runS9 {z : Sh9} {N : Nv9} {out : Out9 × Mem9} {nL : Nat} {cm : Ka9} {cc : ByteArray} {own : String} {d rk : Nat} {hh : List (Nat × Nat × Nat × Nat)} {pc : Nat} {ls : List (Nat × Value)} {st : List Value} {M : Mem9} {κ : Ka9} {p : Program} {l : Launch} {e : Env} {R : Room} {s : State} {m : MethodId} {args : Array Value} {below : List Frame} {meth : Method} {c : Code} {QQ : State → Prop} (C : OK9 z N (p, l, e, R, s, m, args, below, meth, c, QQ) out nL cm cc own d rk hh) {idx n d' maxL : Nat} {mc : Ka9} {y : MethodName} {yc : ByteArray} {ret : Option FieldType} {rest : List Value} {H : Heap} {locs : List Loc} {lsA : Array Slot} {o : Out9 × Mem9}
    (hd : decode cc pc = .ok (.invokestatic idx, 3)) (hl : LO9 own idx y yc maxL ret n) (hst : st.drop n = rest) (hn : n ≤ st.length) (hcat : (rest.map fun v => v.category).sum ≤ 8) (hdd : d' + 1 ≤ d) (hsp : Sp9 l z N y (Cond.code y yc maxL ret) d' (st.take n).reverse M mc o) (hκ : le9 (ad9 κ mc) cm) (hP : PM9 z N M H) (hS : va_S (A9 z) s.heap H locs) (hls : lv_has lsA nL ls) :
    vx_Run p l e R s m args below meth c H locs κ.1 κ.2 mc.1 mc.2 (F0 m pc lsA st) rest (Qc9 z N o (st.take n).reverse.toArray) (XC9 z N o) (A9 z) := by
  obtain ⟨hx, hb, hml, hown, hts, hE, ⟨r1, r2, r3, r4⟩, -⟩ := C
  have k1 : κ.1 + mc.1 ≤ cm.1 := hκ.1
  have k2 : κ.2 + mc.2 ≤ cm.2 := hκ.2
  obtain ⟨c2, c3, c5, c6, c7, c8⟩ := hl
  have hG : GoodIn gw9 (Cond.code y yc maxL ret :: gw9) := by
    refine good9 (fun w hw => ?_)
    rcases List.mem_cons.mp hw with rfl | hw
    · exact c6
    · exact hw
  refine vx_runS (own := own) (Ts := gw9) (As := (st.take n).reverse) (n := n) ⟨hx, hb, hml, hown, hts⟩ hsp ⟨callB_of n hts hG rfl rfl rfl (hts _ c5) (hts _ c2) c7 ⟨by show d' + 1 ≤ R.frames; omega, by show 8 + (maxL + 11) + 36 * d' ≤ R.locals; omega⟩, hts _ c3⟩ ⟨Pc9_blind, pre9 hE hS hP⟩ rfl (by rw [List.length_reverse, List.length_take]; omega) hls.1 ?_ (lv_room hcat) hd ⟨by omega, by omega⟩
  show st = (st.take n).reverse.reverse ++ rest
  rw [List.reverse_reverse, ← hst, List.take_append_drop]
theorem runW9 {z : Sh9} {N : Nv9} {out : Out9 × Mem9} {nL : Nat} {cm : Ka9} {cc : ByteArray} {own : String} {d rk : Nat} {hh : List (Nat × Nat × Nat × Nat)} {pc : Nat} {ls : List (Nat × Value)} {st : List Value} {M : Mem9} {κ : Ka9} {p : Program} {l : Launch} {e : Env} {R : Room} {s : State} {m : MethodId} {args : Array Value} {below : List Frame} {meth : Method} {c : Code} {QQ : State → Prop} (C : OK9 z N (p, l, e, R, s, m, args, below, meth, c, QQ) out nL cm cc own d rk hh) {idx n d' maxL : Nat} {mc : Ka9} {y : MethodName} {yc : ByteArray} {ret : Option FieldType} {hw : List (Nat × Nat × Nat × Nat)} {rest : List Value} {H : Heap} {locs : List Loc} {lsA : Array Slot} {o : Out9 × Mem9}
    (hd : decode cc pc = .ok (.invokestatic idx, 3)) (hl : LW9 own idx y yc maxL ret hw n) (hst : st.drop n = rest) (hn : n ≤ st.length) (hcat : (rest.map fun v => v.category).sum ≤ 8) (hdd : d' + 1 ≤ d) (hsp : Sp9 l z N y (Cond.codeWith y yc maxL ret hw) d' (st.take n).reverse M mc o) (hκ : le9 (ad9 κ mc) cm) (hP : PM9 z N M H) (hS : va_S (A9 z) s.heap H locs) (hls : lv_has lsA nL ls) :
    vx_Run p l e R s m args below meth c H locs κ.1 κ.2 mc.1 mc.2 (F0 m pc lsA st) rest (Qc9 z N o (st.take n).reverse.toArray) (XC9 z N o) (A9 z) := by
  obtain ⟨hx, hb, hml, hown, hts, hE, ⟨r1, r2, r3, r4⟩, -⟩ := C
  have k1 : κ.1 + mc.1 ≤ cm.1 := hκ.1
  have k2 : κ.2 + mc.2 ≤ cm.2 := hκ.2
  obtain ⟨c2, c3, c5, c6, c7, c8⟩ := hl
  have hG : GoodIn gw9 (va_wsS own idx y (Cond.codeWith y yc maxL ret hw :: gw9)) := by
    refine good9 (fun w hw => ?_)
    simp only [va_wsS, List.cons_append, List.nil_append, List.mem_cons] at hw
    rcases hw with rfl | rfl | rfl | rfl | hw
    · exact c2
    · exact c3
    · exact c5
    · exact c6
    · exact hw
  refine vx_runSX (own := own) (Ts := gw9) (As := (st.take n).reverse) (n := n) ⟨hx, hb, hml, hown, hts⟩ hsp (vx_cwSW n hts hG rfl rfl rfl c7 ⟨by show d' + 1 ≤ R.frames; omega, by show 8 + (maxL + 11) + 36 * d' ≤ R.locals; omega⟩) ⟨Pc9_blind, pre9 hE hS hP⟩ rfl (by rw [List.length_reverse, List.length_take]; omega) hls.1 ?_ (lv_room hcat) hd ⟨by omega, by omega⟩
  show st = (st.take n).reverse.reverse ++ rest
  rw [List.reverse_reverse, ← hst, List.take_append_drop]

theorem met9 {l : Launch} {z : Sh9} {N : Nv9} {y : MethodName} {w0 : Cond} {d : Nat} {av : List Value} {M : Mem9} {c : Ka9} {v : Option Value} {M' : Mem9} (h : Sp9 l z N y w0 d av M c (.inl v, M')) : Met l y (w0 :: gw9) (room9 d c) (Pc9 z N av M) (Qc9 z N (.inl v, M')) c.1 c.2 (A9 z) := by
  intro p e ha hc hk s m args below hf happ hpre hK
  obtain ⟨k, o, h1, h2, h3, h4⟩ := h p e ha hc hk s m args below hf happ hpre hK
  refine ⟨k, o, h1, h2, h3, ?_⟩
  rcases h4 with h4 | ⟨q, -, E, ce, L, ⟨⟨-, hx, -⟩, -⟩, -⟩
  · exact h4
  · cases hx
def LN9 (own : String) (idx : Nat) (y : MethodName) (yc : ByteArray) (maxL : Nat) (ret : Option FieldType) (n : Nat) (host : String) : Prop := (own, idx, y, host) ∈ nests9 ∧ Cond.static y ∈ gw9 ∧ Cond.initialized y.cls ∈ gw9 ∧ Cond.code y yc maxL ret ∈ gw9 ∧ (y.cls ≠ "java/lang/invoke/MethodHandle" ∧ y.cls ≠ "java/lang/invoke/VarHandle" ∧ (parseMethodDescriptor y.desc).map (fun d => d.parameters.length) = some n) ∧ maxL ≤ 17
theorem runN9 {z : Sh9} {N : Nv9} {out : Out9 × Mem9} {nL : Nat} {cm : Ka9} {cc : ByteArray} {own : String} {d rk : Nat} {hh : List (Nat × Nat × Nat × Nat)} {pc : Nat} {ls : List (Nat × Value)} {st : List Value} {M : Mem9} {κ : Ka9} {p : Program} {l : Launch} {e : Env} {R : Room} {s : State} {m : MethodId} {args : Array Value} {below : List Frame} {meth : Method} {c : Code} {QQ : State → Prop} (C : OK9 z N (p, l, e, R, s, m, args, below, meth, c, QQ) out nL cm cc own d rk hh) {idx n d' maxL : Nat} {mc : Ka9} {y : MethodName} {yc : ByteArray} {ret : Option FieldType} {host : String} {rest : List Value} {H : Heap} {locs : List Loc} {lsA : Array Slot} {v : Option Value} {M' : Mem9}
    (hd : decode cc pc = .ok (.invokestatic idx, 3)) (hl : LN9 own idx y yc maxL ret n host) (hst : st.drop n = rest) (hn : n ≤ st.length) (hcat : (rest.map fun v => v.category).sum ≤ 8) (hdd : d' + 1 ≤ d) (hsp : Sp9 l z N y (Cond.code y yc maxL ret) d' (st.take n).reverse M mc (.inl v, M')) (hκ : le9 (ad9 κ mc) cm) (hP : PM9 z N M H) (hS : va_S (A9 z) s.heap H locs) (hls : lv_has lsA nL ls) :
    vx_Run p l e R s m args below meth c H locs κ.1 κ.2 mc.1 mc.2 (F0 m pc lsA st) rest (Qc9 z N (.inl v, M') (st.take n).reverse.toArray) (XC9 z N (.inl v, M')) (A9 z) := by
  obtain ⟨hx, hb, hml, hown, hts, hE, ⟨r1, r2, r3, r4⟩, -⟩ := C
  have k1 : κ.1 + mc.1 ≤ cm.1 := hκ.1
  have k2 : κ.2 + mc.2 ≤ cm.2 := hκ.2
  obtain ⟨c2, c3, c5, c6, c7, c8⟩ := hl
  have hN : va_Nw (.methodLinkNest own idx y host) s := by
    obtain ⟨sb, L, xs, D, ca⟩ := N
    obtain ⟨-, -, -, -, -, -, -, -, e9, -, -⟩ := hE
    exact e9 _ c2
  have hG : GoodIn gw9 (Cond.code y yc maxL ret :: gw9) := by
    refine good9 (fun w hw => ?_)
    rcases List.mem_cons.mp hw with rfl | hw
    · exact c6
    · exact hw
  have h : va_Run p l e R s m args below meth c H locs κ.1 κ.2 mc.1 mc.2 (F0 m pc lsA st) rest (Qc9 z N (.inl v, M') (st.take n).reverse.toArray) (A9 z) := va_runSN (own := own) (Ts := gw9) (As := (st.take n).reverse) (n := n) (host := host) ⟨hx, hb, hml, hown, hts⟩ (met9 hsp) ⟨va_cnB (R := R) n hts hG rfl rfl rfl hN (hts _ c5) c7 ⟨by show d' + 1 ≤ R.frames; omega, by show 8 + (maxL + 11) + 36 * d' ≤ R.locals; omega⟩, hts _ c3, trivial⟩ ⟨Pc9_blind, pre9 hE hS hP⟩ rfl (by rw [List.length_reverse, List.length_take]; omega) hls.1 (by show st = (st.take n).reverse.reverse ++ rest; rw [List.reverse_reverse, ← hst, List.take_append_drop]) (lv_room hcat) hd ⟨by omega, by omega⟩
  exact fun T hT X => Or.inl (h T hT X)
/-! ===== the law's own row ===== -/
def sx9 (L : Nat) (xs : Nat → Int32) (i : Int32) : Option Int32 := if 0 ≤ i.toInt ∧ i.toInt < (L : Int) then some (xs i.toNatClampNeg) else none
theorem j_slen {z : Sh9} {sb L : Nat} {xs : Nat → Int32} {D : va_G} {ca : Nat → ClassId} {X : Cx9} {out : Out9 × Mem9} {nL : Nat} {cm : Ka9} {cc : ByteArray} {own : String} {d rk : Nat} {hh : List (Nat × Nat × Nat × Nat)} {pc : Nat} {ls : List (Nat × Value)} {st : List Value} {M : Mem9} {κ : Ka9} {F : Re9} (C : OK9 z (sb, L, xs, D, ca) X out nL cm cc own d rk hh) (hd : decode cc pc = .ok (.arraylength, 1)) (k : J9 z (sb, L, xs, D, ca) X out nL (pc + 1) ls (.int (Int32.ofNat L) :: st) M κ F) : J9 z (sb, L, xs, D, ca) X out nL pc ls (.ref sb :: st) M κ F := by
  obtain ⟨p, l, e, R, s, m, args, below, meth, c, QQ⟩ := X
  obtain ⟨hx, hb, hml, hown, hts, ⟨e1, e2, e3, -⟩, -⟩ := C
  intro hF H locs lsA hP hS hl
  have hsb : sb < s.heap.size := by
    obtain ⟨scr, a1, -⟩ := e2
    exact (Array.getElem?_eq_some_iff.mp a1).1
  exact va_slen hx hb e2 hsb (Nat.not_le.mpr e3) hS hd (k hF H locs lsA hP hS hl)
theorem j_sld {z : Sh9} {sb L : Nat} {xs : Nat → Int32} {D : va_G} {ca : Nat → ClassId} {X : Cx9} {out : Out9 × Mem9} {nL : Nat} {cm : Ka9} {cc : ByteArray} {own : String} {d rk : Nat} {hh : List (Nat × Nat × Nat × Nat)} {pc : Nat} {ls : List (Nat × Value)} {st : List Value} {M : Mem9} {κ : Ka9} {i : Int32} {K : Int32 → Re9} (C : OK9 z (sb, L, xs, D, ca) X out nL cm cc own d rk hh) (hd : decode cc pc = .ok (.iaload, 1)) (k : ∀ v, J9 z (sb, L, xs, D, ca) X out nL (pc + 1) ls (.int v :: st) M κ (K v)) : J9 z (sb, L, xs, D, ca) X out nL pc ls (.int i :: .ref sb :: st) M κ ((sx9 L xs i).bind K) := by
  obtain ⟨p, l, e, R, s, m, args, below, meth, c, QQ⟩ := X
  obtain ⟨hx, hb, hml, hown, hts, ⟨e1, e2, e3, -⟩, -⟩ := C
  intro hF H locs lsA hP hS hl
  have hsb : sb < s.heap.size := by
    obtain ⟨scr, a1, -⟩ := e2
    exact (Array.getElem?_eq_some_iff.mp a1).1
  unfold sx9 at hF
  by_cases h0 : 0 ≤ i.toInt ∧ i.toInt < (L : Int)
  · rw [if_pos h0] at hF
    exact va_sld hx hb e2 hsb (Nat.not_le.mpr e3) hS (vp_in_iff.mpr h0) hd (k _ hF H locs lsA hP hS hl)
  · rw [if_neg h0] at hF
    cases hF
