/-! ===== the making: shapes that grow ===== -/
def o9 : Out9 × Mem9 := (.inr "", fun _ _ => 0)
def uk9 (K : Nat → Nat × Nat) (i c : Nat) : Nat → Nat × Nat := fun j => if j = i then (c, 0) else K j
theorem uk9_ne {K : Nat → Nat × Nat} {i c j : Nat} (h : j ≠ i) : uk9 K i c j = K j := if_neg h
theorem uk9_eq {K : Nat → Nat × Nat} {i c : Nat} : uk9 K i c i = (c, 0) := if_pos rfl
theorem uk9_uk {K : Nat → Nat × Nat} {i c c' : Nat} : uk9 (uk9 K i c) i c' = uk9 K i c' := by
  funext j
  by_cases h : j = i
  · rw [h, uk9_eq, uk9_eq]
  · rw [uk9_ne h, uk9_ne h, uk9_ne h]
theorem uk9_sw {K : Nat → Nat × Nat} {i j c c' : Nat} (h : i ≠ j) : uk9 (uk9 K i c) j c' = uk9 (uk9 K j c') i c := by
  funext k
  by_cases h1 : k = i
  · subst h1; rw [uk9_ne h, uk9_eq, uk9_eq]
  · by_cases h2 : k = j
    · subst h2; rw [uk9_eq, uk9_ne h1, uk9_eq]
    · rw [uk9_ne h2, uk9_ne h1, uk9_ne h1, uk9_ne h2]
theorem uk9_self {K : Nat → Nat × Nat} {i c : Nat} (h : K i = (c, 0)) : uk9 K i c = K := by
  funext j
  by_cases hj : j = i
  · rw [hj, uk9_eq, h]
  · exact uk9_ne hj
theorem WS9_congr {a n : Nat} {K K' : Nat → Nat × Nat} {ca : Nat → ClassId} {M M' : Mem9} (hK : ∀ i, i < n → K' i = K i) (hM : ∀ i, i < n → M' (a + i) = M (a + i)) : WS9 (a, n, K') ca M' = WS9 (a, n, K) ca M := by
  apply List.ext_getElem?
  intro j
  by_cases hj : j < n
  · rw [WS9_get (z := (a, n, K')) hj, WS9_get (z := (a, n, K)) hj]
    show some (a + j, mk9 ca (a + j) (M' (a + j)) (K' j)) = some (a + j, mk9 ca (a + j) (M (a + j)) (K j))
    rw [hK j hj, hM j hj]
  · rw [List.getElem?_eq_none (by unfold WS9; rw [List.length_map, List.length_range]; exact Nat.le_of_not_lt hj), List.getElem?_eq_none (by unfold WS9; rw [List.length_map, List.length_range]; exact Nat.le_of_not_lt hj)]
theorem WS9_push {a n : Nat} {K : Nat → Nat × Nat} {ca : Nat → ClassId} {M : Mem9} : WS9 (a, n + 1, K) ca M = WS9 (a, n, K) ca M ++ [(a + n, mk9 ca (a + n) (M (a + n)) (K n))] := by
  unfold WS9
  show (List.range (n + 1)).map _ = _
  rw [List.range_succ, List.map_append]
  rfl
theorem PM9_congr {a n : Nat} {K K' : Nat → Nat × Nat} {N : Nv9} {M M' : Mem9} {H : Heap} (hK : ∀ i, i < n → K' i = K i) (hM : ∀ i, i < n → M' (a + i) = M (a + i)) (h : PM9 (a, n, K) N M H) : PM9 (a, n, K') N M' H := by
  obtain ⟨sb, L, xs, D, ca⟩ := N
  show va_P D vwCl (WS9 (a, n, K') ca M') H
  rw [WS9_congr hK hM]
  exact h
theorem EV9_sh {z z' : Sh9} {N : Nv9} {s : State} (h : z'.1 = z.1) (hE : EV9 z N s) : EV9 z' N s := by
  obtain ⟨a, n, K⟩ := z
  obtain ⟨a', n', K'⟩ := z'
  cases h
  exact hE
/-- the context in the making: no answer is due -/
theorem ok9_o {z : Sh9} {N : Nv9} {p : Program} {l : Launch} {e : Env} {R : Room} {s : State} {m : MethodId} {args : Array Value} {below : List Frame} {meth : Method} {c : Code} {QQ : State → Prop} {nL : Nat} {cm : Ka9} {cc : ByteArray} {own : String} {d : Nat} (hx : p.tables.exec = Jvm.exec) (hb : c.code = cc) (hml : c.maxLocals = nL) (hown : s.vm.findClass own = some m.cls) (hts : ∀ w ∈ gw9, w.before args s = true) (hE : EV9 z N s) (hR : d ≤ R.frames ∧ 36 * d ≤ R.locals ∧ cm.1 ≤ R.cells ∧ cm.2 ≤ R.slots) (hst : l.stackTraces = false) : OK9 z N (p, l, e, R, s, m, args, below, meth, c, QQ) o9 nL cm cc own d 0 [] := by
  refine ⟨hx, hb, hml, hown, hts, hE, hR, hst, .inl rfl, ?_, ?_, ?_⟩
  · intro v i pc M κ H locs lsA _ _ ho
    cases ho
  · intro _ E q ce pc M κ H locs lsA rest hE ho
    have h := (Sum.inr.inj (Prod.mk.inj ho).1 : "" = E)
    subst h
    exact absurd hE (by decide +kernel)
  · intro _ E pc M κ H locs lsA rest hT _ _ _ ho
    have h := (Sum.inr.inj (Prod.mk.inj ho).1 : "" = E)
    subst h
    obtain ⟨_, _, _, _, hE, -⟩ := hT
    exact absurd hE (by decide +kernel)
theorem ok9_sh {z z' : Sh9} {N : Nv9} {p : Program} {l : Launch} {e : Env} {R : Room} {s : State} {m : MethodId} {args : Array Value} {below : List Frame} {meth : Method} {c : Code} {QQ : State → Prop} {nL : Nat} {cm : Ka9} {cc : ByteArray} {own : String} {d : Nat} (C : OK9 z N (p, l, e, R, s, m, args, below, meth, c, QQ) o9 nL cm cc own d 0 []) (h : z'.1 = z.1) : OK9 z' N (p, l, e, R, s, m, args, below, meth, c, QQ) o9 nL cm cc own d 0 [] := by
  obtain ⟨hx, hb, hml, hown, hts, hE, hR, hst, htb, -⟩ := C
  exact ok9_o hx hb hml hown hts (EV9_sh h hE) hR hst
section CT
variable {a n : Nat} {K : Nat → Nat × Nat} {sb L : Nat} {xs : Nat → Int32} {D : va_G} {ca : Nat → ClassId} {p : Program} {l : Launch} {e : Env} {R : Room} {s : State} {m : MethodId} {args : Array Value} {below : List Frame} {meth : Method} {c : Code} {QQ : State → Prop} {nL : Nat} {cm : Ka9} {cc : ByteArray} {own : String} {d : Nat} {pc : Nat} {ls : List (Nat × Value)} {st : List Value} {M : Mem9} {κ : Ka9}
/-- an address that is new is the next one -/
theorem next9 {z : Sh9} {D : va_G} {ca : Nat → ClassId} {q : Nat} {en : va_E} {H1 : Heap} {T : State} {locs : List Loc} {cells slots : Nat} (X : Stand p l e R s m args below meth c T locs cells slots) (hT : T.heap = H1) (hP : va_P D vwCl (WS9 z ca M ++ [(q, en)]) H1) (hD : va_D (A9 z) (WS9 z ca M ++ [(q, en)])) (hz : s.heap.size + cells = z.1 + z.2.1 + 1) : q = z.1 + z.2.1 := by
  have hlen : (WS9 z ca M).length = z.2.1 := by unfold WS9; rw [List.length_map, List.length_range]
  have hget : (WS9 z ca M ++ [(q, en)])[z.2.1]? = some (q, en) := by
    rw [List.getElem?_append_right (by rw [hlen]; exact Nat.le_refl _), hlen, Nat.sub_self]
    rfl
  have h1 : q < H1.size := (hP _ _ hget).lt
  have h2 : z.1 ≤ q := hD.2 _ _ hget
  have h3 : T.heap.size ≤ s.heap.size + cells := X.same.2.2.1
  rw [hT] at h3
  have h4 : ¬ q < z.1 + z.2.1 := by
    intro h
    have hi : q - z.1 < z.2.1 := by omega
    have hg2 : (WS9 z ca M ++ [(q, en)])[q - z.1]? = some (z.1 + (q - z.1), mk9 ca (z.1 + (q - z.1)) (M (z.1 + (q - z.1))) (z.2.2 (q - z.1))) := by
      rw [List.getElem?_append_left (by rw [hlen]; exact hi), WS9_get hi]
    have h5 := hD.1 _ _ _ _ hget hg2 (by show q = z.1 + (q - z.1); omega)
    omega
  omega
theorem RA9 {U : State} {cA cB : ClassId} {ty : FieldType} (h1 : va_RA U cA ty) (h2 : va_RA U cB ty) : cA = cB := by
  cases ty with
  | object C =>
    obtain ⟨_, _, _, _, _, e1⟩ := h1
    obtain ⟨_, _, _, _, _, e2⟩ := h2
    exact Option.some.inj (e1.symm.trans e2)
  | _ => exact Option.some.inj (Eq.trans (Eq.symm (show U.vm.findClass _ = some cA from h1)) (show U.vm.findClass _ = some cB from h2))
theorem jc_newa (C : OK9 (a, n, K) (sb, L, xs, D, ca) (p, l, e, R, s, m, args, below, meth, c, QQ) o9 nL cm cc own d 0 []) {t len : Nat} {v : Int32} {atype : ArrayType} {ty : FieldType} {x9 : vp_A} {x y x' y' : Nat} (hd : decode cc pc = .ok (.newarray atype, 2)) (hw : Cond.arrayClass (newarray.typeOf atype) ∈ gw9) (hty : newarray.typeOf atype = ty) (htt : (tys9 ca)[t]? = some (ca t, ty))
    (hx1 : mk9 ca (a + n) (M (a + n)) (K n) = .inl (ca t, x9)) (hx2 : ∀ cA : ClassId, vp_cell cA x9 = arrV cA len (fun _ => defaultValue ty)) (hv : ¬ v < 0) (hlen : v.toNatClampNeg = len) (hby : len * componentBytes ty ≤ 536870912) (hx' : x + 1 = x') (hy' : y + len = y') (ha : a ≤ s.heap.size) (hz : s.heap.size + x = a + n) (h1 : x' ≤ cm.1) (h2 : y' ≤ cm.2)
    (k : J9 (a, n + 1, K) (sb, L, xs, D, ca) (p, l, e, R, s, m, args, below, meth, c, QQ) o9 nL (pc + 2) ls (.ref (a + n) :: st) M (x', y') (some o9)) : J9 (a, n, K) (sb, L, xs, D, ca) (p, l, e, R, s, m, args, below, meth, c, QQ) o9 nL (pc) ls (.int v :: st) M (x, y) (some o9) := by
  obtain ⟨hx, hb, hml, hown, hts, hE, ⟨r1, r2, r3, r4⟩, -⟩ := C
  subst hx'; subst hy'
  intro hF H locs lsA hP hS hl
  refine va_newa (D := D) (cl := vwCl) (A := A9 (a, n, K)) (ws := WS9 (a, n, K) ca M) (tys := tys9 ca) (a0 := x9) hx hb (hts _ hw) hty hE.1 hP (WS9_D _ ca M) hS (fun q hq => show a ≤ q from Nat.le_trans ha hq) hx2 hv hlen hby (by omega) (by omega) hd (fun q cA H1 hK1 hP1 hD1 hS1 => ?_)
  have hcA : cA = ca t := RA9 (hK1.2 (tys9 ca).length (cA, ty) (by simp)).2 (hE.1.2 t _ htt).2
  subst hcA
  intro T hT X
  have hq : q = a + n := next9 (z := (a, n, K)) X hT hP1 hD1 (by show s.heap.size + (x + 1) = a + n + 1; omega)
  subst hq
  refine k rfl H1 locs lsA ?_ hS1 hl T hT X
  show va_P D vwCl (WS9 (a, n + 1, K) ca M) H1
  rw [WS9_push, hx1]
  exact hP1
theorem jc_anew (C : OK9 (a, n, K) (sb, L, xs, D, ca) (p, l, e, R, s, m, args, below, meth, c, QQ) o9 nL cm cc own d 0 []) {t len idx : Nat} {v : Int32} {Cn : String} {x y x' y' : Nat} (hd : decode cc pc = .ok (.anewarray idx, 3)) (hw : Cond.classLink own idx Cn ∈ gw9) (hC : Cn ∈ ["LorryArms$Lane", "LorryArms$Gate"]) (htt : (tys9 ca)[t]? = some (ca t, .object Cn))
    (hx1 : mk9 ca (a + n) (M (a + n)) (K n) = .inl (ca t, len, .inr (.inr (.inr (.inr (fun _ => none)))))) (hv : ¬ v < 0) (hlen : v.toNatClampNeg = len) (hby : len * 4 ≤ 536870912) (hx' : x + 1 = x') (hy' : y + len = y') (ha : a ≤ s.heap.size) (hz : s.heap.size + x = a + n) (h1 : x' ≤ cm.1) (h2 : y' ≤ cm.2)
    (k : J9 (a, n + 1, K) (sb, L, xs, D, ca) (p, l, e, R, s, m, args, below, meth, c, QQ) o9 nL (pc + 3) ls (.ref (a + n) :: st) M (x', y') (some o9)) : J9 (a, n, K) (sb, L, xs, D, ca) (p, l, e, R, s, m, args, below, meth, c, QQ) o9 nL (pc) ls (.int v :: st) M (x, y) (some o9) := by
  obtain ⟨hx, hb, hml, hown, hts, hE, ⟨r1, r2, r3, r4⟩, -⟩ := C
  have hao : va_AO Cn s := hE.2.2.2.2.2.2.2.2.2.2 Cn hC
  subst hx'; subst hy'
  intro hF H locs lsA hP hS hl
  refine va_newq (D := D) (cl := vwCl) (A := A9 (a, n, K)) (ws := WS9 (a, n, K) ca M) (tys := tys9 ca) hx hb hown (hts _ hw) hao hE.1 hP (WS9_D _ ca M) hS (fun q hq => show a ≤ q from Nat.le_trans ha hq) hv hlen hby (by omega) (by omega) hd (fun q cA H1 hK1 hP1 hD1 hS1 => ?_)
  have hcA : cA = ca t := RA9 (hK1.2 (tys9 ca).length (cA, .object Cn) (by simp)).2 (hE.1.2 t _ htt).2
  subst hcA
  intro T hT X
  have hq : q = a + n := next9 (z := (a, n, K)) X hT hP1 hD1 (by show s.heap.size + (x + 1) = a + n + 1; omega)
  subst hq
  refine k rfl H1 locs lsA ?_ hS1 hl T hT X
  show va_P D vwCl (WS9 (a, n + 1, K) ca M) H1
  rw [WS9_push, hx1]
  exact hP1
theorem jc_new (C : OK9 (a, n, K) (sb, L, xs, D, ca) (p, l, e, R, s, m, args, below, meth, c, QQ) o9 nL cm cc own d 0 []) {ci idx Nf : Nat} {T9 : u_T} {ty : Nat → FieldType} {Cn : String} {fs : List Value} {x y x' y' : Nat} (hd : decode cc pc = .ok (.new idx, 3)) (w1 : Cond.classLink own idx Cn ∈ gw9) (w2 : Cond.instantiable Cn Nf ∈ gw9) (w3 : Cond.initialized Cn ∈ gw9) (hc : vwCl[ci]? = some (Cn, T9, Nf)) (hin : ∀ w ∈ u_ws Cn T9 Nf, w ∈ gw9) (hty : ∀ k, k < Nf → parseFieldDescriptor (T9 k).2.2.1 = some (ty k))
    (hx1 : mk9 ca (a + n) (M (a + n)) (K n) = .inr (ci, fs)) (hfs : ∀ j, j < Nf → defaultValue (ty j) = vp_V fs j) (hx' : x + 1 = x') (hy' : y + Nf = y') (ha : a ≤ s.heap.size) (hz : s.heap.size + x = a + n) (h1 : x' ≤ cm.1) (h2 : y' ≤ cm.2)
    (k : J9 (a, n + 1, K) (sb, L, xs, D, ca) (p, l, e, R, s, m, args, below, meth, c, QQ) o9 nL (pc + 3) ls (.ref (a + n) :: st) M (x', y') (some o9)) : J9 (a, n, K) (sb, L, xs, D, ca) (p, l, e, R, s, m, args, below, meth, c, QQ) o9 nL (pc) ls (st) M (x, y) (some o9) := by
  obtain ⟨hx, hb, hml, hown, hts, hE, ⟨r1, r2, r3, r4⟩, -⟩ := C
  subst hx'; subst hy'
  intro hF H locs lsA hP hS hl
  refine va_new (D := D) (cl := vwCl) (A := A9 (a, n, K)) (ws := WS9 (a, n, K) ca M) (tys := tys9 ca) (ci := ci) (fs := fs) (C := Cn) (T := T9) (N := Nf) hx hb hts hin ty hty hown (hts _ w1) (hts _ w2) (hts _ w3) hE.1 hP (WS9_D _ ca M) hS (fun q hq => show a ≤ q from Nat.le_trans ha hq) hc hfs (by omega) (by omega) hd (fun q H1 hP1 hD1 hS1 => ?_)
  intro T hT X
  have hq : q = a + n := next9 (z := (a, n, K)) X hT hP1 hD1 (by show s.heap.size + (x + 1) = a + n + 1; omega)
  subst hq
  refine k rfl H1 locs lsA ?_ hS1 hl T hT X
  show va_P D vwCl (WS9 (a, n + 1, K) ca M) H1
  rw [WS9_push, hx1]
  exact hP1
/-- a final field in a constructor: the object's kind goes on by one -/
theorem jc_putF (C : OK9 (a, n, K) (sb, L, xs, D, ca) (p, l, e, R, s, m, args, below, meth, c, QQ) o9 nL cm cc own d 0 []) {i k9 ci idx Nf q : Nat} {T9 : u_T} {ty : FieldType} {fs fs' : List Value} (hd : decode cc pc = .ok (.putfield idx, 3)) (hf : FL9 own idx ci k9 T9 Nf) (hin : meth.name = "<init>") (hfin : (T9 k9).2.2.2 = true) (hdecl : (T9 k9).1 = own) (hty : parseFieldDescriptor (T9 k9).2.2.1 = some ty) (hnar : narrow ty (.ref q) = .ref q) (hfit : fits ty (.ref q) = true)
    (hi : i < n) (hx1 : mk9 ca (a + i) (M (a + i)) (K i) = .inr (ci, fs)) (hlt : k9 < fs.length) (hset : fs.set k9 (.ref q) = fs') {K1 : Nat → Nat × Nat} (hx2 : mk9 ca (a + i) (M (a + i)) (K1 i) = .inr (ci, fs')) (hK1 : ∀ j, j ≠ i → K1 j = K j)
    (k : J9 (a, n, K1) (sb, L, xs, D, ca) (p, l, e, R, s, m, args, below, meth, c, QQ) o9 nL (pc + 3) ls (st) M κ (some o9)) : J9 (a, n, K) (sb, L, xs, D, ca) (p, l, e, R, s, m, args, below, meth, c, QQ) o9 nL (pc) ls (.ref q :: .ref (a + i) :: st) M κ (some o9) := by
  obtain ⟨hx, hb, hml, hown, hts, hE, -⟩ := C
  intro hF H locs lsA hP hS hl
  obtain ⟨f1, f2, f3, f4, ⟨ty0, f5⟩, f6⟩ := hf
  refine va_putF (D := D) (ci := ci) (v := .ref q) (ty := ty) hx hb hts f3 ty0 f5 f6 hown hE.1 hP (WS9_D _ ca M) hS i (fs := fs) (by rw [WS9_get (z := (a, n, K)) hi]; show some (a + i, mk9 ca (a + i) (M (a + i)) (K i)) = _; rw [hx1]) f1 k9 f2 (hts _ f4) (fun _ h9 => h9) hfin hin hdecl hty hnar hfit hlt hd (fun H1 locs1 hP1 hD1 hS1 => k rfl H1 locs1 lsA ?_ hS1 hl)
  show va_P D vwCl (WS9 (a, n, K1) ca M) H1
  have he : (WS9 (a, n, K) ca M).set i (a + i, .inr (ci, fs.set k9 (.ref q))) = WS9 (a, n, K1) ca M := by
    rw [hset]
    apply List.ext_getElem?
    intro j
    by_cases hj : j < n
    · rw [WS9_get (z := (a, n, K1)) hj]
      by_cases hij : i = j
      · subst hij
        rw [List.getElem?_set_self (by unfold WS9; rw [List.length_map, List.length_range]; exact hi)]
        show _ = some (a + i, mk9 ca (a + i) (M (a + i)) (K1 i))
        rw [hx2]
      · rw [List.getElem?_set_ne hij, WS9_get (z := (a, n, K)) hj]
        show some (a + j, mk9 ca (a + j) (M (a + j)) (K j)) = some (a + j, mk9 ca (a + j) (M (a + j)) (K1 j))
        rw [hK1 j (fun h => hij h.symm)]
    · rw [List.getElem?_eq_none (by rw [List.length_set]; unfold WS9; rw [List.length_map, List.length_range]; exact Nat.le_of_not_lt hj), List.getElem?_eq_none (by unfold WS9; rw [List.length_map, List.length_range]; exact Nat.le_of_not_lt hj)]
  rw [he] at hP1
  exact hP1
/-- an int field that holds that number already -/
theorem jc_putI (C : OK9 (a, n, K) (sb, L, xs, D, ca) (p, l, e, R, s, m, args, below, meth, c, QQ) o9 nL cm cc own d 0 []) {i k9 ci idx Nf : Nat} {T9 : u_T} {fs : List Value} {v : Int32} (hd : decode cc pc = .ok (.putfield idx, 3)) (hf : FL9 own idx ci k9 T9 Nf) (hfin : (T9 k9).2.2.2 = false) (hty : parseFieldDescriptor (T9 k9).2.2.1 = some .int)
    (hi : i < n) (hx1 : mk9 ca (a + i) (M (a + i)) (K i) = .inr (ci, fs)) (hlt : k9 < fs.length) (hset : fs.set k9 (.int v) = fs) (k : J9 (a, n, K) (sb, L, xs, D, ca) (p, l, e, R, s, m, args, below, meth, c, QQ) o9 nL (pc + 3) ls (st) M κ (some o9)) : J9 (a, n, K) (sb, L, xs, D, ca) (p, l, e, R, s, m, args, below, meth, c, QQ) o9 nL (pc) ls (.int v :: .ref (a + i) :: st) M κ (some o9) := by
  obtain ⟨hx, hb, hml, hown, hts, hE, -⟩ := C
  intro hF H locs lsA hP hS hl
  obtain ⟨f1, f2, f3, f4, ⟨ty0, f5⟩, f6⟩ := hf
  have hg : (WS9 (a, n, K) ca M)[i]? = some (a + i, .inr (ci, fs)) := by
    rw [WS9_get (z := (a, n, K)) hi]
    show some (a + i, mk9 ca (a + i) (M (a + i)) (K i)) = _
    rw [hx1]
  refine va_put (D := D) (ci := ci) (v := .int v) (ty := .int) hx hb hts f3 ty0 f5 f6 hown hE.1 hP (WS9_D _ ca M) hS i (fs := fs) hg f1 k9 f2 (hts _ f4) (fun _ h9 => h9) hfin hty rfl rfl hlt hd (fun H1 locs1 hP1 hD1 hS1 => k rfl H1 locs1 lsA ?_ hS1 hl)
  show va_P D vwCl (WS9 (a, n, K) ca M) H1
  have he : (WS9 (a, n, K) ca M).set i (a + i, .inr (ci, fs.set k9 (.int v))) = WS9 (a, n, K) ca M := by
    rw [hset]
    apply List.ext_getElem?
    intro j
    by_cases hij : i = j
    · subst hij
      rw [List.getElem?_set_self (by unfold WS9; rw [List.length_map, List.length_range]; exact hi), hg]
    · rw [List.getElem?_set_ne hij]
  rw [he] at hP1
  exact hP1
theorem jc_get (C : OK9 (a, n, K) (sb, L, xs, D, ca) (p, l, e, R, s, m, args, below, meth, c, QQ) o9 nL cm cc own d 0 []) {i k9 ci idx Nf q : Nat} {T9 : u_T} {fs : List Value} (hd : decode cc pc = .ok (.getfield idx, 3)) (hf : FL9 own idx ci k9 T9 Nf) (hi : i < n) (hx1 : mk9 ca (a + i) (M (a + i)) (K i) = .inr (ci, fs)) (hv : fs[k9]? = some (.ref q)) (k : J9 (a, n, K) (sb, L, xs, D, ca) (p, l, e, R, s, m, args, below, meth, c, QQ) o9 nL (pc + 3) ls (.ref q :: st) M κ (some o9)) : J9 (a, n, K) (sb, L, xs, D, ca) (p, l, e, R, s, m, args, below, meth, c, QQ) o9 nL (pc) ls (.ref (a + i) :: st) M κ (some o9) := by
  obtain ⟨hx, hb, hml, hown, hts, hE, -⟩ := C
  intro hF H locs lsA hP hS hl
  obtain ⟨f1, f2, f3, f4, -⟩ := hf
  exact va_get (D := D) (ci := ci) (v := .ref q) hx hb hts f3 hown hE.1 hP i (fs := fs) (by rw [WS9_get (z := (a, n, K)) hi]; show some (a + i, mk9 ca (a + i) (M (a + i)) (K i)) = _; rw [hx1]) f1 k9 f2 (hts _ f4) (fun _ h9 => h9) hv hd (k rfl H locs lsA hP hS hl)
theorem arr9 {cA : ClassId} {n : Nat} {f g : Nat → Value} (h : ∀ k, k < n → f k = g k) : arrV cA n f = arrV cA n g := by
  unfold arrV
  congr 1
  apply Array.ext
  · simp
  · intro i h1 h2
    simp at h1
    simp [h i h1]
/-- an element of a row of references: the row's kind goes on by one -/
theorem jc_aast (C : OK9 (a, n, K) (sb, L, xs, D, ca) (p, l, e, R, s, m, args, below, meth, c, QQ) o9 nL cm cc own d 0 []) {i j t ci len q9 : Nat} {r : vw_C} {vs : List Value} {f f' : Nat → Option Nat} {v : Int32} (hd : decode cc pc = .ok (.aastore, 1)) (htt : (tys9 ca)[t]? = some (ca t, .object r.1)) (hc : vwCl[ci]? = some r) (hi : i < n) (hj : j < n) (hij : j ≠ i)
    (hx1 : mk9 ca (a + i) (M (a + i)) (K i) = .inl (ca t, len, .inr (.inr (.inr (.inr f))))) (hx3 : mk9 ca (a + j) (M (a + j)) (K j) = .inr (ci, vs)) (hin : vp_in v len) (hq : q9 = v.toNatClampNeg) {K1 : Nat → Nat × Nat} (hx2 : mk9 ca (a + i) (M (a + i)) (K1 i) = .inl (ca t, len, .inr (.inr (.inr (.inr f'))))) (hK1 : ∀ j, j ≠ i → K1 j = K j) (hff : ∀ k, k < len → f' k = va_up f q9 (some (a + j)) k)
    (k : J9 (a, n, K1) (sb, L, xs, D, ca) (p, l, e, R, s, m, args, below, meth, c, QQ) o9 nL (pc + 1) ls (st) M κ (some o9)) : J9 (a, n, K) (sb, L, xs, D, ca) (p, l, e, R, s, m, args, below, meth, c, QQ) o9 nL (pc) ls (.ref (a + j) :: .int v :: .ref (a + i) :: st) M κ (some o9) := by
  obtain ⟨hx, hb, hml, hown, hts, hE, -⟩ := C
  intro hF H locs lsA hP hS hl
  subst hq
  have hgi : (WS9 (a, n, K) ca M)[i]? = some (a + i, .inl (ca t, len, .inr (.inr (.inr (.inr f))))) := by
    rw [WS9_get (z := (a, n, K)) hi]
    show some (a + i, mk9 ca (a + i) (M (a + i)) (K i)) = _
    rw [hx1]
  have hgj : (WS9 (a, n, K) ca M)[j]? = some (a + j, .inr (ci, vs)) := by
    rw [WS9_get (z := (a, n, K)) hj]
    show some (a + j, mk9 ca (a + j) (M (a + j)) (K j)) = _
    rw [hx3]
  refine va_astq (D := D) hx hb hE.1 hP (WS9_D _ ca M) hS i t j ci hgi htt hgj hc hin hd (fun H1 locs1 hP1 hD1 hS1 => k rfl H1 locs1 lsA ?_ hS1 hl)
  show va_P D vwCl (WS9 (a, n, K1) ca M) H1
  intro x q hq
  obtain ⟨hx9, rfl⟩ := WS9_inv (z := (a, n, K1)) hq
  have hx9 : x < n := hx9
  by_cases hxi : x = i
  · subst hxi
    have h1 := hP1 x (a + x, .inl (ca t, len, .inr (.inr (.inr (.inr (va_up f v.toNatClampNeg (some (a + j)))))))) (List.getElem?_set_self (by unfold WS9; rw [List.length_map, List.length_range]; exact hi))
    show va_at D vwCl (a + x, mk9 ca (a + x) (M (a + x)) (K1 x)) H1
    rw [hx2]
    show H1[a + x]? = some (vp_cell (ca t) (len, .inr (.inr (.inr (.inr f')))))
    rw [vp_cell_q, arr9 (fun k hk => by rw [hff k hk])]
    exact h1
  · refine hP1 x _ ?_
    rw [List.getElem?_set_ne (fun h => hxi h.symm), WS9_get (z := (a, n, K)) hx9]
    show some (a + x, mk9 ca (a + x) (M (a + x)) (K x)) = some (a + x, mk9 ca (a + x) (M (a + x)) (K1 x))
    rw [hK1 x hxi]
/-- a method that returns nothing and makes nothing -/
theorem jc_callV (C : OK9 (a, n, K) (sb, L, xs, D, ca) (p, l, e, R, s, m, args, below, meth, c, QQ) o9 nL cm cc own d 0 []) {idx ci n9 d' maxL b : Nat} {y : MethodName} {yc : ByteArray} {rest : List Value} {M1 : Mem9} (hd : decode cc pc = .ok (.invokevirtual idx, 3)) (hl : LV9 own idx ci y yc maxL none n9) (hst : st.drop n9 = .ref b :: rest) (hn : n9 ≤ st.length) (hcat : (rest.map fun v => v.category).sum ≤ 8) (hdd : d' + 1 ≤ d) (hκ : le9 κ cm) (hsp : ∀ l : Launch, l.stackTraces = false → Sp9 l (a, n, K) (sb, L, xs, D, ca) y (Cond.code y yc maxL none) d' (.ref b :: (st.take n9).reverse) M (0, 0) (.inl none, M1)) (hb9 : okO9 (a, n, K) b ci)
    (k : J9 (a, n, K) (sb, L, xs, D, ca) (p, l, e, R, s, m, args, below, meth, c, QQ) o9 nL (pc + 3) ls (rest) M1 κ (some o9)) : J9 (a, n, K) (sb, L, xs, D, ca) (p, l, e, R, s, m, args, below, meth, c, QQ) o9 nL (pc) ls (st) M κ (some o9) := by
  intro hF H locs lsA hP hS hls
  have hl9 : l.stackTraces = false := C.2.2.2.2.2.2.2.1
  refine call9 (runV9 C hd hl hst hn hcat hdd (hsp l hl9) hb9 (by exact hκ) hP hS hls) hS (fun v' M'' H1 locs1 ho hP1 hS1 => ?_) (fun E M'' H1 locs1 q ce hE ho => by cases ho)
  cases ho
  exact k rfl H1 locs1 lsA hP1 hS1 hls
theorem jc_callS (C : OK9 (a, n, K) (sb, L, xs, D, ca) (p, l, e, R, s, m, args, below, meth, c, QQ) o9 nL cm cc own d 0 []) {idx n9 d' maxL : Nat} {y : MethodName} {yc : ByteArray} {rest : List Value} {M1 : Mem9} (hd : decode cc pc = .ok (.invokestatic idx, 3)) (hl : LO9 own idx y yc maxL none n9) (hst : st.drop n9 = rest) (hn : n9 ≤ st.length) (hcat : (rest.map fun v => v.category).sum ≤ 8) (hdd : d' + 1 ≤ d) (hκ : le9 κ cm) (hsp : ∀ l : Launch, l.stackTraces = false → Sp9 l (a, n, K) (sb, L, xs, D, ca) y (Cond.code y yc maxL none) d' (st.take n9).reverse M (0, 0) (.inl none, M1))
    (k : J9 (a, n, K) (sb, L, xs, D, ca) (p, l, e, R, s, m, args, below, meth, c, QQ) o9 nL (pc + 3) ls (rest) M1 κ (some o9)) : J9 (a, n, K) (sb, L, xs, D, ca) (p, l, e, R, s, m, args, below, meth, c, QQ) o9 nL (pc) ls (st) M κ (some o9) := by
  intro hF H locs lsA hP hS hls
  have hl9 : l.stackTraces = false := C.2.2.2.2.2.2.2.1
  refine call9 (runS9 C hd hl hst hn hcat hdd (hsp l hl9) (by exact hκ) hP hS hls) hS (fun v' M'' H1 locs1 ho hP1 hS1 => ?_) (fun E M'' H1 locs1 q ce hE ho => by cases ho)
  cases ho
  exact k rfl H1 locs1 lsA hP1 hS1 hls
theorem jc_ge_no (C : OK9 (a, n, K) (sb, L, xs, D, ca) (p, l, e, R, s, m, args, below, meth, c, QQ) o9 nL cm cc own d 0 []) {x y : Int32} {off : Int} {tgt : Nat} (hd : decode cc pc = .ok (.if_icmp .ge off, 3)) (ht : (pc : Int) + off = (tgt : Int)) (h : ¬ y ≤ x) (k : J9 (a, n, K) (sb, L, xs, D, ca) (p, l, e, R, s, m, args, below, meth, c, QQ) o9 nL (pc + 3) ls st M κ (some o9)) : J9 (a, n, K) (sb, L, xs, D, ca) (p, l, e, R, s, m, args, below, meth, c, QQ) o9 nL pc ls (.int y :: .int x :: st) M κ (some o9) := by
  have h2 := j_icmp_ge (F1 := none) C hd ht (fun q => absurd q h) (fun _ => k)
  rw [if_neg h] at h2
  exact h2
theorem jc_ge_yes (C : OK9 (a, n, K) (sb, L, xs, D, ca) (p, l, e, R, s, m, args, below, meth, c, QQ) o9 nL cm cc own d 0 []) {x y : Int32} {off : Int} {tgt : Nat} (hd : decode cc pc = .ok (.if_icmp .ge off, 3)) (ht : (pc : Int) + off = (tgt : Int)) (h : y ≤ x) (k : J9 (a, n, K) (sb, L, xs, D, ca) (p, l, e, R, s, m, args, below, meth, c, QQ) o9 nL tgt ls st M κ (some o9)) : J9 (a, n, K) (sb, L, xs, D, ca) (p, l, e, R, s, m, args, below, meth, c, QQ) o9 nL pc ls (.int y :: .int x :: st) M κ (some o9) := by
  have h2 := j_icmp_ge (F2 := none) C hd ht (fun _ => k) (fun q => absurd h q)
  rw [if_pos h] at h2
  exact h2
/-- a constructor's contract: the shape grows from n to n', the kinds from K to K' -/
def Cn9 (l : Launch) (a n n' : Nat) (K K' : Nat → Nat × Nat) (N : Nv9) (y : MethodName) (yc : ByteArray) (maxL d b : Nat) (mc : Ka9) (M M' : Mem9) : Prop :=
  Met l y (Cond.code y yc maxL none :: gw9) (room9 d mc) (va_Pc [.ref b] (fun U => (EV9 (a, n, K) N U ∧ PM9 (a, n, K) N M U.heap) ∧ U.heap.size = a + n)) (fun _ st oc t => (oc = .returned none ∧ PM9 (a, n', K') N M' t.heap) ∧ va_F (A9 (a, n, K)) st t) mc.1 mc.2 (A9 (a, n, K))
theorem jc_init (C : OK9 (a, n, K) (sb, L, xs, D, ca) (p, l, e, R, s, m, args, below, meth, c, QQ) o9 nL cm cc own d 0 []) {idx d' maxL b n' : Nat} {y : MethodName} {yc : ByteArray} {K' : Nat → Nat × Nat} {M1 : Mem9} {mc : Ka9} (hd : decode cc pc = .ok (.invokespecial idx, 3)) (w1 : Cond.methodLink own idx y ∈ gw9) (w2 : Cond.instanceMethod y ∈ gw9) (w3 : Cond.initialized y.cls ∈ gw9) (w4 : Cond.code y yc maxL none ∈ gw9) (hy1 : y.name = "<init>") (hchk : y.cls ≠ "java/lang/invoke/MethodHandle" ∧ y.cls ≠ "java/lang/invoke/VarHandle" ∧ (parseMethodDescriptor y.desc).map (fun d => d.parameters.length) = some 0) (hmx : maxL ≤ 17) (hcat : (st.map fun v => v.category).sum ≤ 8) (hdd : d' + 1 ≤ d) {x y2 x' y' : Nat} (hx' : x + mc.1 = x') (hy' : y2 + mc.2 = y') (h1 : x' ≤ cm.1) (h2 : y' ≤ cm.2) (ha : a ≤ s.heap.size) (hz : s.heap.size + x = a + n) (hn : 0 < n) (hM : Cn9 l a n n' K K' (sb, L, xs, D, ca) y yc maxL d' b mc M M1)
    (k : J9 (a, n', K') (sb, L, xs, D, ca) (p, l, e, R, s, m, args, below, meth, c, QQ) o9 nL (pc + 3) ls (st) M1 (x', y') (some o9)) : J9 (a, n, K) (sb, L, xs, D, ca) (p, l, e, R, s, m, args, below, meth, c, QQ) o9 nL (pc) ls (.ref b :: st) M (x, y2) (some o9) := by
  obtain ⟨hx, hb, hml, hown, hts, hE, ⟨r1, r2, r3, r4⟩, -⟩ := C
  subst hx'; subst hy'
  intro hF H locs lsA hP hS hls T0 hT0 X0
  have hsz : H.size = a + n := by
    have h3 : T0.heap.size ≤ s.heap.size + x := X0.same.2.2.1
    rw [hT0] at h3
    have h4 := (hP (n - 1) _ (WS9_get (z := (a, n, K)) (show n - 1 < n by omega))).lt
    have h4 : a + (n - 1) < H.size := h4
    omega
  have hG : GoodIn gw9 (Cond.code y yc maxL none :: gw9) := by
    refine good9 (fun w hw => ?_)
    rcases List.mem_cons.mp hw with rfl | hw
    · exact w4
    · exact hw
  have hrun : va_Run p l e R s m args below meth c H locs x y2 mc.1 mc.2 (F0 m pc lsA (.ref b :: st)) st ((fun _ st oc t => (oc = .returned none ∧ PM9 (a, n', K') (sb, L, xs, D, ca) M1 t.heap) ∧ va_F (A9 (a, n, K)) st t) (Value.ref b :: []).toArray) (A9 (a, n, K)) :=
    va_runI (own := own) (Ts := gw9) (As := []) (n := 0) ⟨hx, hb, hml, hown, hts⟩ hM (cwI 0 hts hG rfl rfl rfl (hts _ w3) (hts _ w1) (hts _ w2) hy1 hchk ⟨by show d' + 1 ≤ R.frames; omega, by show 8 + (maxL + 11) + 36 * d' ≤ R.locals; omega⟩) ⟨fun a9 U g mk q => ⟨q.1, ⟨q.2.1.1.same rfl rfl, q.2.1.2⟩, q.2.2⟩, fun U hU hW => ⟨rfl, ⟨hE.go hW (by rw [hU]; exact hS), by rw [hU]; exact hP⟩, by rw [hU]; exact hsz⟩⟩ rfl rfl hls.1 rfl (lv_room hcat) hd ⟨by omega, by omega⟩
  obtain ⟨v, st₀, t, T', L9, h0, X', hL, e1, e2, ⟨⟨hv, hPM⟩, hF9⟩, stp⟩ := hrun T0 hT0 X0
  cases hv
  obtain ⟨k1, k2, k3⟩ := vx_keep h0 e1 hS (fun q _ h => h) (fun q h => h) hL hF9
  obtain ⟨t2, a1, b1⟩ := k rfl T'.heap (locs ++ L9) lsA (by rw [e1]; exact hPM) k3 hls T' rfl X'
  exact ⟨t2, stp t2 a1, b1⟩
/-- Object() -/
theorem jc_obj (C : OK9 (a, n, K) (sb, L, xs, D, ca) (p, l, e, R, s, m, args, below, meth, c, QQ) o9 nL cm cc own d 0 []) {idx b : Nat} (hd : decode cc pc = .ok (.invokespecial idx, 3)) (w1 : Cond.methodLink own idx objectInit ∈ gw9) (w2 : Cond.instanceMethod objectInit ∈ gw9) (w3 : Cond.code objectInit ⟨#[0xb1]⟩ 1 none ∈ gw9) (hcat : (st.map fun v => v.category).sum ≤ 8) (hdd : 1 ≤ d) (k : J9 (a, n, K) (sb, L, xs, D, ca) (p, l, e, R, s, m, args, below, meth, c, QQ) o9 nL (pc + 3) ls (st) M κ (some o9)) : J9 (a, n, K) (sb, L, xs, D, ca) (p, l, e, R, s, m, args, below, meth, c, QQ) o9 nL (pc) ls (.ref b :: st) M κ (some o9) := by
  obtain ⟨hx, hb, hml, hown, hts, hE, ⟨r1, r2, r3, r4⟩, -⟩ := C
  intro hF H locs lsA hP hS hls
  refine W.objInit hx hb hown (hts _ w1) (hts _ w2) (hts _ w3) rfl (by rw [hml]; exact hls.1) rfl hd (by omega) (by show 2 * 0 + _ + 12 ≤ _; omega) (k rfl H locs lsA hP hS hls)
/-- the end of a constructor -/
theorem jc_ret {n0 : Nat} {K0 : Nat → Nat × Nat} {mc : Ka9} (C : OK9 (a, n, K) (sb, L, xs, D, ca) (p, l, e, R, s, m, args, below, meth, c, MQ below (fun _ st oc t => (oc = .returned none ∧ PM9 (a, n, K) (sb, L, xs, D, ca) M t.heap) ∧ va_F (A9 (a, n0, K0)) st t) args s mc.1 mc.2 (A9 (a, n0, K0))) o9 nL cm cc own d 0 []) (hr : meth.sig.returnType = none) (hlocks : meth.locks = false) (hd : decode cc pc = .ok (.return_, 1)) (hκ : le9 κ mc) : J9 (a, n, K) (sb, L, xs, D, ca) (p, l, e, R, s, m, args, below, meth, c, MQ below (fun _ st oc t => (oc = .returned none ∧ PM9 (a, n, K) (sb, L, xs, D, ca) M t.heap) ∧ va_F (A9 (a, n0, K0)) st t) args s mc.1 mc.2 (A9 (a, n0, K0))) o9 nL pc ls [] M κ (some o9) := by
  obtain ⟨hx, hb, -⟩ := C
  intro hF H locs lsA hP hS hls
  refine W.widen hκ.1 hκ.2 ?_
  exact W.vret hx hb hr (fun t ht hW => ⟨⟨rfl, by rw [ht]; exact hP⟩, va_S.F (A := A9 (a, n0, K0)) hS ht⟩) hS.2.2 hd hlocks
/-- from the judgement at a constructor's start to its contract -/
theorem cn9_of {l : Launch} {n' : Nat} {K' : Nat → Nat × Nat} {y : MethodName} {yc : ByteArray} {maxL d b : Nat} {mc : Ka9} {M M' : Mem9} (hy : plainName y.cls = true) (hown : y.cls = own) (hst : l.stackTraces = false) (hnm : y.name = "<init>") (hmx : 1 ≤ maxL)
    (hJ : ∀ (p : Program) (e : Env) (R : Room) (s : State) (m : MethodId) (args : Array Value) (below : List Frame) (meth : Method) (c : Code), s.heap.size = a + n → meth.name = "<init>" → meth.sig.returnType = none → meth.locks = false →
      (∀ z : Sh9, z.1 = a → OK9 z (sb, L, xs, D, ca) (p, l, e, R, s, m, args, below, meth, c, MQ below (fun _ st oc t => (oc = .returned none ∧ PM9 (a, n', K') (sb, L, xs, D, ca) M' t.heap) ∧ va_F (A9 (a, n, K)) st t) args s mc.1 mc.2 (A9 (a, n, K))) o9 maxL mc yc own d 0 []) → J9 (a, n, K) (sb, L, xs, D, ca) (p, l, e, R, s, m, args, below, meth, c, MQ below (fun _ st oc t => (oc = .returned none ∧ PM9 (a, n', K') (sb, L, xs, D, ca) M' t.heap) ∧ va_F (A9 (a, n, K)) st t) args s mc.1 mc.2 (A9 (a, n, K))) o9 maxL 0 [(0, .ref b)] [] M (0, 0) (some o9)) : Cn9 l a n n' K K' (sb, L, xs, D, ca) y yc maxL d b mc M M' := by
  refine Met.ofW (cc := yc) (maxL := maxL) (ret := none) hy rfl ?_
  intro p e s m args below meth c s₁ B hml hv
  obtain ⟨rfl, ⟨hE, hP⟩, hsz⟩ := hv
  have hts : ∀ w ∈ gw9, w.before [Value.ref b].toArray s = true := fun w hw => atoms_spec (ws := Cond.code y yc maxL none :: gw9) B.pre w (List.mem_cons_of_mem _ hw)
  have hown9 : s.vm.findClass own = some m.cls := by rw [← hown]; exact findClass_of_methodNamed B.named
  have hl := lv_entry ([.ref b]) (n := maxL) hmx
  rw [lg_entry_eq]
  exact hJ p e (headSpec (Cond.code y yc maxL none :: gw9) (room9 d mc)).room s m [Value.ref b].toArray below meth c hsz ((name_of_methodNamed B.named B.method).1.trans hnm) B.returns B.notSynchronized
    (fun z hz => ok9_o B.exec B.bytes hml hown9 hts (EV9_sh hz hE) ⟨Nat.le_refl _, Nat.le_refl _, Nat.le_refl _, Nat.le_refl _⟩ hst) rfl s.heap [] _ hP va_S.rf hl
end CT
