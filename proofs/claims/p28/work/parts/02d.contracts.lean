/-! ===== calls, as rows of the judgement ===== -/
theorem k9 {κ cm : Ka9} {o : Out9} {out : Out9 × Mem9} (hκ : κ = (0, 0) ∨ le9 (ad9 κ (1, 6)) cm) (hcm : le9 (co9 out.1) cm) (h : ∀ E, o = .inr E → out.1 = .inr E) : le9 (ad9 κ (co9 o)) cm := by
  cases o with
  | inl v =>
    rcases hκ with rfl | hκ
    · exact ⟨Nat.zero_le _, Nat.zero_le _⟩
    · exact ⟨Nat.le_trans (Nat.le_add_right κ.1 1) hκ.1, Nat.le_trans (Nat.le_add_right κ.2 6) hκ.2⟩
  | inr E =>
    rcases hκ with rfl | hκ
    · have h1 := h E rfl
      rw [h1] at hcm
      exact hcm
    · exact hκ
theorem j_call0 {z : Sh9} {N : Nv9} {out : Out9 × Mem9} {nL : Nat} {cm : Ka9} {cc : ByteArray} {own : String} {d rk : Nat} {hh : List (Nat × Nat × Nat × Nat)} {pc : Nat} {ls : List (Nat × Value)} {st : List Value} {κ : Ka9} {p : Program} {l : Launch} {e : Env} {R : Room} {s : State} {m : MethodId} {args : Array Value} {below : List Frame} {meth : Method} {c : Code} {QQ : State → Prop} (C : OK9 z N (p, l, e, R, s, m, args, below, meth, c, QQ) out nL cm cc own d rk hh) (hh0 : hh = []) {rest : List Value} {mc : Ka9} {H : Heap} {locs : List Loc} {lsA : Array Slot} {o : Out9 × Mem9} {a : Array Value} {κ' : Ka9}
    (hr : vx_Run p l e R s m args below meth c H locs κ.1 κ.2 mc.1 mc.2 (F0 m pc lsA st) rest (Qc9 z N o a) (XC9 z N o) (A9 z)) (hS : va_S (A9 z) s.heap H locs) (hl : lv_has lsA nL ls) (hκ : le9 (ad9 κ mc) cm) (hmc : ∀ v, o.1 = .inl v → ad9 κ mc = κ')
    (hN : ∀ v M', o = (.inl v, M') → ∃ F', F' = some out ∧ J9 z N (p, l, e, R, s, m, args, below, meth, c, QQ) out nL (pc + 3) ls (v.toList ++ rest) M' κ' F') (hX : ∀ E M', o = (.inr E, M') → out = (.inr E, M')) : W p l e R s m args below meth c H locs κ.1 κ.2 QQ (F0 m pc lsA st) := by
  refine call9 hr hS (fun v M' H1 locs1 ho hP1 hS1 => ?_) (fun E M' H1 locs1 q ce hE ho hP1 hS1 hq hv hc => ?_)
  · obtain ⟨F', hF', hJ⟩ := hN v M' ho
    have hJ2 := hJ hF' H1 locs1 lsA hP1 hS1 hl
    rw [← hmc v (by rw [ho])] at hJ2
    exact hJ2
  · obtain ⟨-, -, -, -, -, -, -, -, -, -, hthrown, -⟩ := C
    exact hthrown hh0 E q ce pc M' (ad9 κ mc) H1 locs1 lsA rest hE (hX E M' ho) hκ hq hv hc hP1 hS1
theorem bi9_inv {r : Re9} {K : Int32 → Mem9 → Re9} {out : Out9 × Mem9} (h : bi9 r K = some out) : (∃ v M', r = some (.inl (some (.int v)), M') ∧ K v M' = some out) ∨ ∃ E M', r = some (.inr E, M') ∧ out = (.inr E, M') := by
  unfold bi9 at h
  split at h
  · exact Or.inl ⟨_, _, rfl, h⟩
  · exact Or.inr ⟨_, _, rfl, (Option.some.inj h).symm⟩
  · cases h
theorem bl9_inv {r : Re9} {K : Int64 → Mem9 → Re9} {out : Out9 × Mem9} (h : bl9 r K = some out) : (∃ v M', r = some (.inl (some (.long v)), M') ∧ K v M' = some out) ∨ ∃ E M', r = some (.inr E, M') ∧ out = (.inr E, M') := by
  unfold bl9 at h
  split at h
  · exact Or.inl ⟨_, _, rfl, h⟩
  · exact Or.inr ⟨_, _, rfl, (Option.some.inj h).symm⟩
  · cases h
theorem bv9_inv {r : Re9} {K : Mem9 → Re9} {out : Out9 × Mem9} (h : bv9 r K = some out) : (∃ M', r = some (.inl none, M') ∧ K M' = some out) ∨ ∃ E M', r = some (.inr E, M') ∧ out = (.inr E, M') := by
  unfold bv9 at h
  split at h
  · exact Or.inl ⟨_, rfl, h⟩
  · exact Or.inr ⟨_, _, rfl, (Option.some.inj h).symm⟩
  · cases h
theorem bh9_inv {r : Re9} {K : Int32 → Mem9 → Re9} {XX : String → Mem9 → Re9} {out : Out9 × Mem9} (h : bh9 r K XX = some out) : (∃ v M', r = some (.inl (some (.int v)), M') ∧ K v M' = some out) ∨ ∃ E M', r = some (.inr E, M') ∧ XX E M' = some out := by
  unfold bh9 at h
  split at h
  · exact Or.inl ⟨_, _, rfl, h⟩
  · exact Or.inr ⟨_, _, rfl, h⟩
  · cases h
theorem bn9_inv {r : Re9} {K : Int32 → Mem9 → Re9} {out : Out9 × Mem9} (h : bn9 r K = some out) : ∃ v M', r = some (.inl (some (.int v)), M') ∧ K v M' = some out := by
  unfold bn9 at h
  split at h
  · exact ⟨_, _, rfl, h⟩
  · cases h
theorem iv9_inv {z : Sh9} {b ci : Nat} {r : Re9} {o : Out9 × Mem9} (h : iv9 z b ci r = some o) : okO9 z b ci ∧ r = some o := by
  unfold iv9 at h
  by_cases h0 : okO9 z b ci
  · rw [if_pos h0] at h
    exact ⟨h0, h⟩
  · rw [if_neg h0] at h
    cases h
theorem j_callVi {z : Sh9} {N : Nv9} {X : Cx9} {out : Out9 × Mem9} {nL : Nat} {cm : Ka9} {cc : ByteArray} {own : String} {d : Nat} {rk : Nat} {hh : List (Nat × Nat × Nat × Nat)} {pc : Nat} {ls : List (Nat × Value)} {st : List Value} {M : Mem9} {κ : Ka9} (C : OK9 z N X out nL cm cc own d rk hh) (hh0 : hh = []) {idx ci n d' maxL b : Nat} {y : MethodName} {yc : ByteArray} {ret : Option FieldType} {rest : List Value} {r : Re9} {K : Int32 → Mem9 → Re9}
    (hd : decode cc pc = .ok (.invokevirtual idx, 3)) (hl : LV9 own idx ci y yc maxL ret n) (hst : st.drop n = .ref b :: rest) (hn : n ≤ st.length) (hcat : (rest.map fun v => v.category).sum ≤ 8) (hdd : d' + 1 ≤ d) (hκ : κ = (0, 0) ∨ le9 (ad9 κ (1, 6)) cm) (hcm : le9 (co9 out.1) cm) (hsp : ∀ l : Launch, l.stackTraces = false → ∀ o, r = some o → Sp9 l z N y (Cond.code y yc maxL ret) d' (.ref b :: (st.take n).reverse) M (co9 o.1) o)
    (hk : ∀ v M', J9 z N X out nL (pc + 3) ls (.int v :: rest) M' (κ) (K v M')) : J9 z N X out nL pc ls st M κ (bi9 (iv9 z b ci r) K) := by
  obtain ⟨p, l, e, R, s, m, args, below, meth, c, QQ⟩ := X
  intro hF H locs lsA hP hS hls
  have hl9 : l.stackTraces = false := C.2.2.2.2.2.2.2.1
  rcases bi9_inv hF with ⟨v, M', h1, h2⟩ | ⟨E, M', h1, rfl⟩
  · obtain ⟨h0, h1⟩ := iv9_inv h1
    refine j_call0 C hh0 (κ' := κ) (runV9 C hd hl hst hn hcat hdd (hsp l hl9 _ h1) h0 (k9 hκ hcm (fun E h => by cases h)) hP hS hls) hS hls (k9 hκ hcm (fun E h => by cases h)) (fun _ _ => rfl) (fun v' M'' ho => ?_) (fun E M'' ho => by cases ho)
    cases ho
    exact ⟨_, h2, hk v M'⟩
  · obtain ⟨h0, h1⟩ := iv9_inv h1
    refine j_call0 C hh0 (κ' := κ) (runV9 C hd hl hst hn hcat hdd (hsp l hl9 _ h1) h0 (k9 hκ hcm (fun E9 h => by cases h; rfl)) hP hS hls) hS hls (k9 hκ hcm (fun E9 h => by cases h; rfl)) (fun v h => by cases h) (fun v' M'' ho => by cases ho) (fun E M'' ho => by cases ho; rfl)

theorem j_callVl {z : Sh9} {N : Nv9} {X : Cx9} {out : Out9 × Mem9} {nL : Nat} {cm : Ka9} {cc : ByteArray} {own : String} {d : Nat} {rk : Nat} {hh : List (Nat × Nat × Nat × Nat)} {pc : Nat} {ls : List (Nat × Value)} {st : List Value} {M : Mem9} {κ : Ka9} (C : OK9 z N X out nL cm cc own d rk hh) (hh0 : hh = []) {idx ci n d' maxL b : Nat} {y : MethodName} {yc : ByteArray} {ret : Option FieldType} {rest : List Value} {r : Re9} {K : Int64 → Mem9 → Re9}
    (hd : decode cc pc = .ok (.invokevirtual idx, 3)) (hl : LV9 own idx ci y yc maxL ret n) (hst : st.drop n = .ref b :: rest) (hn : n ≤ st.length) (hcat : (rest.map fun v => v.category).sum ≤ 8) (hdd : d' + 1 ≤ d) (hκ : κ = (0, 0) ∨ le9 (ad9 κ (1, 6)) cm) (hcm : le9 (co9 out.1) cm) (hsp : ∀ l : Launch, l.stackTraces = false → ∀ o, r = some o → Sp9 l z N y (Cond.code y yc maxL ret) d' (.ref b :: (st.take n).reverse) M (co9 o.1) o)
    (hk : ∀ v M', J9 z N X out nL (pc + 3) ls (.long v :: rest) M' (κ) (K v M')) : J9 z N X out nL pc ls st M κ (bl9 (iv9 z b ci r) K) := by
  obtain ⟨p, l, e, R, s, m, args, below, meth, c, QQ⟩ := X
  intro hF H locs lsA hP hS hls
  have hl9 : l.stackTraces = false := C.2.2.2.2.2.2.2.1
  rcases bl9_inv hF with ⟨v, M', h1, h2⟩ | ⟨E, M', h1, rfl⟩
  · obtain ⟨h0, h1⟩ := iv9_inv h1
    refine j_call0 C hh0 (κ' := κ) (runV9 C hd hl hst hn hcat hdd (hsp l hl9 _ h1) h0 (k9 hκ hcm (fun E h => by cases h)) hP hS hls) hS hls (k9 hκ hcm (fun E h => by cases h)) (fun _ _ => rfl) (fun v' M'' ho => ?_) (fun E M'' ho => by cases ho)
    cases ho
    exact ⟨_, h2, hk v M'⟩
  · obtain ⟨h0, h1⟩ := iv9_inv h1
    refine j_call0 C hh0 (κ' := κ) (runV9 C hd hl hst hn hcat hdd (hsp l hl9 _ h1) h0 (k9 hκ hcm (fun E9 h => by cases h; rfl)) hP hS hls) hS hls (k9 hκ hcm (fun E9 h => by cases h; rfl)) (fun v h => by cases h) (fun v' M'' ho => by cases ho) (fun E M'' ho => by cases ho; rfl)

theorem j_callVv {z : Sh9} {N : Nv9} {X : Cx9} {out : Out9 × Mem9} {nL : Nat} {cm : Ka9} {cc : ByteArray} {own : String} {d : Nat} {rk : Nat} {hh : List (Nat × Nat × Nat × Nat)} {pc : Nat} {ls : List (Nat × Value)} {st : List Value} {M : Mem9} {κ : Ka9} (C : OK9 z N X out nL cm cc own d rk hh) (hh0 : hh = []) {idx ci n d' maxL b : Nat} {y : MethodName} {yc : ByteArray} {ret : Option FieldType} {rest : List Value} {r : Re9} {K : Mem9 → Re9}
    (hd : decode cc pc = .ok (.invokevirtual idx, 3)) (hl : LV9 own idx ci y yc maxL ret n) (hst : st.drop n = .ref b :: rest) (hn : n ≤ st.length) (hcat : (rest.map fun v => v.category).sum ≤ 8) (hdd : d' + 1 ≤ d) (hκ : κ = (0, 0) ∨ le9 (ad9 κ (1, 6)) cm) (hcm : le9 (co9 out.1) cm) (hsp : ∀ l : Launch, l.stackTraces = false → ∀ o, r = some o → Sp9 l z N y (Cond.code y yc maxL ret) d' (.ref b :: (st.take n).reverse) M (co9 o.1) o)
    (hk : ∀ M', J9 z N X out nL (pc + 3) ls (rest) M' (κ) (K M')) : J9 z N X out nL pc ls st M κ (bv9 (iv9 z b ci r) K) := by
  obtain ⟨p, l, e, R, s, m, args, below, meth, c, QQ⟩ := X
  intro hF H locs lsA hP hS hls
  have hl9 : l.stackTraces = false := C.2.2.2.2.2.2.2.1
  rcases bv9_inv hF with ⟨M', h1, h2⟩ | ⟨E, M', h1, rfl⟩
  · obtain ⟨h0, h1⟩ := iv9_inv h1
    refine j_call0 C hh0 (κ' := κ) (runV9 C hd hl hst hn hcat hdd (hsp l hl9 _ h1) h0 (k9 hκ hcm (fun E h => by cases h)) hP hS hls) hS hls (k9 hκ hcm (fun E h => by cases h)) (fun _ _ => rfl) (fun v' M'' ho => ?_) (fun E M'' ho => by cases ho)
    cases ho
    exact ⟨_, h2, hk M'⟩
  · obtain ⟨h0, h1⟩ := iv9_inv h1
    refine j_call0 C hh0 (κ' := κ) (runV9 C hd hl hst hn hcat hdd (hsp l hl9 _ h1) h0 (k9 hκ hcm (fun E9 h => by cases h; rfl)) hP hS hls) hS hls (k9 hκ hcm (fun E9 h => by cases h; rfl)) (fun v h => by cases h) (fun v' M'' ho => by cases ho) (fun E M'' ho => by cases ho; rfl)

theorem j_callSi {z : Sh9} {N : Nv9} {X : Cx9} {out : Out9 × Mem9} {nL : Nat} {cm : Ka9} {cc : ByteArray} {own : String} {d : Nat} {rk : Nat} {hh : List (Nat × Nat × Nat × Nat)} {pc : Nat} {ls : List (Nat × Value)} {st : List Value} {M : Mem9} {κ : Ka9} (C : OK9 z N X out nL cm cc own d rk hh) (hh0 : hh = []) {idx n d' maxL : Nat} {y : MethodName} {yc : ByteArray} {ret : Option FieldType} {rest : List Value} {r : Re9} {K : Int32 → Mem9 → Re9}
    (hd : decode cc pc = .ok (.invokestatic idx, 3)) (hl : LO9 own idx y yc maxL ret n) (hst : st.drop n = rest) (hn : n ≤ st.length) (hcat : (rest.map fun v => v.category).sum ≤ 8) (hdd : d' + 1 ≤ d) (hκ : κ = (0, 0) ∨ le9 (ad9 κ (1, 6)) cm) (hcm : le9 (co9 out.1) cm) (hsp : ∀ l : Launch, l.stackTraces = false → ∀ o, r = some o → Sp9 l z N y (Cond.code y yc maxL ret) d' (st.take n).reverse M (co9 o.1) o)
    (hk : ∀ v M', J9 z N X out nL (pc + 3) ls (.int v :: rest) M' (κ) (K v M')) : J9 z N X out nL pc ls st M κ (bi9 r K) := by
  obtain ⟨p, l, e, R, s, m, args, below, meth, c, QQ⟩ := X
  intro hF H locs lsA hP hS hls
  have hl9 : l.stackTraces = false := C.2.2.2.2.2.2.2.1
  rcases bi9_inv hF with ⟨v, M', h1, h2⟩ | ⟨E, M', h1, rfl⟩
  · refine j_call0 C hh0 (κ' := κ) (runS9 C hd hl hst hn hcat hdd (hsp l hl9 _ h1) (k9 hκ hcm (fun E h => by cases h)) hP hS hls) hS hls (k9 hκ hcm (fun E h => by cases h)) (fun _ _ => rfl) (fun v' M'' ho => ?_) (fun E M'' ho => by cases ho)
    cases ho
    exact ⟨_, h2, hk v M'⟩
  · refine j_call0 C hh0 (κ' := κ) (runS9 C hd hl hst hn hcat hdd (hsp l hl9 _ h1) (k9 hκ hcm (fun E9 h => by cases h; rfl)) hP hS hls) hS hls (k9 hκ hcm (fun E9 h => by cases h; rfl)) (fun v h => by cases h) (fun v' M'' ho => by cases ho) (fun E M'' ho => by cases ho; rfl)

theorem j_callSl {z : Sh9} {N : Nv9} {X : Cx9} {out : Out9 × Mem9} {nL : Nat} {cm : Ka9} {cc : ByteArray} {own : String} {d : Nat} {rk : Nat} {hh : List (Nat × Nat × Nat × Nat)} {pc : Nat} {ls : List (Nat × Value)} {st : List Value} {M : Mem9} {κ : Ka9} (C : OK9 z N X out nL cm cc own d rk hh) (hh0 : hh = []) {idx n d' maxL : Nat} {y : MethodName} {yc : ByteArray} {ret : Option FieldType} {rest : List Value} {r : Re9} {K : Int64 → Mem9 → Re9}
    (hd : decode cc pc = .ok (.invokestatic idx, 3)) (hl : LO9 own idx y yc maxL ret n) (hst : st.drop n = rest) (hn : n ≤ st.length) (hcat : (rest.map fun v => v.category).sum ≤ 8) (hdd : d' + 1 ≤ d) (hκ : κ = (0, 0) ∨ le9 (ad9 κ (1, 6)) cm) (hcm : le9 (co9 out.1) cm) (hsp : ∀ l : Launch, l.stackTraces = false → ∀ o, r = some o → Sp9 l z N y (Cond.code y yc maxL ret) d' (st.take n).reverse M (co9 o.1) o)
    (hk : ∀ v M', J9 z N X out nL (pc + 3) ls (.long v :: rest) M' (κ) (K v M')) : J9 z N X out nL pc ls st M κ (bl9 r K) := by
  obtain ⟨p, l, e, R, s, m, args, below, meth, c, QQ⟩ := X
  intro hF H locs lsA hP hS hls
  have hl9 : l.stackTraces = false := C.2.2.2.2.2.2.2.1
  rcases bl9_inv hF with ⟨v, M', h1, h2⟩ | ⟨E, M', h1, rfl⟩
  · refine j_call0 C hh0 (κ' := κ) (runS9 C hd hl hst hn hcat hdd (hsp l hl9 _ h1) (k9 hκ hcm (fun E h => by cases h)) hP hS hls) hS hls (k9 hκ hcm (fun E h => by cases h)) (fun _ _ => rfl) (fun v' M'' ho => ?_) (fun E M'' ho => by cases ho)
    cases ho
    exact ⟨_, h2, hk v M'⟩
  · refine j_call0 C hh0 (κ' := κ) (runS9 C hd hl hst hn hcat hdd (hsp l hl9 _ h1) (k9 hκ hcm (fun E9 h => by cases h; rfl)) hP hS hls) hS hls (k9 hκ hcm (fun E9 h => by cases h; rfl)) (fun v h => by cases h) (fun v' M'' ho => by cases ho) (fun E M'' ho => by cases ho; rfl)

theorem j_callSv {z : Sh9} {N : Nv9} {X : Cx9} {out : Out9 × Mem9} {nL : Nat} {cm : Ka9} {cc : ByteArray} {own : String} {d : Nat} {rk : Nat} {hh : List (Nat × Nat × Nat × Nat)} {pc : Nat} {ls : List (Nat × Value)} {st : List Value} {M : Mem9} {κ : Ka9} (C : OK9 z N X out nL cm cc own d rk hh) (hh0 : hh = []) {idx n d' maxL : Nat} {y : MethodName} {yc : ByteArray} {ret : Option FieldType} {rest : List Value} {r : Re9} {K : Mem9 → Re9}
    (hd : decode cc pc = .ok (.invokestatic idx, 3)) (hl : LO9 own idx y yc maxL ret n) (hst : st.drop n = rest) (hn : n ≤ st.length) (hcat : (rest.map fun v => v.category).sum ≤ 8) (hdd : d' + 1 ≤ d) (hκ : κ = (0, 0) ∨ le9 (ad9 κ (1, 6)) cm) (hcm : le9 (co9 out.1) cm) (hsp : ∀ l : Launch, l.stackTraces = false → ∀ o, r = some o → Sp9 l z N y (Cond.code y yc maxL ret) d' (st.take n).reverse M (co9 o.1) o)
    (hk : ∀ M', J9 z N X out nL (pc + 3) ls (rest) M' (κ) (K M')) : J9 z N X out nL pc ls st M κ (bv9 r K) := by
  obtain ⟨p, l, e, R, s, m, args, below, meth, c, QQ⟩ := X
  intro hF H locs lsA hP hS hls
  have hl9 : l.stackTraces = false := C.2.2.2.2.2.2.2.1
  rcases bv9_inv hF with ⟨M', h1, h2⟩ | ⟨E, M', h1, rfl⟩
  · refine j_call0 C hh0 (κ' := κ) (runS9 C hd hl hst hn hcat hdd (hsp l hl9 _ h1) (k9 hκ hcm (fun E h => by cases h)) hP hS hls) hS hls (k9 hκ hcm (fun E h => by cases h)) (fun _ _ => rfl) (fun v' M'' ho => ?_) (fun E M'' ho => by cases ho)
    cases ho
    exact ⟨_, h2, hk M'⟩
  · refine j_call0 C hh0 (κ' := κ) (runS9 C hd hl hst hn hcat hdd (hsp l hl9 _ h1) (k9 hκ hcm (fun E9 h => by cases h; rfl)) hP hS hls) hS hls (k9 hκ hcm (fun E9 h => by cases h; rfl)) (fun v h => by cases h) (fun v' M'' ho => by cases ho) (fun E M'' ho => by cases ho; rfl)

theorem j_callWi {z : Sh9} {N : Nv9} {X : Cx9} {out : Out9 × Mem9} {nL : Nat} {cm : Ka9} {cc : ByteArray} {own : String} {d : Nat} {rk : Nat} {hh : List (Nat × Nat × Nat × Nat)} {pc : Nat} {ls : List (Nat × Value)} {st : List Value} {M : Mem9} {κ : Ka9} (C : OK9 z N X out nL cm cc own d rk hh) (hh0 : hh = []) {idx n d' maxL : Nat} {hw : List (Nat × Nat × Nat × Nat)} {y : MethodName} {yc : ByteArray} {ret : Option FieldType} {rest : List Value} {r : Re9} {K : Int32 → Mem9 → Re9}
    (hd : decode cc pc = .ok (.invokestatic idx, 3)) (hl : LW9 own idx y yc maxL ret hw n) (hst : st.drop n = rest) (hn : n ≤ st.length) (hcat : (rest.map fun v => v.category).sum ≤ 8) (hdd : d' + 1 ≤ d) (hκ : le9 (ad9 κ (1, 6)) cm) (hsp : ∀ l : Launch, l.stackTraces = false → ∀ o, r = some o → Sp9 l z N y (Cond.codeWith y yc maxL ret hw) d' (st.take n).reverse M (1, 6) o)
    (hk : ∀ v M', J9 z N X out nL (pc + 3) ls (.int v :: rest) M' (ad9 κ (1, 6)) (K v M')) : J9 z N X out nL pc ls st M κ (bi9 r K) := by
  obtain ⟨p, l, e, R, s, m, args, below, meth, c, QQ⟩ := X
  intro hF H locs lsA hP hS hls
  have hl9 : l.stackTraces = false := C.2.2.2.2.2.2.2.1
  rcases bi9_inv hF with ⟨v, M', h1, h2⟩ | ⟨E, M', h1, rfl⟩
  · refine j_call0 C hh0 (κ' := ad9 κ (1, 6)) (runW9 C hd hl hst hn hcat hdd (hsp l hl9 _ h1) hκ hP hS hls) hS hls hκ (fun _ _ => rfl) (fun v' M'' ho => ?_) (fun E M'' ho => by cases ho)
    cases ho
    exact ⟨_, h2, hk v M'⟩
  · refine j_call0 C hh0 (κ' := ad9 κ (1, 6)) (runW9 C hd hl hst hn hcat hdd (hsp l hl9 _ h1) hκ hP hS hls) hS hls hκ (fun v h => by cases h) (fun v' M'' ho => by cases ho) (fun E M'' ho => by cases ho; rfl)

theorem j_callNi {z : Sh9} {N : Nv9} {X : Cx9} {out : Out9 × Mem9} {nL : Nat} {cm : Ka9} {cc : ByteArray} {own : String} {d : Nat} {rk : Nat} {hh : List (Nat × Nat × Nat × Nat)} {pc : Nat} {ls : List (Nat × Value)} {st : List Value} {M : Mem9} {κ : Ka9} (C : OK9 z N X out nL cm cc own d rk hh) (hh0 : hh = []) {idx n d' maxL : Nat} {y : MethodName} {yc : ByteArray} {ret : Option FieldType} {host : String} {rest : List Value} {r : Re9} {K : Int32 → Mem9 → Re9}
    (hd : decode cc pc = .ok (.invokestatic idx, 3)) (hl : LN9 own idx y yc maxL ret n host) (hst : st.drop n = rest) (hn : n ≤ st.length) (hcat : (rest.map fun v => v.category).sum ≤ 8) (hdd : d' + 1 ≤ d) (hκ : κ = (0, 0) ∨ le9 (ad9 κ (1, 6)) cm) (hcm : le9 (co9 out.1) cm) (hsp : ∀ l : Launch, l.stackTraces = false → ∀ o, r = some o → Sp9 l z N y (Cond.code y yc maxL ret) d' (st.take n).reverse M (co9 o.1) o)
    (hk : ∀ v M', J9 z N X out nL (pc + 3) ls (.int v :: rest) M' κ (K v M')) : J9 z N X out nL pc ls st M κ (bn9 r K) := by
  obtain ⟨p, l, e, R, s, m, args, below, meth, c, QQ⟩ := X
  intro hF H locs lsA hP hS hls
  have hl9 : l.stackTraces = false := C.2.2.2.2.2.2.2.1
  obtain ⟨v, M', h1, h2⟩ := bn9_inv hF
  refine j_call0 C hh0 (κ' := κ) (runN9 C hd hl hst hn hcat hdd (hsp l hl9 _ h1) (k9 hκ hcm (fun E h => by cases h)) hP hS hls) hS hls (k9 hκ hcm (fun E h => by cases h)) (fun _ _ => rfl) (fun v' M'' ho => ?_) (fun E M'' ho => by cases ho)
  cases ho
  exact ⟨_, h2, hk v M'⟩
/-! ===== a call under handlers ===== -/
def CT9 (own : String) (hh : List (Nat × Nat × Nat × Nat)) (pc : Nat) (E : String) (hp : Nat) : Prop := ∃ (pre : List ExceptionTableEntry) (x : ExceptionTableEntry) (suf : List ExceptionTableEntry), tableOf hh = pre ++ x :: suf ∧ (∀ y ∈ pre, y.catchType ≠ 0 ∧ ∃ nm ∈ excs9, E ≠ nm ∧ Cond.classLink own y.catchType nm ∈ gw9) ∧ covers x pc = true ∧ x.catchType ≠ 0 ∧ Cond.classLink own x.catchType E ∈ gw9 ∧ x.handlerPc = hp
theorem j_callVh {z : Sh9} {N : Nv9} {X : Cx9} {out : Out9 × Mem9} {nL : Nat} {cm : Ka9} {cc : ByteArray} {own : String} {d : Nat} {rk : Nat} {hh : List (Nat × Nat × Nat × Nat)} {pc : Nat} {ls : List (Nat × Value)} {st : List Value} {M : Mem9} {κ : Ka9} (C : OK9 z N X out nL cm cc own d rk hh) {idx ci n d' maxL b : Nat} {y : MethodName} {yc : ByteArray} {ret : Option FieldType} {rest : List Value} {r : Re9} {K : Int32 → Mem9 → Re9} {XX : String → Mem9 → Re9}
    (hd : decode cc pc = .ok (.invokevirtual idx, 3)) (hl : LV9 own idx ci y yc maxL ret n) (hst : st.drop n = .ref b :: rest) (hn : n ≤ st.length) (hcat : (rest.map fun v => v.category).sum ≤ 8) (hdd : d' + 1 ≤ d) (hκ : κ = (0, 0)) (hcm : le9 (1, 6) cm) (hsp : ∀ l : Launch, l.stackTraces = false → ∀ o, r = some o → Sp9 l z N y (Cond.code y yc maxL ret) d' (.ref b :: (st.take n).reverse) M (co9 o.1) o)
    (hk : ∀ v M', J9 z N X out nL (pc + 3) ls (.int v :: rest) M' κ (K v M')) (hX : ∀ E ∈ excs9, ∀ M', XX E M' = none ∨ ∃ hp, CT9 own hh pc E hp ∧ ∀ q : Nat, J9 z N X out nL hp ls [.ref q] M' (1, 6) (XX E M')) : J9 z N X out nL pc ls st M κ (bh9 (iv9 z b ci r) K XX) := by
  obtain ⟨p, l, e, R, s, m, args, below, meth, c, QQ⟩ := X
  intro hF H locs lsA hP hS hls
  subst hκ
  have hl9 : l.stackTraces = false := C.2.2.2.2.2.2.2.1
  obtain ⟨hx, hb, hml, hown, hts, hE, hr, hst9, htb, -⟩ := id C
  rcases bh9_inv hF with ⟨v, M', h1, h2⟩ | ⟨E, M', h1, h2⟩
  · obtain ⟨h0, h1⟩ := iv9_inv h1
    refine call9 (runV9 C hd hl hst hn hcat hdd (hsp l hl9 _ h1) h0 ⟨Nat.zero_le _, Nat.zero_le _⟩ hP hS hls) hS (fun v' M'' H1 locs1 ho hP1 hS1 => ?_) (fun E M'' H1 locs1 q ce hE ho => by cases ho)
    cases ho
    exact hk v M' h2 H1 locs1 lsA hP1 hS1 hls
  · obtain ⟨h0, h1⟩ := iv9_inv h1
    refine call9 (runV9 C hd hl hst hn hcat hdd (hsp l hl9 _ h1) h0 hcm hP hS hls) hS (fun v' M'' H1 locs1 ho => by cases ho) (fun E' M'' H1 locs1 q ce hE' ho hP1 hS1 hq hv hc => ?_)
    cases ho
    rcases hX E hE' M' with h3 | ⟨hp, ⟨pre, x, suf, c1, c2, c3, c4, c5, rfl⟩, hJ⟩
    · rw [h3] at h2
      cases h2
    · obtain ⟨sb, L, xs, D, ca⟩ := N
      obtain ⟨-, -, -, -, -, -, e7, e8, -⟩ := hE
      exact vx_catch hown pre x suf (htb.elim (fun h9 => absurd c1 (by rw [h9]; simp [tableOf])) (fun h9 => h9.trans c1)) (fun y hy => Or.inr (by obtain ⟨a1, nm, a2, a3, a4⟩ := c2 y hy; exact ⟨a1, nm, hts _ a4, e8 E hE' nm a2 a3⟩)) c3 c4 (hts _ c5) (va_Nw.use rfl (e7 E hE')) hq hv hc (hJ q h2 H1 locs1 lsA hP1 hS1 hls)
/-! ===== from the judgement at a method's start to its contract ===== -/
theorem pre_of {z : Sh9} {N : Nv9} {av : List Value} {M : Mem9} {args : Array Value} {s : State} (h : Pc9 z N av M args s) : args = av.toArray ∧ EV9 z N s ∧ PM9 z N M s.heap := ⟨h.1, h.2.1, h.2.2⟩
def rk9 (rk : Nat) (ret : Option FieldType) : Prop := (rk = 0 ∧ ret = none) ∨ (rk = 1 ∧ ret = some .int) ∨ (rk = 2 ∧ ret = some .boolean) ∨ (rk = 3 ∧ ret = some .long)
theorem ret9 {z : Sh9} {N : Nv9} {p : Program} {l : Launch} {e : Env} {R : Room} {s : State} {m : MethodId} {args : Array Value} {below : List Frame} {meth : Method} {c : Code} {cc : ByteArray} {rk : Nat} {cm : Ka9} {ret : Option FieldType} {out : Out9 × Mem9} {XC : String → State → State → Prop} (hx : p.tables.exec = Jvm.exec) (hb : c.code = cc) (hr : meth.sig.returnType = ret) (hrk : rk9 rk ret) (hlocks : meth.locks = false) (v : Option Value) (i : Instr) (pc : Nat) (M : Mem9) (κ : Ka9) (H : Heap) (locs : List Loc) (lsA : Array Slot) (h : rt9 rk v i) (hd : decode cc pc = .ok (i, 1)) (ho : out = (.inl v, M)) (hκ : le9 κ cm) (hP : PM9 z N M H) (hS : va_S (A9 z) s.heap H locs) :
    W p l e R s m args below meth c H locs κ.1 κ.2 (vx_MQ below (Qc9 z N out) XC args s cm.1 cm.2 (A9 z)) (F0 m pc lsA v.toList) := by
  refine vx_ret (W.widen hκ.1 hκ.2 ?_)
  have hq : ∀ t : State, t.heap = H → s.WarmedH t.vm → Qc9 z N out args s (.returned v) t := fun t ht hW => ⟨⟨v, rfl, by rw [ho], by rw [ho, ht]; exact hP⟩, hS.F ht⟩
  rcases h with ⟨h1, rfl, rfl⟩ | ⟨h1, ⟨x, rfl⟩, rfl⟩ | ⟨h1, ⟨x, hx2, rfl⟩, rfl⟩ | ⟨h1, ⟨x, rfl⟩, rfl⟩
  · rcases hrk with ⟨a, h2⟩ | ⟨a, h2⟩ | ⟨a, h2⟩ | ⟨a, h2⟩
    · exact W.vret hx hb (hr.trans h2) hq hS.2.2 hd hlocks
    · omega
    · omega
    · omega
  · rcases hrk with ⟨a, h2⟩ | ⟨a, h2⟩ | ⟨a, h2⟩ | ⟨a, h2⟩
    · omega
    · exact W.iret hx hb (hr.trans h2) hq hS.2.2 hd hlocks
    · omega
    · omega
  · rcases hrk with ⟨a, h2⟩ | ⟨a, h2⟩ | ⟨a, h2⟩ | ⟨a, h2⟩
    · omega
    · omega
    · exact W.zret (ty := .boolean) hx hb (hr.trans h2) (by rcases hx2 with rfl | rfl <;> rfl) hq hS.2.2 hd hlocks
    · omega
  · rcases hrk with ⟨a, h2⟩ | ⟨a, h2⟩ | ⟨a, h2⟩ | ⟨a, h2⟩
    · omega
    · omega
    · omega
    · exact W.lret hx hb (hr.trans h2) hq hS.2.2 hd hlocks
theorem throw9 {z : Sh9} {N : Nv9} {p : Program} {l : Launch} {e : Env} {R : Room} {s : State} {m : MethodId} {args : Array Value} {below : List Frame} {meth : Method} {c : Code} {cc : ByteArray} {own : String} {nL d : Nat} {cm : Ka9} {out : Out9 × Mem9} {Qc : Array Value → State → Outcome → State → Prop} (hx : p.tables.exec = Jvm.exec) (hb : c.code = cc) (hml : c.maxLocals = nL) (hown : s.vm.findClass own = some m.cls) (hts : ∀ w ∈ gw9, w.before args s = true) (hE : EV9 z N s) (hR : d ≤ R.frames ∧ 36 * d ≤ R.locals ∧ cm.1 ≤ R.cells ∧ cm.2 ≤ R.slots) (hst : l.stackTraces = false) (htb : c.exceptionTable.toList = []) (hlocks : meth.locks = false)
    (E : String) (pc : Nat) (M : Mem9) (κ : Ka9) (H : Heap) (locs : List Loc) (lsA : Array Slot) (rest : List Value) (h : TH9 own cc pc E) (hsz : lsA.size = nL) (hd6 : 6 ≤ d) (hcat : (rest.map fun v => v.category).sum ≤ 8) (ho : out = (.inr E, M)) (hκ : le9 (ad9 κ (1, 6)) cm) (hP : PM9 z N M H) (hS : va_S (A9 z) s.heap H locs) :
    W p l e R s m args below meth c H locs κ.1 κ.2 (vx_MQ below Qc (XC9 z N out) args s cm.1 cm.2 (A9 z)) (F0 m pc lsA rest) := by
  obtain ⟨ik, is, ic, text, t1, t2, t3, t4, t5, t6, t7, t8, d0, d3, dd⟩ := h
  obtain ⟨sb, L, xs, D, ca⟩ := N
  obtain ⟨e1, e2, e3, e4, e5, e6, e7, e8, -, e10, -⟩ := hE
  obtain ⟨sa, hsa⟩ := e6 _ t2
  obtain ⟨r1, r2, r3, r4⟩ := hR
  have k1 : κ.1 + 1 ≤ cm.1 := hκ.1
  have k2 : κ.2 + 6 ≤ cm.2 := hκ.2
  have hat : ∀ w ∈ vx_atS own ic E names9, w.before args s = true := vx_hat (fun w hw => hts w (t5 w hw)) t6 (fun w hw => by
    rcases List.mem_cons.mp hw with rfl | hw
    · exact va_Nw.use rfl (e7 E t1)
    · obtain ⟨y, hy, rfl⟩ := List.mem_map.mp hw
      exact va_Nw.use rfl (e10 y hy))
  have hnames : ∀ n ∈ names9, Bundle.fit n = true := by decide +kernel
  have hXC : ∀ t : State, s.vm.Alike t.vm → H.size ≤ t.heap.size → (∀ q : Nat, q < H.size → t.heap[q]? = H[q]?) → XC9 z (sb, L, xs, D, ca) out E s t := by
    intro t _ hz hk
    refine ⟨⟨t1, by rw [ho], ?_⟩, Nat.le_trans hS.1 hz, fun q h1 h2 => by rw [hk q (Nat.lt_of_lt_of_le h1 hS.1)]; exact hS.2.1 q h1 h2⟩
    rw [ho]
    exact va_P.kept hP (fun k q hq => hk q.1 (hP k q hq).lt)
  have hlen : names9.length = 2 := rfl
  rcases dd with ⟨d4, d6, d9⟩ | ⟨d4, d7, d10⟩
  · exact vx_throwS hx hb hst hown t7 hnames (hts _ t3) (hts _ t4) hsa hat t8 e4 e5 hS (by rw [hsz, hml]) d0 d3 d4 d6 d9 (by rw [htb]; intro x hx; cases hx) (by rw [hlen]; omega) (by rw [hlen]; omega) (by omega) (by omega) hlocks hXC hS.2.2 k1 k2
  · exact vx_throwSW hx hb hst hown t7 hnames (hts _ t3) (hts _ t4) hsa hat t8 e4 e5 hS (by rw [hsz, hml]) d0 d3 d4 d7 d10 (by rw [htb]; intro x hx; cases hx) (by rw [hlen]; omega) (by rw [hlen]; omega) (by omega) (by omega) hlocks hXC hS.2.2 k1 k2
theorem sp9_of {l : Launch} {z : Sh9} {N : Nv9} {y : MethodName} {cc : ByteArray} {maxL : Nat} {ret : Option FieldType} {own : String} {d rk : Nat} {av : List Value} {M : Mem9} {F : Re9} {out : Out9 × Mem9} (hy : plainName y.cls = true) (hown : y.cls = own) (hrk : rk9 rk ret) (hst : l.stackTraces = false) (hln : (lg_sl av).length ≤ maxL)
    (hJ : ∀ X, OK9 z N X out maxL (co9 out.1) cc own d rk [] → J9 z N X out maxL 0 (lv_args 0 av) [] M (0, 0) F) (hF : F = some out) : Sp9 l z N y (Cond.code y cc maxL ret) d av M (co9 out.1) out := by
  refine vx_ofW (cc := cc) (maxL := maxL) (ret := ret) hy rfl ?_
  intro p e s m args below meth c s₁ B hml htab hv
  obtain ⟨rfl, hE, hP⟩ := pre_of hv
  have hts : ∀ w ∈ gw9, w.before av.toArray s = true := fun w hw => atoms_spec (ws := Cond.code y cc maxL ret :: gw9) B.pre w (List.mem_cons_of_mem _ hw)
  have hown9 : s.vm.findClass own = some m.cls := by rw [← hown]; exact findClass_of_methodNamed B.named
  have htb : c.exceptionTable.toList = [] := by
    cases h : c.exceptionTable.toList with
    | nil => rfl
    | cons x xs => exact absurd (htab x (by rw [h]; exact List.mem_cons_self)) (fun h => h)
  have hR : d ≤ (headSpec (Cond.code y cc maxL ret :: gw9) (room9 d (co9 out.1))).room.frames ∧ 36 * d ≤ (headSpec (Cond.code y cc maxL ret :: gw9) (room9 d (co9 out.1))).room.locals ∧ (co9 out.1).1 ≤ (headSpec (Cond.code y cc maxL ret :: gw9) (room9 d (co9 out.1))).room.cells ∧ (co9 out.1).2 ≤ (headSpec (Cond.code y cc maxL ret :: gw9) (room9 d (co9 out.1))).room.slots := ⟨Nat.le_refl _, Nat.le_refl _, Nat.le_refl _, Nat.le_refl _⟩
  have hl := lv_entry av (n := maxL) hln
  rw [lg_entry_eq]
  refine hJ (p, l, e, (headSpec (Cond.code y cc maxL ret :: gw9) (room9 d (co9 out.1))).room, s, m, av.toArray, below, meth, c, vx_MQ below (Qc9 z N out) (XC9 z N out) av.toArray s (co9 out.1).1 (co9 out.1).2 (A9 z)) ?_ hF s.heap [] _ hP va_S.rf hl
  refine ⟨B.exec, B.bytes, hml, hown9, hts, hE, hR, hst, .inl rfl, ?_, ?_, ?_⟩
  · intro v i pc M' κ H locs lsA h1 h2 h3 h4 h5 h6
    exact ret9 B.exec B.bytes B.returns hrk B.notSynchronized v i pc M' κ H locs lsA h1 h2 h3 h4 h5 h6
  · intro _ E q ce pc M' κ H locs lsA rest hEx ho hκ hq hv hc hP1 hS1
    refine vx_out (by rw [htb]; intro x hx; cases hx) B.notSynchronized hq hv hc (fun t ht _ => ⟨⟨hEx, by rw [ho], by rw [ho, ht]; exact hP1⟩, hS1.F ht⟩) hS1.2.2 hκ.1 hκ.2
  · intro _ E pc M' κ H locs lsA rest h1 h2 h3 h4 h5 h6 h7 h8
    exact throw9 B.exec B.bytes hml hown9 hts hE hR hst htb B.notSynchronized E pc M' κ H locs lsA rest h1 h2 h3 h4 h5 h6 h7 h8
theorem sp9_ofH {l : Launch} {z : Sh9} {N : Nv9} {y : MethodName} {cc : ByteArray} {maxL : Nat} {ret : Option FieldType} {own : String} {d rk : Nat} {hw : List (Nat × Nat × Nat × Nat)} {av : List Value} {M : Mem9} {F : Re9} {out : Out9 × Mem9} (hy : plainName y.cls = true) (hown : y.cls = own) (hrk : rk9 rk ret) (hst : l.stackTraces = false) (hln : (lg_sl av).length ≤ maxL) (hne : hw ≠ [])
    (hJ : ∀ X, OK9 z N X out maxL (1, 6) cc own d rk hw → J9 z N X out maxL 0 (lv_args 0 av) [] M (0, 0) F) (hF : F = some out) : Sp9 l z N y (Cond.codeWith y cc maxL ret hw) d av M (1, 6) out := by
  refine vx_ofWH (cc := cc) (maxL := maxL) (ret := ret) (hh := hw) hy rfl ?_
  intro p e s m args below meth c s₁ B hml hv
  obtain ⟨rfl, hE, hP⟩ := pre_of hv
  have hts0 : ∀ w ∈ Cond.codeWith y cc maxL ret hw :: gw9, w.before av.toArray s = true := atoms_spec (ws := Cond.codeWith y cc maxL ret hw :: gw9) B.pre
  have hts : ∀ w ∈ gw9, w.before av.toArray s = true := fun w hw => hts0 w (List.mem_cons_of_mem _ hw)
  have hown9 : s.vm.findClass own = some m.cls := by rw [← hown]; exact findClass_of_methodNamed B.named
  have htb : c.exceptionTable.toList = tableOf hw := vx_table (x := y) B (hts0 _ List.mem_cons_self)
  have hl := lv_entry av (n := maxL) hln
  rw [lg_entry_eq]
  refine hJ (p, l, e, (headSpec (Cond.codeWith y cc maxL ret hw :: gw9) (room9 d (1, 6))).room, s, m, av.toArray, below, meth, c, vx_MQ below (Qc9 z N out) (XC9 z N out) av.toArray s 1 6 (A9 z)) ?_ hF s.heap [] _ hP va_S.rf hl
  refine ⟨B.exec, B.bytes, hml, hown9, hts, hE, ⟨Nat.le_refl _, Nat.le_refl _, Nat.le_refl _, Nat.le_refl _⟩, hst, .inr htb, ?_, ?_, ?_⟩
  · intro v i pc M' κ H locs lsA h1 h2 h3 h4 h5 h6
    exact ret9 B.exec B.bytes B.returns hrk B.notSynchronized v i pc M' κ H locs lsA h1 h2 h3 h4 h5 h6
  · intro h
    exact absurd h hne
  · intro h
    exact absurd h hne
/-! ===== the law's own methods: what they make, counted in exceptions ===== -/
def ks9 (κ : Ka9) (n : Nat) : Ka9 := ad9 κ (n, 6 * n)
def lq9 (κ : Ka9) (n : Nat) (cm : Ka9) : Prop := κ.1 + n ≤ cm.1 ∧ κ.2 + 6 * n ≤ cm.2
theorem ks_0 {κ : Ka9} : ks9 κ 0 = κ := rfl
theorem ks_add {κ : Ka9} {n c m : Nat} (h : n + c = m) : ad9 (ks9 κ n) (c, 6 * c) = ks9 κ m := by
  subst h
  show ((κ.1 + n + c, κ.2 + 6 * n + 6 * c) : Nat × Nat) = (κ.1 + (n + c), κ.2 + 6 * (n + c))
  rw [Nat.mul_add, Nat.add_assoc, Nat.add_assoc]
theorem lq_le {κ cm : Ka9} {n c N : Nat} (hk : lq9 κ N cm) (h : n + c ≤ N) : le9 (ad9 (ks9 κ n) (c, 6 * c)) cm := by
  obtain ⟨h1, h2⟩ := hk
  refine ⟨?_, ?_⟩
  · show κ.1 + n + c ≤ cm.1; omega
  · show κ.2 + 6 * n + 6 * c ≤ cm.2; omega
theorem lq_end {κ cm : Ka9} {n N : Nat} (hk : lq9 κ N cm) (h : n ≤ N) : le9 (ks9 κ n) cm := by
  obtain ⟨h1, h2⟩ := hk
  refine ⟨?_, ?_⟩
  · show κ.1 + n ≤ cm.1; omega
  · show κ.2 + 6 * n ≤ cm.2; omega
theorem lq_st {κ cm : Ka9} {n N' N : Nat} (hk : lq9 κ N cm) (h : n + N' ≤ N) : lq9 (ks9 κ n) N' cm := by
  obtain ⟨h1, h2⟩ := hk
  refine ⟨?_, ?_⟩
  · show κ.1 + n + N' ≤ cm.1; omega
  · show κ.2 + 6 * n + 6 * N' ≤ cm.2; omega
theorem lq_mo {κ cm : Ka9} {N' N : Nat} (hk : lq9 κ N cm) (h : N' ≤ N) : lq9 κ N' cm := lq_st (n := 0) hk (by omega)
theorem j_ks0 {z : Sh9} {N : Nv9} {X : Cx9} {out : Out9 × Mem9} {nL : Nat} {pc : Nat} {ls : List (Nat × Value)} {st : List Value} {M : Mem9} {κ : Ka9} {F : Re9} (k : J9 z N X out nL pc ls st M (ks9 κ 0) F) : J9 z N X out nL pc ls st M κ F := k
theorem j_callQS {z : Sh9} {N : Nv9} {X : Cx9} {out : Out9 × Mem9} {nL : Nat} {cm : Ka9} {cc : ByteArray} {own : String} {d : Nat} {rk : Nat} {hh : List (Nat × Nat × Nat × Nat)} {pc : Nat} {ls : List (Nat × Value)} {st : List Value} {M : Mem9} {κ : Ka9} (C : OK9 z N X out nL cm cc own d rk hh) (hh0 : hh = []) {idx n d' maxL c : Nat} {κ1 : Ka9} {y : MethodName} {yc : ByteArray} {ret : Option FieldType} {rest : List Value} {r : Re9} {K : Int32 → Mem9 → Re9}
    (hd : decode cc pc = .ok (.invokestatic idx, 3)) (hl : LO9 own idx y yc maxL ret n) (hst : st.drop n = rest) (hn : n ≤ st.length) (hcat : (rest.map fun v => v.category).sum ≤ 8) (hdd : d' + 1 ≤ d) (he : ad9 κ (c, 6 * c) = κ1) (hκ : le9 (ad9 κ (c, 6 * c)) cm) (hsp : ∀ l : Launch, l.stackTraces = false → ∀ o, r = some o → Sp9 l z N y (Cond.code y yc maxL ret) d' (st.take n).reverse M (c, 6 * c) o)
    (hk : ∀ v M', J9 z N X out nL (pc + 3) ls (.int v :: rest) M' κ1 (K v M')) : J9 z N X out nL pc ls st M κ (bi9 r K) := by
  obtain ⟨p, l, e, R, s, m, args, below, meth, c, QQ⟩ := X
  subst he
  intro hF H locs lsA hP hS hls
  have hl9 : l.stackTraces = false := C.2.2.2.2.2.2.2.1
  rcases bi9_inv hF with ⟨v, M', h1, h2⟩ | ⟨E, M', h1, rfl⟩
  · refine j_call0 C hh0 (runS9 C hd hl hst hn hcat hdd (hsp l hl9 _ h1) hκ hP hS hls) hS hls hκ (fun _ _ => rfl) (fun v' M'' ho => ?_) (fun E M'' ho => by cases ho)
    cases ho
    exact ⟨_, h2, hk v M'⟩
  · exact j_call0 C hh0 (κ' := κ) (runS9 C hd hl hst hn hcat hdd (hsp l hl9 _ h1) hκ hP hS hls) hS hls hκ (fun v h => by cases h) (fun v' M'' ho => by cases ho) (fun E M'' ho => by cases ho; rfl)
theorem j_callQW {z : Sh9} {N : Nv9} {X : Cx9} {out : Out9 × Mem9} {nL : Nat} {cm : Ka9} {cc : ByteArray} {own : String} {d : Nat} {rk : Nat} {hh : List (Nat × Nat × Nat × Nat)} {pc : Nat} {ls : List (Nat × Value)} {st : List Value} {M : Mem9} {κ : Ka9} (C : OK9 z N X out nL cm cc own d rk hh) (hh0 : hh = []) {idx n d' maxL c : Nat} {κ1 : Ka9} {hw : List (Nat × Nat × Nat × Nat)} {y : MethodName} {yc : ByteArray} {ret : Option FieldType} {rest : List Value} {r : Re9} {K : Int32 → Mem9 → Re9}
    (hd : decode cc pc = .ok (.invokestatic idx, 3)) (hl : LW9 own idx y yc maxL ret hw n) (hst : st.drop n = rest) (hn : n ≤ st.length) (hcat : (rest.map fun v => v.category).sum ≤ 8) (hdd : d' + 1 ≤ d) (he : ad9 κ (c, 6 * c) = κ1) (hκ : le9 (ad9 κ (c, 6 * c)) cm) (hsp : ∀ l : Launch, l.stackTraces = false → ∀ o, r = some o → Sp9 l z N y (Cond.codeWith y yc maxL ret hw) d' (st.take n).reverse M (c, 6 * c) o)
    (hk : ∀ v M', J9 z N X out nL (pc + 3) ls (.int v :: rest) M' κ1 (K v M')) : J9 z N X out nL pc ls st M κ (bi9 r K) := by
  obtain ⟨p, l, e, R, s, m, args, below, meth, c, QQ⟩ := X
  subst he
  intro hF H locs lsA hP hS hls
  have hl9 : l.stackTraces = false := C.2.2.2.2.2.2.2.1
  rcases bi9_inv hF with ⟨v, M', h1, h2⟩ | ⟨E, M', h1, rfl⟩
  · refine j_call0 C hh0 (runW9 C hd hl hst hn hcat hdd (hsp l hl9 _ h1) hκ hP hS hls) hS hls hκ (fun _ _ => rfl) (fun v' M'' ho => ?_) (fun E M'' ho => by cases ho)
    cases ho
    exact ⟨_, h2, hk v M'⟩
  · exact j_call0 C hh0 (κ' := κ) (runW9 C hd hl hst hn hcat hdd (hsp l hl9 _ h1) hκ hP hS hls) hS hls hκ (fun v h => by cases h) (fun v' M'' ho => by cases ho) (fun E M'' ho => by cases ho; rfl)
theorem sp9_ofQ {l : Launch} {z : Sh9} {N : Nv9} {y : MethodName} {cc : ByteArray} {maxL : Nat} {ret : Option FieldType} {own : String} {d rk c9 : Nat} {av : List Value} {M : Mem9} {F : Re9} {out : Out9 × Mem9} (hy : plainName y.cls = true) (hown : y.cls = own) (hrk : rk9 rk ret) (hst : l.stackTraces = false) (hln : (lg_sl av).length ≤ maxL)
    (hJ : ∀ X, OK9 z N X out maxL (c9, 6 * c9) cc own d rk [] → J9 z N X out maxL 0 (lv_args 0 av) [] M (0, 0) F) (hF : F = some out) : Sp9 l z N y (Cond.code y cc maxL ret) d av M (c9, 6 * c9) out := by
  refine vx_ofW (cc := cc) (maxL := maxL) (ret := ret) hy rfl ?_
  intro p e s m args below meth c s₁ B hml htab hv
  obtain ⟨rfl, hE, hP⟩ := pre_of hv
  have hts : ∀ w ∈ gw9, w.before av.toArray s = true := fun w hw => atoms_spec (ws := Cond.code y cc maxL ret :: gw9) B.pre w (List.mem_cons_of_mem _ hw)
  have hown9 : s.vm.findClass own = some m.cls := by rw [← hown]; exact findClass_of_methodNamed B.named
  have htb : c.exceptionTable.toList = [] := by
    cases h : c.exceptionTable.toList with
    | nil => rfl
    | cons x xs => exact absurd (htab x (by rw [h]; exact List.mem_cons_self)) (fun h => h)
  have hR : d ≤ (headSpec (Cond.code y cc maxL ret :: gw9) (room9 d (c9, 6 * c9))).room.frames ∧ 36 * d ≤ (headSpec (Cond.code y cc maxL ret :: gw9) (room9 d (c9, 6 * c9))).room.locals ∧ (c9, 6 * c9).1 ≤ (headSpec (Cond.code y cc maxL ret :: gw9) (room9 d (c9, 6 * c9))).room.cells ∧ (c9, 6 * c9).2 ≤ (headSpec (Cond.code y cc maxL ret :: gw9) (room9 d (c9, 6 * c9))).room.slots := ⟨Nat.le_refl _, Nat.le_refl _, Nat.le_refl _, Nat.le_refl _⟩
  have hl := lv_entry av (n := maxL) hln
  rw [lg_entry_eq]
  refine hJ (p, l, e, (headSpec (Cond.code y cc maxL ret :: gw9) (room9 d (c9, 6 * c9))).room, s, m, av.toArray, below, meth, c, vx_MQ below (Qc9 z N out) (XC9 z N out) av.toArray s c9 (6 * c9) (A9 z)) ?_ hF s.heap [] _ hP va_S.rf hl
  refine ⟨B.exec, B.bytes, hml, hown9, hts, hE, hR, hst, .inl rfl, ?_, ?_, ?_⟩
  · intro v i pc M' κ H locs lsA h1 h2 h3 h4 h5 h6
    exact ret9 (cm := (c9, 6 * c9)) B.exec B.bytes B.returns hrk B.notSynchronized v i pc M' κ H locs lsA h1 h2 h3 h4 h5 h6
  · intro _ E q ce pc M' κ H locs lsA rest hEx ho hκ hq hv hc hP1 hS1
    refine vx_out (by rw [htb]; intro x hx; cases hx) B.notSynchronized hq hv hc (fun t ht _ => ⟨⟨hEx, by rw [ho], by rw [ho, ht]; exact hP1⟩, hS1.F ht⟩) hS1.2.2 hκ.1 hκ.2
  · intro _ E pc M' κ H locs lsA rest h1 h2 h3 h4 h5 h6 h7 h8
    exact throw9 (cm := (c9, 6 * c9)) B.exec B.bytes hml hown9 hts hE hR hst htb B.notSynchronized E pc M' κ H locs lsA rest h1 h2 h3 h4 h5 h6 h7 h8
