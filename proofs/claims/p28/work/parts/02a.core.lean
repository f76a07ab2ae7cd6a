/-! ===== the cells of the two objects and of the law's row, at the addresses z, z + 1 ..: what kind each is, and what it holds ===== -/
abbrev Mem9 : Type := Nat → Nat → Int32
abbrev Out9 : Type := Option Value ⊕ String
abbrev Re9 : Type := Option (Out9 × Mem9)
def wr9 (M : Mem9) (a k : Nat) (v : Int32) : Mem9 := fun a' k' => if a' = a ∧ k' = k then v else M a' k'
/-- kinds: 0 Gate, 1 Lane, 2 LorryArms, 3 LorryArmsModel; 10 ints, 11 booleans, 12 chars, 13 longs, 14 Lanes, 15 the remembered Gates, 16 the saved Gates; and an array's length -/
def gk9 (j : Nat) : Nat × Nat := if j = 0 then (0, 0) else if j = 1 then (14, 3) else if j = 2 then (10, 3) else if (j - 3) % 6 = 0 then (1, 0) else if (j - 3) % 6 ≤ 2 then (10, 6) else (11, 6)
def kdA9 (i : Nat) : Nat × Nat :=
  if i = 0 then (2, 0) else if i = 1 then (12, 120) else if i < 44 then gk9 ((i - 2) % 21) else if i = 44 then (15, 14) else if i = 45 then (16, 2) else if i = 46 then (11, 2)
  else gk9 ((i - 47) % 21)
def kd9 (i : Nat) : Nat × Nat := if i < 383 then kdA9 i else kdA9 (i - 383)
def el9 (t a i : Nat) : Nat := if t = 14 then a + 2 + 6 * i else if t = 15 then a + 3 + 21 * i else a + 296 + 21 * i
/-- objects and rows of references that are not whole yet: how many of their references stand -/
def rp9 (j i v : Nat) : Value := if i < j then .ref v else .null
def mp9 (ca : Nat → ClassId) (a : Nat) (m : Nat → Int32) (c : Nat) : va_E :=
  if c < 40 then .inr (1, [rp9 (c - 30) 0 (a + 1), rp9 (c - 30) 1 (a + 2), rp9 (c - 30) 2 (a + 3), rp9 (c - 30) 3 (a + 4), rp9 (c - 30) 4 (a + 5), .int (m 5), .int (m 6), .int (m 7), .int (m 8), .int (m 9), .int (m 10), .int (m 11), .int (m 12), .int (m 13), .int (m 14), .int (m 15), .int (m 16)])
  else if c < 50 then .inr (0, [rp9 (c - 40) 0 (a + 1), rp9 (c - 40) 1 (a + 2), .int (m 2), .int (m 3)])
  else if c < 60 then .inl (ca 4, 3, .inr (.inr (.inr (.inr (fun k => if k < c - 50 then some (a + 2 + 6 * k) else none)))))
  else if c < 70 then .inr (2, [rp9 (c - 60) 0 (a + 1), .int (m 1), rp9 (c - 60) 1 (a + 2), rp9 (c - 60) 2 (a + 23), rp9 (c - 60) 3 (a + 44), .int (m 5), .int (m 6), rp9 (c - 60) 4 (a + 45), rp9 (c - 60) 5 (a + 46)])
  else if c < 90 then .inl (ca 5, 14, .inr (.inr (.inr (.inr (fun k => if k < c - 70 then some (a + 3 + 21 * k) else none)))))
  else if c < 100 then .inl (ca 5, 2, .inr (.inr (.inr (.inr (fun k => if k < c - 90 then some (a + 296 + 21 * k) else none)))))
  else .inr (3, [.int (m 0), rp9 (c - 100) 0 (a + 1), .int (m 2), rp9 (c - 100) 1 (a + 2), rp9 (c - 100) 2 (a + 3), rp9 (c - 100) 3 (a + 4), .int (m 6), rp9 (c - 100) 4 (a + 5), rp9 (c - 100) 5 (a + 6), rp9 (c - 100) 6 (a + 7), .int (m 10), .int (m 11), .int (m 12)])
def mk9 (ca : Nat → ClassId) (a : Nat) (m : Nat → Int32) (kd : Nat × Nat) : va_E := match kd.1 with
  | 0 => .inr (0, [.ref (a + 1), .ref (a + 2), .int (m 2), .int (m 3)])
  | 1 => .inr (1, [.ref (a + 1), .ref (a + 2), .ref (a + 3), .ref (a + 4), .ref (a + 5), .int (m 5), .int (m 6), .int (m 7), .int (m 8), .int (m 9), .int (m 10), .int (m 11), .int (m 12), .int (m 13), .int (m 14), .int (m 15), .int (m 16)])
  | 2 => .inr (2, [.ref (a + 1), .int (m 1), .ref (a + 2), .ref (a + 23), .ref (a + 44), .int (m 5), .int (m 6), .ref (a + 45), .ref (a + 46)])
  | 3 => .inr (3, [.int (m 0), .ref (a + 1), .int (m 2), .ref (a + 2), .ref (a + 3), .ref (a + 4), .int (m 6), .ref (a + 5), .ref (a + 6), .ref (a + 7), .int (m 10), .int (m 11), .int (m 12)])
  | 10 => .inl (ca 0, kd.2, .inl m)
  | 11 => .inl (ca 1, kd.2, .inl m)
  | 12 => .inl (ca 2, kd.2, .inl m)
  | 13 => .inl (ca 3, kd.2, .inr (.inl (fun k => (m k).toInt64)))
  | 14 => .inl (ca 4, kd.2, .inr (.inr (.inr (.inr (fun k => some (a + 2 + 6 * k))))))
  | 15 => .inl (ca 5, kd.2, .inr (.inr (.inr (.inr (fun k => some (a + 3 + 21 * k))))))
  | 16 => .inl (ca 5, kd.2, .inr (.inr (.inr (.inr (fun k => some (a + 296 + 21 * k))))))
  | c => mp9 ca a m c
/-- a shape: the first address, how many cells, their kinds -/
abbrev Sh9 : Type := Nat × Nat × (Nat → Nat × Nat)
def WS9 (z : Sh9) (ca : Nat → ClassId) (M : Mem9) : va_W := (List.range z.2.1).map fun i => (z.1 + i, mk9 ca (z.1 + i) (M (z.1 + i)) (z.2.2 i))
def A9 (z : Sh9) : Nat → Prop := fun q => z.1 ≤ q
def tys9 (ca : Nat → ClassId) : List (ClassId × FieldType) := [(ca 0, .int), (ca 1, .boolean), (ca 2, .char), (ca 3, .byte), (ca 4, .object "LorryArms$Lane"), (ca 5, .object "LorryArms$Gate")]
theorem WS9_get {z : Sh9} {i : Nat} {ca : Nat → ClassId} {M : Mem9} (h : i < z.2.1) : (WS9 z ca M)[i]? = some (z.1 + i, mk9 ca (z.1 + i) (M (z.1 + i)) (z.2.2 i)) := by
  unfold WS9
  rw [List.getElem?_map, List.getElem?_range h]
  rfl
theorem WS9_inv {z : Sh9} {i : Nat} {ca : Nat → ClassId} {M : Mem9} {q : Nat × va_E} (h : (WS9 z ca M)[i]? = some q) : i < z.2.1 ∧ q = (z.1 + i, mk9 ca (z.1 + i) (M (z.1 + i)) (z.2.2 i)) := by
  have hi : i < z.2.1 := by
    have h1 := (List.getElem?_eq_some_iff.mp h).1
    unfold WS9 at h1
    rw [List.length_map, List.length_range] at h1
    exact h1
  rw [WS9_get hi] at h
  exact ⟨hi, (Option.some.inj h).symm⟩
theorem WS9_D (z : Sh9) (ca : Nat → ClassId) (M : Mem9) : va_D (A9 z) (WS9 z ca M) := by
  refine ⟨fun i j p q hp hq e => ?_, fun k q hq => ?_⟩
  · have h1 := (WS9_inv hp).2
    have h2 := (WS9_inv hq).2
    subst h1; subst h2
    exact Nat.add_left_cancel e
  · have h1 := (WS9_inv hq).2
    subst h1
    exact Nat.le_add_right z.1 k
theorem WS9_set {z : Sh9} {i : Nat} {ca : Nat → ClassId} {M M' : Mem9} {e : va_E} (hi : i < z.2.1) (hM : ∀ a, a ≠ z.1 + i → M' a = M a) (he : mk9 ca (z.1 + i) (M' (z.1 + i)) (z.2.2 i) = e) : (WS9 z ca M).set i (z.1 + i, e) = WS9 z ca M' := by
  apply List.ext_getElem?
  intro j
  by_cases hj : j < z.2.1
  · rw [WS9_get hj]
    by_cases hij : i = j
    · subst hij
      rw [List.getElem?_set_self (by unfold WS9; rw [List.length_map, List.length_range]; exact hi), he]
    · rw [List.getElem?_set_ne hij, WS9_get hj, hM (z.1 + j) (fun q => hij (Nat.add_left_cancel q).symm)]
  · rw [List.getElem?_eq_none (by rw [List.length_set]; unfold WS9; rw [List.length_map, List.length_range]; omega), List.getElem?_eq_none (by unfold WS9; rw [List.length_map, List.length_range]; omega)]
theorem wr9_ne {M : Mem9} {a k : Nat} {v : Int32} {b : Nat} (h : b ≠ a) : wr9 M a k v b = M b := by
  funext j
  simp [wr9, h]
theorem wr9_eq {M : Mem9} {a k : Nat} {v : Int32} : wr9 M a k v a = fun j => if j = k then v else M a j := by
  funext j
  simp [wr9]
/-! ===== what a method's text may do, as functions that may fail ===== -/
abbrev okO9 (z : Sh9) (a ci : Nat) : Prop := z.1 ≤ a ∧ a < z.1 + z.2.1 ∧ (z.2.2 (a - z.1)).1 = ci
abbrev okA9 (z : Sh9) (a t : Nat) (i : Int32) : Prop := z.1 ≤ a ∧ a < z.1 + z.2.1 ∧ (z.2.2 (a - z.1)).1 = t ∧ 0 ≤ i.toInt ∧ i.toInt < ((z.2.2 (a - z.1)).2 : Int)
abbrev b9 (v : Int32) : Prop := v = 0 ∨ v = 1
def gf9 (z : Sh9) (M : Mem9) (a ci k : Nat) : Option Int32 := if okO9 z a ci then some (M a k) else none
def rf9 (z : Sh9) (a ci off : Nat) : Option Nat := if okO9 z a ci then some (a + off) else none
def pf9 (z : Sh9) (M : Mem9) (a ci k : Nat) (v : Int32) : Option Mem9 := if okO9 z a ci then some (wr9 M a k v) else none
def pz9 (z : Sh9) (M : Mem9) (a ci k : Nat) (v : Int32) : Option Mem9 := if okO9 z a ci ∧ b9 v then some (wr9 M a k v) else none
def ld9 (z : Sh9) (M : Mem9) (t a : Nat) (i : Int32) : Option Int32 := if okA9 z a t i then some (M a i.toNatClampNeg) else none
def la9 (z : Sh9) (t a : Nat) (i : Int32) : Option Nat := if okA9 z a t i then some (el9 t a i.toNatClampNeg) else none
def st9 (z : Sh9) (M : Mem9) (a : Nat) (i v : Int32) : Option Mem9 := if okA9 z a 10 i then some (wr9 M a i.toNatClampNeg v) else none
def sz9 (z : Sh9) (M : Mem9) (a : Nat) (i v : Int32) : Option Mem9 := if okA9 z a 11 i ∧ b9 v then some (wr9 M a i.toNatClampNeg v) else none
def sc9 (z : Sh9) (M : Mem9) (a : Nat) (i v : Int32) : Option Mem9 := if okA9 z a 12 i ∧ vp_nar .char v = v then some (wr9 M a i.toNatClampNeg v) else none
def sl9 (z : Sh9) (M : Mem9) (a : Nat) (i v : Int32) : Option Mem9 := if okA9 z a 13 i then some (wr9 M a i.toNatClampNeg v) else none
def dv9 (x y : Int32) : Option Int32 := if y = 0 then none else some (x / y)
def rm9 (x y : Int32) : Option Int32 := if y = 0 then none else some (x - x / y * y)
def dl9 (x y : Int64) : Option Int64 := if y = 0 then none else some (x / y)
def rl9 (x y : Int64) : Option Int64 := if y = 0 then none else some (x - x / y * y)
def nm9 {α : Type} (e : α) (K : α → Re9) : Re9 := K e
def iv9 (z : Sh9) (b ci : Nat) (r : Re9) : Re9 := if okO9 z b ci then r else none
def bi9 (r : Re9) (K : Int32 → Mem9 → Re9) : Re9 := match r with
  | some (.inl (some (.int v)), M) => K v M
  | some (.inr E, M) => some (.inr E, M)
  | _ => none
def bl9 (r : Re9) (K : Int64 → Mem9 → Re9) : Re9 := match r with
  | some (.inl (some (.long v)), M) => K v M
  | some (.inr E, M) => some (.inr E, M)
  | _ => none
def bv9 (r : Re9) (K : Mem9 → Re9) : Re9 := match r with
  | some (.inl none, M) => K M
  | some (.inr E, M) => some (.inr E, M)
  | _ => none
/-- a call of a nest mate's method, which doesn't throw -/
def bn9 (r : Re9) (K : Int32 → Mem9 → Re9) : Re9 := match r with
  | some (.inl (some (.int v)), M) => K v M
  | _ => none
/-- a call under handlers: H9 by the exception's class -/
def bh9 (r : Re9) (K : Int32 → Mem9 → Re9) (X : String → Mem9 → Re9) : Re9 := match r with
  | some (.inl (some (.int v)), M) => K v M
  | some (.inr E, M) => X E M
  | _ => none
def ri9 (v : Int32) (M : Mem9) : Re9 := some (.inl (some (.int v)), M)
def rz9 (v : Int32) (M : Mem9) : Re9 := if b9 v then some (.inl (some (.int v)), M) else none
def rv9 (M : Mem9) : Re9 := some (.inl none, M)
def rj9 (v : Int64) (M : Mem9) : Re9 := some (.inl (some (.long v)), M)
def tx9 (E : String) (M : Mem9) : Re9 := some (.inr E, M)
def fx9 {α : Type} (bot : α) (F : α → α) : Nat → α
  | 0 => bot
  | n + 1 => F (fx9 bot F n)
def FU9 : Nat := 6000
/-! ===== the tables' words, and what holds of a state ===== -/
def gw9 : List Cond := lw_tbl.filter goodWord
theorem gw9_in {w : Cond} (i : Nat) (h : lw_tbl[i]? = some w) (hg : goodWord w = true) : w ∈ gw9 := List.mem_filter.mpr ⟨List.mem_of_getElem? h, hg⟩
def names9 : List String := ["java/lang/RuntimeException", "java/lang/Exception"]
def excs9 : List String := ["java/lang/IllegalArgumentException", "java/lang/IllegalStateException", "java/lang/IndexOutOfBoundsException"]
def decl9 : List MethodName := [⟨"java/lang/RuntimeException", "<init>", "(Ljava/lang/String;)V"⟩, ⟨"java/lang/Exception", "<init>", "(Ljava/lang/String;)V"⟩, ⟨"java/lang/Throwable", "<init>", "(Ljava/lang/String;)V"⟩]
def strs9 : List (String × Nat × String) := [("LorryArms", 46, "a character code is 0 to 255"), ("LorryArms", 53, "the text is full"), ("LorryArms", 70, "the text is not a gate"), ("LorryArms", 127, "what is 0 to 9"), ("LorryArms", 177, "there is no such lane"), ("LorryArms", 142, "what is 0 to 7"), ("LorryArms", 183, "there is no such vehicle"), ("LorryArms", 157, "what is 0 to 4"), ("LorryArms", 166, "a setting is 0 to 2"), ("LorryArms", 187, "there are 3 lanes"), ("LorryArms", 203, "the arm is whole, or a vehicle is under it"), ("LorryArms", 208, "a run is 1 to 60 ticks"), ("LorryArms", 213, "no setting, or a value out of its range"), ("LorryArms", 218, "no state is remembered"), ("LorryArms", 185, "a length is 2 to 12"), ("LorryArms", 231, "n is 1 to 400"), ("LorryArms", 277, "a save slot is 0 or 1"), ("LorryArms", 275, "nothing has been saved in this slot"), ("LorryArms", 198, "there are 6 vehicles in the lane"), ("LorryArms", 245, "a script has 1 to 3 commands"), ("LorryArms", 251, "the script is negative or too long"), ("LorryArms", 258, "m is 1 to 60")]
/-- private static methods of another class of the nest -/
def nests9 : List (String × Nat × MethodName × String) := [("LorryArms$Gate", 66, ⟨"LorryArms", "isSetting", "(II)Z"⟩, "LorryArms")]
abbrev Nv9 : Type := Nat × Nat × (Nat → Int32) × va_G × (Nat → ClassId)
def EV9 (z : Sh9) (N : Nv9) (U : State) : Prop := match N with
  | (sb, L, xs, D, ca) => va_K D vwCl (tys9 ca) U ∧ va_X sb L xs U U.heap ∧ sb < z.1 ∧ vx_Zq Bundle.tN "UNASSIGNED_STACK" Bundle.steD (A9 z) U U.heap ∧ vx_Zq Bundle.tN "SUPPRESSED_SENTINEL" Bundle.listD (A9 z) U U.heap ∧ (∀ q ∈ strs9, ∃ sa, vk_R q.1 q.2.1 q.2.2 sa U) ∧ (∀ E ∈ excs9, va_Nw (.castable E E) U) ∧ (∀ E ∈ excs9, ∀ E' ∈ excs9, E ≠ E' → va_Nc E E' U) ∧ (∀ q ∈ nests9, va_Nw (.methodLinkNest q.1 q.2.1 q.2.2.1 q.2.2.2) U) ∧ (∀ y ∈ decl9, va_Nw (.declares y) U) ∧ (∀ C ∈ ["LorryArms$Lane", "LorryArms$Gate"], va_AO C U)
def PM9 (z : Sh9) (N : Nv9) (M : Mem9) (H : Heap) : Prop := match N with
  | (_, _, _, D, ca) => va_P D vwCl (WS9 z ca M) H
theorem EV9.go {z : Sh9} {N : Nv9} {s U : State} {locs : List Loc} (h : EV9 z N s) (hW : s.WarmedH U.vm) (hS : va_S (A9 z) s.heap U.heap locs) : EV9 z N U := by
  obtain ⟨sb, L, xs, D, ca⟩ := N
  obtain ⟨h1, h2, h3, h4, h5, h6, h7, h8, h9, h10, h11⟩ := h
  have hsb : sb < s.heap.size := by
    obtain ⟨scr, a1, -⟩ := h2
    exact (Array.getElem?_eq_some_iff.mp a1).1
  refine ⟨va_K.moved hW.alike h1, va_X.moved hW.alike (h2.kept (hS.2.1 sb hsb (Nat.not_le.mpr h3))), h3, vx_Zq.moved hW.alike (h4.kept hS.2.1), vx_Zq.moved hW.alike (h5.kept hS.2.1), fun q hq => ?_, fun E hE => va_Nw.warmC hW (h7 E hE), fun E hE E' hE' hne => va_Nc.moved hW.alike (h8 E hE E' hE' hne), fun q hq => va_Nw.warmM hW (h9 q hq), fun y hy => va_Nw.warmD hW (h10 y hy), fun C hC => va_AO.moved hW.alike (h11 C hC)⟩
  obtain ⟨sa, hsa⟩ := h6 q hq
  exact ⟨sa, vk_R.warm hW hsa⟩
theorem EV9.same {z : Sh9} {N : Nv9} {s U : State} (h : EV9 z N s) (hv : U.vm = s.vm) (hh : U.heap = s.heap) : EV9 z N U :=
  h.go (locs := []) (by rw [hv]; exact State.WarmedH.refl s) (by rw [hh]; exact va_S.rf)
/-! ===== contracts ===== -/
/-- what has been made: cells, slots -/
abbrev Ka9 : Type := Nat × Nat
abbrev le9 (a b : Ka9) : Prop := a.1 ≤ b.1 ∧ a.2 ≤ b.2
def ad9 (a b : Ka9) : Ka9 := (a.1 + b.1, a.2 + b.2)
def room9 (d : Nat) (c : Ka9) : Room := { frames := d, cells := c.1, slots := c.2, locals := 36 * d }
def Pc9 (z : Sh9) (N : Nv9) (av : List Value) (M : Mem9) : Array Value → State → Prop := va_Pc av (fun U => EV9 z N U ∧ PM9 z N M U.heap)
def Qc9 (z : Sh9) (N : Nv9) (out : Out9 × Mem9) : Array Value → State → Outcome → State → Prop := fun _ st oc t => (∃ v, oc = .returned v ∧ out.1 = .inl v ∧ PM9 z N out.2 t.heap) ∧ va_F (A9 z) st t
def XC9 (z : Sh9) (N : Nv9) (out : Out9 × Mem9) : String → State → State → Prop := fun E st t => (E ∈ excs9 ∧ out.1 = .inr E ∧ PM9 z N out.2 t.heap) ∧ va_F (A9 z) st t
def Sp9 (l : Launch) (z : Sh9) (N : Nv9) (y : MethodName) (w0 : Cond) (d : Nat) (av : List Value) (M : Mem9) (c : Ka9) (out : Out9 × Mem9) : Prop :=
  vx_Met l y (w0 :: gw9) (room9 d c) (Pc9 z N av M) (Qc9 z N out) (XC9 z N out) c.1 c.2 (A9 z)
/-- what a call makes: an exception, or nothing -/
def co9 (o : Out9) : Ka9 := match o with
  | .inl _ => (0, 0)
  | .inr _ => (1, 6)
theorem Pc9_blind {z : Sh9} {N : Nv9} {av : List Value} {M : Mem9} : FrameBlind (Pc9 z N av M) := by
  intro a U g mk h
  obtain ⟨h1, h2, h3⟩ := h
  exact ⟨h1, h2.same rfl rfl, h3⟩
/-! ===== the judgement of a place in a method: the rest of its text, run from here, answers as F does ===== -/
abbrev Cx9 : Type := Program × Launch × Env × Room × State × MethodId × Array Value × List Frame × Method × Code × (State → Prop)
def J9 (z : Sh9) (N : Nv9) (X : Cx9) (out : Out9 × Mem9) (nL : Nat) (pc : Nat) (ls : List (Nat × Value)) (st : List Value) (M : Mem9) (κ : Ka9) (F : Re9) : Prop := match X with
  | (p, l, e, R, s, m, args, below, meth, c, QQ) => F = some out → ∀ (H : Heap) (locs : List Loc) (lsA : Array Slot), PM9 z N M H → va_S (A9 z) s.heap H locs → lv_has lsA nL ls → W p l e R s m args below meth c H locs κ.1 κ.2 QQ (F0 m pc lsA st)
def rt9 (rk : Nat) (v : Option Value) (i : Instr) : Prop := (rk = 0 ∧ v = none ∧ i = .return_) ∨ (rk = 1 ∧ (∃ x, v = some (.int x)) ∧ i = .ireturn) ∨ (rk = 2 ∧ (∃ x : Int32, b9 x ∧ v = some (.int x)) ∧ i = .ireturn) ∨ (rk = 3 ∧ (∃ x, v = some (.long x)) ∧ i = .lreturn)
/-- 'throw new E("text")' stands at pc -/
def TH9 (own : String) (cc : ByteArray) (pc : Nat) (E : String) : Prop := ∃ (ik is ic : Nat) (text : String), E ∈ excs9 ∧ (own, is, text) ∈ strs9 ∧ Cond.classLink own ik E ∈ gw9 ∧ Cond.initialized E ∈ gw9 ∧ (∀ w ∈ (vx_atS own ic E names9).filter goodWord, w ∈ gw9) ∧ (∀ w ∈ (vx_atS own ic E names9).filter (fun w => !goodWord w), w ∈ Cond.castable E E :: decl9.map Cond.declares) ∧ Bundle.fit E = true ∧ (∀ w ∈ Cond.classLink own ik E :: Cond.initialized E :: vx_atS own ic E names9, vx_ot w = true) ∧ decode cc pc = .ok (.new ik, 3) ∧ decode cc (pc + 3) = .ok (.dup, 1) ∧
  ((decode cc (pc + 4) = .ok (.ldc is, 2) ∧ decode cc (pc + 6) = .ok (.invokespecial ic, 3) ∧ decode cc (pc + 9) = .ok (.athrow, 1)) ∨ (decode cc (pc + 4) = .ok (.ldc_w is, 3) ∧ decode cc (pc + 7) = .ok (.invokespecial ic, 3) ∧ decode cc (pc + 10) = .ok (.athrow, 1)))
def OK9 (z : Sh9) (N : Nv9) (X : Cx9) (out : Out9 × Mem9) (nL : Nat) (cm : Ka9) (cc : ByteArray) (own : String) (d rk : Nat) (hh : List (Nat × Nat × Nat × Nat)) : Prop := match X with
  | (p, l, e, R, s, m, args, below, meth, c, QQ) => p.tables.exec = Jvm.exec ∧ c.code = cc ∧ c.maxLocals = nL ∧ s.vm.findClass own = some m.cls ∧ (∀ w ∈ gw9, w.before args s = true) ∧ EV9 z N s ∧ (d ≤ R.frames ∧ 36 * d ≤ R.locals ∧ cm.1 ≤ R.cells ∧ cm.2 ≤ R.slots) ∧ l.stackTraces = false ∧ (hh = [] ∨ c.exceptionTable.toList = tableOf hh) ∧
    (∀ (v : Option Value) (i : Instr) (pc : Nat) (M : Mem9) (κ : Ka9) (H : Heap) (locs : List Loc) (lsA : Array Slot), rt9 rk v i → decode cc pc = .ok (i, 1) → out = (.inl v, M) → le9 κ cm → PM9 z N M H → va_S (A9 z) s.heap H locs → W p l e R s m args below meth c H locs κ.1 κ.2 QQ (F0 m pc lsA v.toList)) ∧
    (hh = [] → ∀ (E : String) (q : Addr) (ce : Cell) (pc : Nat) (M : Mem9) (κ : Ka9) (H : Heap) (locs : List Loc) (lsA : Array Slot) (rest : List Value), E ∈ excs9 → out = (.inr E, M) → le9 κ cm → H[q]? = some ce → ce.vm = .none → s.vm.findClass E = some ce.cls → PM9 z N M H → va_S (A9 z) s.heap H locs → vx_W p l e R s m args below meth c H locs κ.1 κ.2 QQ (F0 m pc lsA rest) q) ∧
    (hh = [] → ∀ (E : String) (pc : Nat) (M : Mem9) (κ : Ka9) (H : Heap) (locs : List Loc) (lsA : Array Slot) (rest : List Value), TH9 own cc pc E → lsA.size = nL → 6 ≤ d → (rest.map fun v => v.category).sum ≤ 8 → out = (.inr E, M) → le9 (ad9 κ (1, 6)) cm → PM9 z N M H → va_S (A9 z) s.heap H locs → W p l e R s m args below meth c H locs κ.1 κ.2 QQ (F0 m pc lsA rest))
