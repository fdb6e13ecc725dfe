/-! A layer over the kit: the heap of all that the law has made, as a function from addresses; a method's frame over it. -/
abbrev Hp : Type := Nat → Option va_E
def hset (σ : Hp) (a : Nat) (e : va_E) : Hp := fun x => if x = a then some e else σ x
theorem hset_same (σ : Hp) (a : Nat) (e : va_E) : hset σ a e a = some e := if_pos rfl
theorem hset_ne {σ : Hp} {a b : Nat} {e : va_E} (h : b ≠ a) : hset σ a e b = σ b := if_neg h
theorem hset_hset (σ : Hp) (a : Nat) (e e2 : va_E) : hset (hset σ a e) a e2 = hset σ a e2 := by
  funext x
  by_cases h : x = a <;> simp [hset, h]
theorem hset_comm (σ : Hp) {a b : Nat} (e e2 : va_E) (h : a ≠ b) : hset (hset σ a e) b e2 = hset (hset σ b e2) a e := by
  funext x
  by_cases h1 : x = a
  · subst h1; simp [hset, h]
  · simp [hset, h1]
theorem hset_id {σ : Hp} {a : Nat} {e : va_E} (h : σ a = some e) : hset σ a e = σ := by
  funext x
  by_cases h1 : x = a
  · subst h1; simp [hset, h]
  · simp [hset, h1]
/-- globals: where the law's own cells begin; classes' numbers and slots; array classes' numbers; arrays that stand from the start (digits of tens, of ones, the script) and the script's length; the text constants and their bytes; the script's cells -/
abbrev Gl : Type := Nat × va_G × (Nat → ClassId) × (Nat → Nat) × (Nat → Nat) × (Nat → Nat) × (Nat → Int32)
def gB (G : Gl) : Nat := G.1
def gD (G : Gl) : va_G := G.2.1
def gC (G : Gl) : Nat → ClassId := G.2.2.1
def gE (G : Gl) : Nat → Nat := G.2.2.2.1
def gK (G : Gl) : Nat → Nat := G.2.2.2.2.1
def gV (G : Gl) : Nat → Nat := G.2.2.2.2.2.1
def gF (G : Gl) : Nat → Int32 := G.2.2.2.2.2.2
def gA (G : Gl) : Nat → Prop := fun q => gB G ≤ q
def gT (G : Gl) : List (ClassId × FieldType) := [(gC G 0, .int), (gC G 1, .object "TrainDecoder$Railway"), (gC G 2, .object "TrainDecoder$Train"), (gC G 3, .byte), (gC G 4, .boolean)]
/-- words that aren't good for a callee's list, but stay when tables get warmer -/
def nestW : Cond → Bool
  | .fieldLinkNest .. | .methodLinkNest .. | .declares _ | .castable .. => true
  | _ => false
theorem nestW_on {w : Cond} (h : nestW w = true) : w.onTables = true := by
  cases w <;> first | rfl | (simp [nestW] at h)
theorem nestW_warm {w : Cond} (h : nestW w = true) {s U : State} (hW : s.WarmedH U.vm) (hw : va_Nw w s) : va_Nw w U := by
  cases w <;> first | exact va_Nw.warmF hW hw | exact va_Nw.warmM hW hw | exact va_Nw.warmD hW hw | exact va_Nw.warmC hW hw | (simp [nestW] at h)
/-- the text constants: class, entry, text, its number -/
def txRefs : List (String × Nat × String × Nat) := [("TrainDecoder$Parser", 31, "track", 0), ("TrainDecoder$Parser", 66, "tunnel", 1), ("TrainDecoder$Parser", 72, "short", 2), ("TrainDecoder$Parser", 87, "train", 3), ("TrainDecoderLaw", 206, "track ", 4), ("TrainDecoderLaw", 218, "tunnel ", 5), ("TrainDecoderLaw", 223, "train ", 6), ("TrainDecoder", 357, "the buffer holds no text of this length", 7), ("TrainDecoder", 348, "nothing to undo", 8), ("TrainDecoder", 353, "no snapshot", 9), ("TrainDecoder", 365, "no such train", 10), ("TrainDecoder", 370, "no such packet", 11), ("TrainDecoder", 363, "no such section", 12), ("TrainDecoder", 377, "a number is out of range", 13), ("TrainDecoder", 375, "the queue is full", 14), ("TrainDecoder", 305, "the train runs", 15), ("TrainDecoder", 310, "a train has this address", 16), ("TrainDecoder", 315, "a tick beyond the last one would pass", 17)]
/-- the words' letters, by the text's number -/
def txB (i : Nat) : List Int32 := match i with
  | 0 => [116, 114, 97, 99, 107]
  | 1 => [116, 117, 110, 110, 101, 108]
  | 2 => [115, 104, 111, 114, 116]
  | 3 => [116, 114, 97, 105, 110]
  | 4 => [116, 114, 97, 99, 107, 32]
  | 5 => [116, 117, 110, 110, 101, 108, 32]
  | _ => [116, 114, 97, 105, 110, 32]
/-- what stands from the start and is never written -/
def CI (G : Gl) (U : State) (H : Heap) : Prop :=
  (vx_Zq Bundle.tN "UNASSIGNED_STACK" Bundle.steD (gA G) U H ∧ vx_Zq Bundle.tN "SUPPRESSED_SENTINEL" Bundle.listD (gA G) U H) ∧
  (∀ q ∈ txRefs, vk_R q.1 q.2.1 q.2.2.1 (gK G q.2.2.2) U) ∧
  (∀ i : Nat, i < 7 → va_O "java/lang/String" (gK G i) (gA G) U H ∧ va_OF "java/lang/String" "coder" "B" (.int 0) (gK G i) (gA G) U H ∧ va_OF "java/lang/String" "value" "[B" (.ref (gV G i)) (gK G i) (gA G) U H ∧ va_T .byte (gV G i) (txB i).length (fun j => .int ((txB i).getD j 0)) (gA G) U H) ∧
  (va_Z "java/lang/Integer" "DigitTens" "[B" (.ref (gE G 0)) (gA G) U H ∧ va_T .byte (gE G 0) 100 (fun j => .int (nI (48 + j / 10))) (gA G) U H) ∧
  (va_Z "java/lang/Integer" "DigitOnes" "[B" (.ref (gE G 1)) (gA G) U H ∧ va_T .byte (gE G 1) 100 (fun j => .int (nI (48 + j % 10))) (gA G) U H) ∧
  va_T .int (gE G 2) (gE G 3) (fun j => .int (gF G j)) (gA G) U H ∧
  va_Z "java/lang/String" "COMPACT_STRINGS" "Z" (.int 1) (gA G) U H ∧ va_Zq "jdk/internal/util/Preconditions" "SIOOBE_FORMATTER" "Ljava/util/function/BiFunction;" (gA G) U H
theorem CI.next {G : Gl} {u U : State} {H H1 : Heap} (hW : u.WarmedH U.vm) (h : CI G u H) (hq : ∀ a : Nat, a < H.size → ¬ gA G a → H1[a]? = H[a]?) : CI G U H1 := by
  have hA := hW.alike
  obtain ⟨⟨h1, h2⟩, h3, h4, ⟨h5, h6⟩, ⟨h7, h8⟩, h9, h11, h12⟩ := h
  refine ⟨⟨(h1.moved hA).kept hq, (h2.moved hA).kept hq⟩, fun q hm => (h3 q hm).warm hW, fun i hi => ?_, ⟨(h5.moved hA).kept hq, (h6.moved hA).kept hq⟩, ⟨(h7.moved hA).kept hq, (h8.moved hA).kept hq⟩, (h9.moved hA).kept hq, (h11.moved hA).kept hq, (h12.moved hA).kept hq⟩
  obtain ⟨a1, a2, a3, a4⟩ := h4 i hi
  exact ⟨(a1.moved hA).kept hq, (a2.moved hA).kept hq, (a3.moved hA).kept hq, (a4.moved hA).kept hq⟩
/-- what every method may take for granted of the tables and of the constants -/
def GI (G : Gl) (U : State) : Prop :=
  va_K (gD G) vwCl (gT G) U ∧ (∀ w ∈ lw_tbl, nestW w = true → va_Nw w U) ∧ (va_AO "TrainDecoder$Railway" U ∧ va_AO "TrainDecoder$Train" U) ∧ CI G U U.heap
theorem GI.next {G : Gl} {u U : State} (h : GI G u) (hW : u.WarmedH U.vm) (hq : ∀ a : Nat, a < u.heap.size → ¬ gA G a → U.heap[a]? = u.heap[a]?) : GI G U := by
  have hA := hW.alike
  obtain ⟨h1, h2, ⟨h3, h4⟩, h6⟩ := h
  exact ⟨h1.moved hA, fun w hw hn => nestW_warm hn hW (h2 w hw hn), ⟨h3.moved hA, h4.moved hA⟩, h6.next hW hq⟩
/-- the heap function's cells stand in the heap -/
def HS (G : Gl) (σ : Hp) (H : Heap) : Prop := ∀ (a : Nat) (e : va_E), σ a = some e → gB G ≤ a ∧ va_at (gD G) vwCl (a, e) H
def HR (G : Gl) (s : State) (σ : Hp) (H : Heap) (locs : List Loc) : Prop := HS G σ H ∧ va_S (gA G) s.heap H locs
/-- locals: a list of places, each an int, a reference or null, or not known -/
abbrev LV : Type := Int32 ⊕ Option Nat
abbrev lI (x : Int32) : Option LV := some (.inl x)
abbrev lR (a : Nat) : Option LV := some (.inr (some a))
abbrev lQ (r : Option Nat) : Option LV := some (.inr r)
def toV : LV → Value
  | .inl x => .int x
  | .inr r => va_rf r
theorem toV_cat (v : LV) : (toV v).category = 1 := by
  rcases v with x | (_ | a) <;> rfl
def lget : List (Option LV) → Nat → Option LV
  | [], _ => none
  | x :: _, 0 => x
  | _ :: l, n + 1 => lget l n
def lset : List (Option LV) → Nat → LV → List (Option LV)
  | [], _, _ => []
  | _ :: l, 0, v => some v :: l
  | x :: l, n + 1, v => x :: lset l n v
def lal : Nat → List (Option LV) → List (Nat × Value)
  | _, [] => []
  | k, none :: l => lal (k + 1) l
  | k, some v :: l => (k, toV v) :: lal (k + 1) l
theorem lal_in : ∀ (L : List (Option LV)) (k i : Nat) (v : LV), lget L i = some v → (k + i, toV v) ∈ lal k L
  | [], k, i, v, h => by cases i <;> cases h
  | none :: l, k, 0, v, h => by cases h
  | some w :: l, k, 0, v, h => by
    have e : w = v := Option.some.inj h
    subst e
    exact List.mem_cons_self
  | none :: l, k, i + 1, v, h => by
    have h1 := lal_in l (k + 1) i v h
    rw [show k + 1 + i = k + (i + 1) by omega] at h1
    exact h1
  | some w :: l, k, i + 1, v, h => by
    have h1 := lal_in l (k + 1) i v h
    rw [show k + 1 + i = k + (i + 1) by omega] at h1
    exact List.mem_cons_of_mem _ h1
theorem lal_of : ∀ (L : List (Option LV)) (k : Nat) (q : Nat × Value), q ∈ lal k L → ∃ (i : Nat) (v : LV), q = (k + i, toV v) ∧ lget L i = some v
  | [], k, q, h => by cases h
  | none :: l, k, q, h => by
    obtain ⟨i, v, h1, h2⟩ := lal_of l (k + 1) q h
    exact ⟨i + 1, v, by rw [h1, show k + 1 + i = k + (i + 1) by omega], h2⟩
  | some w :: l, k, q, h => by
    rcases List.mem_cons.mp h with h | h
    · exact ⟨0, w, h, rfl⟩
    · obtain ⟨i, v, h1, h2⟩ := lal_of l (k + 1) q h
      exact ⟨i + 1, v, by rw [h1, show k + 1 + i = k + (i + 1) by omega], h2⟩
theorem lget_lset : ∀ (L : List (Option LV)) (i j : Nat) (v w : LV), lget (lset L i v) j = some w → (j = i ∧ w = v) ∨ (j ≠ i ∧ lget L j = some w)
  | [], i, j, v, w, h => by cases i <;> cases j <;> cases h
  | x :: l, 0, 0, v, w, h => Or.inl ⟨rfl, (Option.some.inj h).symm⟩
  | x :: l, 0, j + 1, v, w, h => Or.inr ⟨Nat.succ_ne_zero j, h⟩
  | x :: l, i + 1, 0, v, w, h => Or.inr ⟨fun e => Nat.noConfusion e, h⟩
  | x :: l, i + 1, j + 1, v, w, h => by
    rcases lget_lset l i j v w h with ⟨h1, h2⟩ | ⟨h1, h2⟩
    · exact Or.inl ⟨by rw [h1], h2⟩
    · exact Or.inr ⟨fun e => h1 (Nat.succ.inj e), h2⟩
def LR (ls : Array Slot) (n : Nat) (L : List (Option LV)) : Prop := lv_has ls n (lal 0 L)
theorem LR.get {ls : Array Slot} {n : Nat} {L : List (Option LV)} (h : LR ls n L) {i : Nat} {v : LV} (hv : lget L i = some v) : ls[i]? = some (.val (toV v)) := by
  have h1 := lal_in L 0 i v hv
  rw [Nat.zero_add] at h1
  exact h.2.2 _ h1
theorem lv_less {ls : Array Slot} {n : Nat} {l l1 : List (Nat × Value)} (h : lv_has ls n l) (hs : ∀ q ∈ l1, q ∈ l) : lv_has ls n l1 := ⟨h.1, h.2.1, fun q hq => h.2.2 q (hs q hq)⟩
theorem LR.stored {ls : Array Slot} {n : Nat} {L : List (Option LV)} {i : Nat} {v : LV} (h : lv_has ls n ((i, toV v) :: (lal 0 L).filter (fun q => !(q.1 == i) && !(q.1 + 1 == i && q.2.category == 2)))) : LR ls n (lset L i v) := by
  refine lv_less h fun q hq => ?_
  obtain ⟨j, w, e, hg⟩ := lal_of _ _ _ hq
  rw [Nat.zero_add] at e
  rcases lget_lset L i j v w hg with ⟨h1, h2⟩ | ⟨h1, h2⟩
  · rw [e, h1, h2]; exact List.mem_cons_self
  · refine List.mem_cons_of_mem _ (List.mem_filter.mpr ⟨?_, ?_⟩)
    · have h3 := lal_in L 0 j w h2
      rw [Nat.zero_add] at h3
      rw [e]; exact h3
    · rw [e]
      have h4 : ((toV w).category == 2) = false := by rw [toV_cat]; rfl
      have h5 : (j == i) = false := beq_eq_false_iff_ne.mpr h1
      simp [h4, h5]
theorem LR.less {ls : Array Slot} {n : Nat} {L L1 : List (Option LV)} (h : LR ls n L) (hs : ∀ (i : Nat) (v : LV), lget L1 i = some v → lget L i = some v) : LR ls n L1 := by
  refine lv_less h fun q hq => ?_
  obtain ⟨j, w, e, hg⟩ := lal_of _ _ _ hq
  rw [Nat.zero_add] at e
  have h3 := lal_in L 0 j w (hs j w hg)
  rw [Nat.zero_add] at h3
  rw [e]; exact h3
/-- a method: name, bytes, locals, what it returns, its table of handlers -/
abbrev Mx : Type := MethodName × ByteArray × Nat × Option FieldType × List (Nat × Nat × Nat × Nat)
abbrev mY (M : Mx) : MethodName := M.1
abbrev mB (M : Mx) : ByteArray := M.2.1
abbrev mL (M : Mx) : Nat := M.2.2.1
abbrev mR (M : Mx) : Option FieldType := M.2.2.2.1
abbrev mH (M : Mx) : List (Nat × Nat × Nat × Nat) := M.2.2.2.2
/-- a standing method's surroundings -/
abbrev Kx : Type := Program × Launch × Env × Room × State × MethodId × Array Value × List Frame × Method × Code × (State → Prop)
/-- from this frame, with locals L, stack st, heap σ and so much room to make cells, the machine comes to what is owed -/
def AW (G : Gl) (κ : Kx) (cs ss pc : Nat) (L : List (Option LV)) (st : List Value) (σ : Hp) : Prop :=
  match κ with
  | (p, l, e, R, s, m, args, below, meth, c, Z) => ∀ (H : Heap) (locs : List Loc) (cells slots : Nat) (ls : Array Slot), HR G s σ H locs → cells + cs ≤ R.cells → slots + ss ≤ R.slots → LR ls c.maxLocals L → W p l e R s m args below meth c H locs cells slots Z (F0 m pc ls st)
/-- a return instruction, and the value that it takes -/
def RetAt (cc : ByteArray) (pc : Nat) (ret : Option FieldType) (v : Option Value) : Prop :=
  (∃ (x : Int32) (ty : FieldType), v = some (.int x) ∧ decode cc pc = .ok (.ireturn, 1) ∧ ret = some ty ∧ narrow ty (.int x) = .int x) ∨
  (v = none ∧ decode cc pc = .ok (.return_, 1) ∧ ret = none) ∨
  (∃ (x : Option Nat) (ty : FieldType), v = some (va_rf x) ∧ decode cc pc = .ok (.areturn, 1) ∧ ret = some ty ∧ ((∃ n, ty = .object n) ∨ ∃ t, ty = .array t)) ∨
  (∃ x : UInt64, v = some (.double x) ∧ decode cc pc = .ok (.dreturn, 1) ∧ ret = some .double) ∨
  (∃ x : UInt32, v = some (.float x) ∧ decode cc pc = .ok (.freturn, 1) ∧ ret = some .float)
def gQc (G : Gl) (Q : Option Value → Hp → Prop) : Array Value → State → Outcome → State → Prop := fun _ st o t => (∃ (v : Option Value) (σ : Hp), o = .returned v ∧ Q v σ ∧ HS G σ t.heap) ∧ va_F (gA G) st t
def gXc (G : Gl) (X : String → Hp → Prop) : String → State → State → Prop := fun E st t => (∃ σ : Hp, X E σ ∧ HS G σ t.heap) ∧ va_F (gA G) st t
/-- the surroundings are those of method M, with room for d calls one in another, and Q (X) is what is owed where it returns (throws) -/
def Ok (G : Gl) (κ : Kx) (M : Mx) (d : Nat) (Q : Option Value → Hp → Prop) (X : String → Hp → Prop) : Prop :=
  match κ with
  | (p, l, e, R, s, m, args, below, meth, c, Z) =>
    (p.tables.exec = Jvm.exec ∧ c.code = mB M ∧ c.maxLocals = mL M ∧ meth.sig.returnType = mR M ∧ s.vm.findClass (mY M).cls = some m.cls ∧ meth.name = (mY M).name ∧ meth.locks = false ∧ c.exceptionTable.toList = tableOf (mH M)) ∧
    (l.stackTraces = false ∧ d ≤ R.frames ∧ 38 * d ≤ R.locals) ∧
    ((∀ w ∈ lw_tbl, goodWord w = true → w.before args s = true) ∧ GI G s ∧ gB G ≤ s.heap.size) ∧
    (∀ (v : Option Value) (σ : Hp) (H : Heap) (locs : List Loc) (cells slots pc : Nat) (ls : Array Slot), Q v σ → HR G s σ H locs → cells ≤ R.cells → slots ≤ R.slots → RetAt (mB M) pc (mR M) v → W p l e R s m args below meth c H locs cells slots Z (F0 m pc ls v.toList)) ∧
    ((∀ (E : String) (σ : Hp), ¬ X E σ) ∨ Z = vx_MQ below (gQc G Q) (gXc G X) args s R.cells R.slots (gA G))
