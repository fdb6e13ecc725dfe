/-! calls of methods with handlers, calls from such methods -/
/-- no exception of the class is of the other's -/
def yC (C T : String) (U : State) : Prop := ∃ c t : ClassId, U.vm.findClass C = some c ∧ U.vm.findClass T = some t ∧ U.vm.assignable c t = true
theorem yC.moved {C T : String} {u U : State} (hvm : u.vm.Alike U.vm) (h : yC C T u) : yC C T U := by
  obtain ⟨c, t, h1, h2, h3⟩ := h
  exact ⟨c, t, by rw [hvm.findClass]; exact h1, by rw [hvm.findClass]; exact h2, by rw [hvm.assignable]; exact h3⟩
def NcS (U : State) : Prop := (va_Nc "java/lang/IllegalStateException" "java/lang/IllegalArgumentException" U ∧ va_Nc "java/lang/IllegalStateException" "java/lang/IndexOutOfBoundsException" U ∧ va_Nc "java/lang/IllegalArgumentException" "java/lang/IndexOutOfBoundsException" U) ∧ yC "java/lang/IllegalStateException" "java/lang/IllegalStateException" U ∧ yC "java/lang/IllegalArgumentException" "java/lang/IllegalArgumentException" U ∧ yC "java/lang/IndexOutOfBoundsException" "java/lang/IndexOutOfBoundsException" U
theorem NcS.moved {u U : State} (h : NcS u) (hv : u.vm.Alike U.vm) : NcS U := ⟨⟨h.1.1.moved hv, h.1.2.1.moved hv, h.1.2.2.moved hv⟩, h.2.1.moved hv, h.2.2.1.moved hv, h.2.2.2.moved hv⟩
section CatchY
variable {p : Program} {l : Launch} {e : Env} {R : Room} {s : State} {m : MethodId} {args : Array Value} {below : List Frame} {meth : Method} {c : Code} {H : Heap} {locs : List Loc} {cells slots : Nat} {Q : State → Prop} {pc : Nat} {ls : Array Slot} {rest : List Value}
theorem catchY {own name : String} {E : String} {ce : Cell} {q : Addr} (hown : s.vm.findClass own = some m.cls) (pre : List ExceptionTableEntry) (x : ExceptionTableEntry) (suf : List ExceptionTableEntry) (hsplit : c.exceptionTable.toList = pre ++ x :: suf)
    (hpass : ∀ z ∈ pre, covers z pc = false ∨ (z.catchType ≠ 0 ∧ ∃ nm : String, (Cond.classLink own z.catchType nm).before args s = true ∧ va_Nc E nm s)) (hx : covers x pc = true) (h0 : x.catchType ≠ 0)
    (hlink : (Cond.classLink own x.catchType name).before args s = true) (hcast : yC E name s) (hcell : H[q]? = some ce) (hv : ce.vm = .none) (hcl : s.vm.findClass E = some ce.cls)
    (kk : W p l e R s m args below meth c H locs cells slots Q (F0 m x.handlerPc ls [.ref q])) : vx_W p l e R s m args below meth c H locs cells slots Q (F0 m pc ls rest) q := by
  intro T hT X
  have hpl : e.platform.magicAccessors = ({} : Platform).magicAccessors := by rw [X.admits.platform]
  obtain ⟨c3, c4, hc3, hc4, hasg⟩ := hcast
  cases Option.some.inj (hc3.symm.trans hcl)
  obtain ⟨c5, hc5, hcl5⟩ := Cond.classLink_spec hown hlink e.platform hpl
  cases Option.some.inj (hc4.symm.trans hc5)
  obtain ⟨vm', X', st⟩ := X.thenCaughtThrough q (g := F0 m pc ls rest) rfl (Steps.refl _) (by rw [hT]; exact hcell) (by rw [hv]; rfl) (by obtain ⟨k9, h9, -⟩ := Vm.findClass_spec hcl; exact ⟨k9, h9⟩) pre x suf hsplit
    (fun z hz => by
      rcases hpass z hz with h | ⟨hz0, nm, hl1, hn1⟩
      · exact Or.inl h
      · obtain ⟨c6, hc6, hcl6⟩ := Cond.classLink_spec hown hl1 e.platform hpl
        obtain ⟨a8, b8, h1, h2, h3⟩ := hn1
        cases Option.some.inj (h1.symm.trans hcl)
        cases Option.some.inj (h2.symm.trans hc6)
        exact Or.inr ⟨hz0, _, hcl6, h3⟩) hx (Or.inr ⟨h0, c4, hcl5, hasg⟩)
  obtain ⟨t, a1, b1⟩ := kk (T.setVm vm') hT X'
  exact ⟨t, st.trans a1, b1⟩
end CatchY
def NcK (κ : Kx) : Prop :=
  match κ with
  | (_, _, _, _, s, _, _, _, _, _, _) => NcS s
def MOkH (M : Mx) (n : Nat) : Prop :=
  plainName (mY M).cls = true ∧ Cond.codeWith (mY M) (mB M) (mL M) (mR M) (mH M) ∈ lw_tbl ∧ Cond.initialized (mY M).cls ∈ lw_tbl ∧ ((mY M).cls ≠ "java/lang/invoke/MethodHandle" ∧ (mY M).cls ≠ "java/lang/invoke/VarHandle") ∧ (parseMethodDescriptor (mY M).desc).map (fun d => d.parameters.length) = some n ∧ mL M ≤ 40
def mWH (M : Mx) : List Cond := Cond.codeWith (mY M) (mB M) (mL M) (mR M) (mH M) :: lw_tbl.filter goodWord
def gPcN (G : Gl) (σ : Hp) (vs : List Value) : Array Value → State → Prop := fun a U => gPc G σ vs a U ∧ NcS U
theorem gPcN_blind (G : Gl) (σ : Hp) (vs : List Value) : FrameBlind (gPcN G σ vs) := by
  intro a U g mk h
  exact ⟨gPc_blind G σ vs a U g mk h.1, h.2.moved (State.WarmedH.refl U).alike⟩
theorem met_ofH {l : Launch} (hl : l.stackTraces = false) {G : Gl} {M : Mx} {d mc ms n : Nat} {σ : Hp} {As : List LV} {Q : Option Value → Hp → Prop} {X : String → Hp → Prop} (hm : MOkH M n) (hlen : As.length ≤ mL M)
    (body : ∀ κ : Kx, Ok G κ M d Q X → NcK κ → AW G κ mc ms 0 (argL As (mL M)) [] σ) : vx_Met l (mY M) (mWH M) (mRm d mc ms) (gPcN G σ (As.map toV)) (gQc G Q) (gXc G X) mc ms (gA G) := by
  refine vx_ofWH (cc := mB M) (maxL := mL M) (ret := mR M) (hh := mH M) hm.1 rfl ?_
  intro p e s m args below meth c s₁ B hml hv
  obtain ⟨⟨rfl, hgi, hhs, hbase⟩, hnc⟩ := hv
  have hts := atoms_spec (ws := mWH M) B.pre
  have htab : c.exceptionTable.toList = tableOf (mH M) := vx_table (x := mY M) B (hts _ List.mem_cons_self)
  have hok : Ok G (p, l, e, (headSpec (mWH M) (mRm d mc ms)).room, s, m, (As.map toV).toArray, below, meth, c, vx_MQ below (gQc G Q) (gXc G X) (As.map toV).toArray s mc ms (gA G)) M d Q X := by
    refine ⟨⟨B.exec, B.bytes, hml, B.returns, findClass_of_methodNamed B.named, (name_of_methodNamed B.named B.method).1, B.notSynchronized, htab⟩, ⟨hl, Nat.le_refl _, Nat.le_refl _⟩, ⟨fun w hw hg => hts w (List.mem_cons_of_mem _ (List.mem_filter.mpr ⟨hw, hg⟩)), hgi, hbase⟩, ?_, Or.inr rfl⟩
    intro v σ1 H locs cells slots pc ls hq hH hc hs hr
    have hend : ∀ t : State, t.heap = H → s.WarmedH t.vm → gQc G Q (As.map toV).toArray s (.returned v) t := fun t h1 h2 => ⟨⟨v, σ1, rfl, hq, by rw [h1]; exact hH.1⟩, hH.2.F h1⟩
    refine W.widen (k := mc) (n := ms) hc hs (vx_ret ?_)
    rcases hr with ⟨x, ty, rfl, hd, hty, hn⟩ | ⟨rfl, hd, hty⟩ | ⟨x, ty, rfl, hd, hty, ho⟩
    · exact W.zret B.exec B.bytes (B.returns.trans hty) hn hend hH.2.2.2 hd B.notSynchronized
    · exact W.vret B.exec B.bytes (B.returns.trans hty) hend hH.2.2.2 hd B.notSynchronized
    · exact W.aret B.exec B.bytes (B.returns.trans hty) ho (by cases x; exact Or.inl rfl; exact Or.inr ⟨_, rfl⟩) hend hH.2.2.2 hd B.notSynchronized
  have hk := body _ hok hnc
  have hle := lv_entry (As.map toV) (n := mL M) (by rw [lg_sl_V]; exact hlen)
  rw [lg_entry_eq]
  refine hk s.heap [] 0 0 _ ⟨hhs, va_S.rf⟩ (Nat.le_of_eq (Nat.zero_add _)) (Nat.le_of_eq (Nat.zero_add _)) ?_
  show lv_has _ c.maxLocals (lal 0 (argL As (mL M)))
  unfold argL
  rw [hml, lal_args]
  exact hle
section HandlerRules
variable {G : Gl} {κ : Kx} {M : Mx} {d : Nat} {Q : Option Value → Hp → Prop} {X : String → Hp → Prop} {cs ss pc : Nat} {L : List (Option LV)} {st : List Value} {σ : Hp}
/-- an exception E thrown at pc is caught, and goes on at h -/
def CatchAt (κ : Kx) (M : Mx) (pc : Nat) (E : String) (h : Nat) : Prop :=
  ∃ (pre : List ExceptionTableEntry) (x : ExceptionTableEntry) (suf : List ExceptionTableEntry) (name : String), tableOf (mH M) = pre ++ x :: suf ∧ (∀ z ∈ pre, covers z pc = false ∨ (z.catchType ≠ 0 ∧ ∃ nm : String, Cond.classLink (mY M).cls z.catchType nm ∈ lw_tbl ∧ (match κ with | (_, _, _, _, s, _, _, _, _, _, _) => va_Nc E nm s))) ∧ covers x pc = true ∧ x.catchType ≠ 0 ∧ Cond.classLink (mY M).cls x.catchType name ∈ lw_tbl ∧ (match κ with | (_, _, _, _, s, _, _, _, _, _, _) => yC E name s) ∧ x.handlerPc = h
theorem aw_backH {p l e R s m args below meth c Z} (hΓ : Ok G (p, l, e, R, s, m, args, below, meth, c, Z) M d Q X) {X2 : String → Hp → Prop} {mc ms : Nat} {H : Heap} {locs : List Loc} {cells slots : Nat} {ls : Array Slot} {st0 : List Value} {a : Array Value}
    (hX : ∀ (E : String) (σ1 : Hp), X2 E σ1 → ∃ h, CatchAt (p, l, e, R, s, m, args, below, meth, c, Z) M pc E h ∧ ∀ q : Nat, AW G (p, l, e, R, s, m, args, below, meth, c, Z) cs ss h L [.ref q] σ1)
    (hH : HR G s σ H locs) (hc : cells + (cs + mc) ≤ R.cells) (hs : slots + (ss + ms) ≤ R.slots) (hL : LR ls c.maxLocals L)
    (hr : vx_Run p l e R s m args below meth c H locs cells slots mc ms (F0 m pc ls st0) st (gQc G (KV G (p, l, e, R, s, m, args, below, meth, c, Z) cs ss (pc + 3) L st) a) (gXc G X2) (gA G)) : W p l e R s m args below meth c H locs cells slots Z (F0 m pc ls st0) := by
  intro T hT Xs
  rcases hr T hT Xs with ⟨v, st1, t, T1, L1, h0, X1, hfree, e1, e2, ⟨⟨v1, σ1, ho, hq, hs1⟩, hF⟩, go⟩ | ⟨q, st1, t, T1, L1, E, ce, h0, X1, hfree, e1, e2, ⟨⟨σ1, hx, hs1⟩, hF⟩, hce, hcv, hcl, steps⟩
  · cases ho
    have hR : HR G s σ1 T1.heap (locs ++ L1) := ⟨by rw [e1]; exact hs1, (vx_keep h0 e1 hH.2 (fun _ _ h => h) (fun _ h => h) hfree hF).2.2⟩
    cases v with
    | none =>
      obtain ⟨t2, a1, b1⟩ := hq T1.heap (locs ++ L1) (cells + mc) (slots + ms) ls hR (by omega) (by omega) hL T1 rfl X1
      exact ⟨t2, go t2 a1, b1⟩
    | some v =>
      obtain ⟨t2, a1, b1⟩ := hq T1.heap (locs ++ L1) (cells + mc) (slots + ms) ls hR (by omega) (by omega) hL T1 rfl X1
      exact ⟨t2, go t2 a1, b1⟩
  · have hR : HR G s σ1 T1.heap (locs ++ L1) := ⟨by rw [e1]; exact hs1, (vx_keep h0 e1 hH.2 (fun _ _ h => h) (fun _ h => h) hfree hF).2.2⟩
    obtain ⟨h9, ⟨pre, x, suf, name, k1, k2, k3, k4, k5, k6, k7⟩, hk⟩ := hX E σ1 hx
    obtain ⟨t2, a1, b1⟩ := catchY (p := p) (l := l) (e := e) (R := R) (args := args) (below := below) (meth := meth) (ls := ls) (rest := st) (H := T1.heap) (locs := locs ++ L1) (cells := cells + mc) (slots := slots + ms) (Q := Z) hΓ.own pre x suf (by rw [hΓ.1.2.2.2.2.2.2.2]; exact k1)
      (fun z hz => by
        rcases k2 z hz with h | ⟨h1, nm, h2, h3⟩
        · exact Or.inl h
        · exact Or.inr ⟨h1, nm, hΓ.word h2 rfl, h3⟩) k3 k4 (hΓ.word k5 rfl) k6 (by rw [e1]; exact hce) hcv hcl
      (by rw [k7]; exact hk q T1.heap (locs ++ L1) (cells + mc) (slots + ms) ls hR (by omega) (by omega) hL) T1 rfl X1
    exact ⟨t2, steps.trans a1, b1⟩
/-- a method of an object, its exceptions caught here -/
theorem aw_invVH (hΓ : Ok G κ M (d + 1) Q X) {M2 : Mx} {index n b ci : Nat} {C : String} {T : u_T} {N : Nat} {ty : Nat → FieldType} {fs : List Value} (As : List LV) (mc ms : Nat) (X2 : String → Hp → Prop) (hX : ∀ (E : String) (σ1 : Hp), X2 E σ1 → ∃ h, CatchAt κ M pc E h ∧ ∀ q : Nat, AW G κ cs ss h L [.ref q] σ1) (hm : MOk M2 n) (hC : ClsOk ci C T N ty) (hcls : (mY M2).cls = C) (hin : Cond.instanceMethod (mY M2) ∈ lw_tbl) (hsel : Cond.selects C (mY M2) (mY M2) ∈ lw_tbl) (hlink : Cond.methodLink (mY M).cls index (mY M2) ∈ lw_tbl) (hn : As.length = n) (hlen : As.length + 1 ≤ mL M2) (hst : (st.map fun v => v.category).sum ≤ 8) (hd : decode (mB M) pc = .ok (.invokevirtual index, 3)) (hσ : σ b = some (.inr (ci, fs)))
    (body : ∀ κ2 : Kx, Ok G κ2 M2 d (KV G κ cs ss (pc + 3) L st) X2 → AW G κ2 mc ms 0 (argL (.inr (some b) :: As) (mL M2)) [] σ) : AW G κ (cs + mc) (ss + ms) pc L ((As.map toV).reverse ++ .ref b :: st) σ := by
  obtain ⟨p, l, e, R, s, m, args, below, meth, c, Z⟩ := κ
  intro H locs cells slots ls hH hc hs hL
  obtain ⟨ws, hP, hD, hall⟩ := hH.1.ls
  obtain ⟨q0, he⟩ := hall _ _ hσ
  refine aw_backH (X2 := X2) (a := ((.inr (some b) :: As : List LV).map toV).toArray) hΓ hX hH hc hs hL (vx_runV (n := n) (C := C) (b := b) (As := As.map toV) hΓ.fix (met_of (As := .inr (some b) :: As) hΓ.2.1.1 hm hlen body) ⟨hm.callB hΓ hlink, hΓ.word hin rfl, hΓ.word hsel rfl⟩ ⟨(hΓ.pre hH _).1, va_recv hΓ.isK hP hC.1 he, (hΓ.pre hH _).2⟩ rfl (by rw [List.length_map]; exact hn) hL.1 rfl ?_ hd ⟨by omega, by omega⟩)
  show 2 * 0 + (st.map fun v => v.category).sum ≤ 8
  omega
/-- a static method with handlers -/
theorem aw_invSH (hΓ : Ok G κ M (d + 1) Q X) (hN : NcK κ) {M2 : Mx} {index n : Nat} (As : List LV) (mc ms : Nat) (hH0 : mH M = []) (hm : MOkH M2 n) (hstat : Cond.static (mY M2) ∈ lw_tbl) (hlink : Cond.methodLink (mY M).cls index (mY M2) ∈ lw_tbl) (hn : As.length = n) (hlen : As.length ≤ mL M2) (hst : (st.map fun v => v.category).sum ≤ 8) (hd : decode (mB M) pc = .ok (.invokestatic index, 3))
    (body : ∀ κ2 : Kx, Ok G κ2 M2 d (KV G κ cs ss (pc + 3) L st) X → NcK κ2 → AW G κ2 mc ms 0 (argL As (mL M2)) [] σ) : AW G κ (cs + mc) (ss + ms) pc L ((As.map toV).reverse ++ st) σ := by
  obtain ⟨p, l, e, R, s, m, args, below, meth, c, Z⟩ := κ
  intro H locs cells slots ls hH hc hs hL
  have hf : d + 1 ≤ R.frames := hΓ.2.1.2.1
  have hlo : 64 * (d + 1) ≤ R.locals := hΓ.2.1.2.2
  have h40 := hm.2.2.2.2.2
  have hpre := hΓ.pre hH (As.map toV)
  refine aw_back (a := (As.map toV).toArray) hΓ hH0 hH hc hs hL (vx_runSX (n := n) (hh := mH M2) (bytes := mB M2) (maxL := mL M2) (ret := mR M2) (As := As.map toV) hΓ.fix (met_ofH hΓ.2.1.1 hm hlen body) ⟨⟨rfl, rfl, hf, ?_, ?_, List.mem_cons_self⟩, hΓ.word hm.2.1 rfl, hΓ.word hm.2.2.1 rfl, hm.2.2.2.1, fun sig h => ?_, hΓ.word hlink rfl, hΓ.word hstat rfl⟩ ⟨gPcN_blind G σ _, fun U hU hW => ⟨hpre.2 U hU hW, NcS.moved hN hW.alike⟩⟩ rfl (by rw [List.length_map]; exact hn) hL.1 rfl ?_ hd ⟨by omega, by omega⟩)
  · show 8 + (mL M2 + 11) + 64 * d ≤ R.locals
    omega
  · refine pay_in hΓ.lays (fun w hw => ?_)
    rcases List.mem_cons.mp hw with h | h
    · rw [h]; exact ⟨List.mem_filter.mpr ⟨hm.2.1, rfl⟩, good_of_word rfl⟩
    · exact ⟨h, good_of_word (List.mem_filter.mp h).2⟩
  · have h2 := hm.2.2.2.2.1
    rw [h] at h2
    exact (Option.some.inj h2).symm
  · show 2 * 0 + (st.map fun v => v.category).sum ≤ 8
    omega
end HandlerRules
