/-! ===== BEGIN a constructor that throws (launches without stack traces) ===== -/
section VXIA
variable {p : Program} {l : Launch} {e : Env} {R : Room} {s : State} {m : MethodId} {args : Array Value} {below : List Frame} {meth : Method} {c : Code} {T : State} {locs : List Loc} {cells slots : Nat}
theorem vx_callI (X : Stand p l e R s m args below meth c T locs cells slots) (hexec : p.tables.exec = Jvm.exec) {own : String} {index : Nat} {y : MethodName} {bytes : ByteArray} {maxL : Nat}
    (hown : s.vm.findClass own = some m.cls) (hy1 : y.name = "<init>") (hlink : (Cond.methodLink own index y).before args s = true) (hinst : (Cond.instanceMethod y).before args s = true)
    (hcode : (Cond.code y bytes maxL none).before args s = true) (hy : y.cls ≠ "java/lang/invoke/MethodHandle" ∧ y.cls ≠ "java/lang/invoke/VarHandle")
    {W9 : Nat} {Pre : Pt → Array Value → Prop} {Post : Pt → Array Value → Option Value → Pt → Prop} {PostX : Pt → Array Value → Addr → Pt → Prop} (hK : vx_Back l R p e below s args y 3 W9 Pre Post PostX)
    {g : JFrame} (hg : g.method = m) (hsize : g.locals.size = c.maxLocals) {a : Addr} {argsL rest : List Value} (hlen : ∀ sig, parseMethodDescriptor y.desc = some sig → argsL.length = sig.parameters.length)
    (hstack : g.stack = argsL.reverse ++ .ref a :: rest) (hW : 2 * g.monitorRoom + (rest.map fun v => v.category).sum ≤ W9) (hdg : decode c.code g.pc = .ok (.invokespecial index, 3))
    (hpre : ∀ vm₁, s.WarmedH vm₁ → Pre ⟨T.setVm vm₁, locs, cells, slots⟩ (Value.ref a :: argsL).toArray) :
    (∃ (v : Option Value) (vm₁ : Vm) (B : Pt), s.WarmedH vm₁ ∧ Stand p l e R s m args below meth c B.U B.locs B.cells B.slots ∧ Post ⟨T.setVm vm₁, locs, cells, slots⟩ (Value.ref a :: argsL).toArray v B ∧
      ∀ target, Steps p.tables e below (B.U.setTop { g with pc := g.pc + 3, stack := v.toList ++ rest }) target → Steps p.tables e below (T.setTop g) target) ∨
    (∃ (q : Addr) (vm₁ : Vm) (B : Pt), s.WarmedH vm₁ ∧ Stand p l e R s m args below meth c B.U B.locs B.cells B.slots ∧ PostX ⟨T.setVm vm₁, locs, cells, slots⟩ (Value.ref a :: argsL).toArray q B ∧
      Steps p.tables e below (T.setTop g) ((B.U.setTop { g with stack := rest }).pushFrame (.throwing q))) := by
  subst hg
  have hpl : e.platform.magicAccessors = ({} : Platform).magicAccessors := by rw [X.admits.platform]
  obtain ⟨mk, methM, cM, kP, vm₁, hnamed, hmethM, hcodeM, -, hlocalsM, -, hkP, -, hW₁, hstep₁⟩ := Steps.initColdArgs (e := e) X.here hexec X.warmed hpl hown hy1 hy hlink hinst hcode (f := g) rfl hlen hstack hdg
  have X₁ := X.noted hW₁
  rcases hK g.method meth c ⟨T.setVm vm₁, locs, cells, slots⟩ { g with stack := rest } (.invokespecial index) mk (Value.ref a :: argsL).toArray X₁ rfl hsize hdg hW (X₁.named hnamed) (hpre vm₁ X₁.warmed) with ⟨v, B, X', hpost, hsteps⟩ | ⟨q, B, X', hpost, hsteps⟩
  · exact Or.inl ⟨v, vm₁, B, X₁.warmed, X', hpost, fun target h => hstep₁ _ fun acts => by rw [doInvoke_state]; exact hsteps.trans h⟩
  · exact Or.inr ⟨q, vm₁, B, X₁.warmed, X', hpost, hstep₁ _ fun acts => by rw [doInvoke_state]; exact hsteps⟩
end VXIA
section VXIB
variable {p : Program} {l : Launch} {e : Env} {R : Room} {s : State} {m : MethodId} {args : Array Value} {below : List Frame} {meth : Method} {c : Code} {H : Heap} {locs : List Loc} {cells slots : Nat}
variable {y : MethodName} {bytes cc : ByteArray} {maxL nL mc ms n index : Nat} {ret : Option FieldType} {ws : List Cond} {rm : Room} {Pc : Array Value → State → Prop} {Qc : Array Value → State → Outcome → State → Prop} {XC : String → State → State → Prop} {free : Addr → Prop} {Ts : List Cond} {own C : String} {b : Addr} {As rest : List Value} {g : JFrame}
theorem vx_runI (S : CallFix p m c cc nL s args Ts own) (hM : vx_Met l y ws rm Pc Qc XC mc ms free) (cw : CallB R s args own index y bytes maxL none ws rm mc ms n ∧ y.name = "<init>" ∧ (Cond.instanceMethod y).before args s = true) (hp : PreS s H Pc (.ref b :: As))
    (hg : g.method = m) (hn : As.length = n) (hsize : g.locals.size = nL) (hstack : g.stack = As.reverse ++ .ref b :: rest) (hW : 2 * g.monitorRoom + (rest.map fun v => v.category).sum ≤ 8) (hdg : decode cc g.pc = .ok (.invokespecial index, 3)) (hf : cells + mc ≤ R.cells ∧ slots + ms ≤ R.slots) :
    vx_Run p l e R s m args below meth c H locs cells slots mc ms g rest (Qc (Value.ref b :: As).toArray) XC free := by
  have hK : vx_Back l R p e below s args y 3 8 (PreOf R mc ms Pc) (PostOf Qc mc ms free) (vx_Post XC mc ms free) := vx_callBack cw.1 hM hp.1
  obtain ⟨⟨-, -, -, -, -, -, hcode, -, hy, hlen, hl⟩, hy1, hin⟩ := cw
  obtain ⟨hx, hb, hml, ho, -⟩ := S
  have hPc := hp.2
  intro T hT X
  rcases vx_callI X hx (bytes := bytes) (maxL := maxL) ho hy1 hl hin hcode hy hK hg (hsize.trans hml.symm) (a := b) (argsL := As) (rest := rest) (fun sig h => hn.trans (hlen sig h)) hstack hW (by rw [hb]; exact hdg)
    (fun vm₁ hW₁ => ⟨hf.1, hf.2, hPc (T.setVm vm₁) hT hW₁⟩) with ⟨v, vm₁, ⟨U', l2, c2, s2⟩, hW₁, X', ⟨g', mk, t, L, e1, e2, hq, h1, hL, h2, h3⟩, st⟩ | ⟨q, vm₁, ⟨U', l2, c2, s2⟩, hW₁, X', ⟨g', mk, t, L, E, ce, e1, e2, hq, hce, hcv, hcl, h1, hL, h2, h3⟩, st⟩
  · dsimp only [Pt.U, Pt.locs, Pt.cells, Pt.slots] at X' e1 e2 h1 h2 h3 st
    subst h1; subst h2; subst h3
    exact Or.inl ⟨v, (T.setVm vm₁).calling g' mk (Value.ref b :: As).toArray, t, U', L, hT, X', hL, e1, e2, hq, st⟩
  · dsimp only [Pt.U, Pt.locs, Pt.cells, Pt.slots] at X' e1 e2 h1 h2 h3 st hcl
    subst h1; subst h2; subst h3
    exact Or.inr ⟨q, (T.setVm vm₁).calling g' mk (Value.ref b :: As).toArray, t, U', L, E, ce, hT, X', hL, e1, e2, hq, hce, hcv, vx_cls hW₁ hcl, st⟩
end VXIB
/-! ===== END ===== -/
/-! ===== BEGIN a private constructor of a nest mate that throws ===== -/
section VXIC
variable {p : Program} {l : Launch} {e : Env} {R : Room} {s : State} {m : MethodId} {args : Array Value} {below : List Frame} {meth : Method} {c : Code} {T : State} {locs : List Loc} {cells slots : Nat}
theorem vx_callIN (X : Stand p l e R s m args below meth c T locs cells slots) (hexec : p.tables.exec = Jvm.exec) {own : String} {index : Nat} {host : String} {y : MethodName} {bytes : ByteArray} {maxL : Nat}
    (hown : s.vm.findClass own = some m.cls) (hy1 : y.name = "<init>") (hlink : (Cond.methodLinkNest own index y host).before args s = true) (hinst : (Cond.instanceMethod y).before args s = true)
    (hcode : (Cond.code y bytes maxL none).before args s = true) (hy : y.cls ≠ "java/lang/invoke/MethodHandle" ∧ y.cls ≠ "java/lang/invoke/VarHandle")
    {W9 : Nat} {Pre : Pt → Array Value → Prop} {Post : Pt → Array Value → Option Value → Pt → Prop} {PostX : Pt → Array Value → Addr → Pt → Prop} (hK : vx_Back l R p e below s args y 3 W9 Pre Post PostX)
    {g : JFrame} (hg : g.method = m) (hsize : g.locals.size = c.maxLocals) {a : Addr} {argsL rest : List Value} (hlen : ∀ sig, parseMethodDescriptor y.desc = some sig → argsL.length = sig.parameters.length)
    (hstack : g.stack = argsL.reverse ++ .ref a :: rest) (hW : 2 * g.monitorRoom + (rest.map fun v => v.category).sum ≤ W9) (hdg : decode c.code g.pc = .ok (.invokespecial index, 3))
    (hpre : ∀ vm₁, s.WarmedH vm₁ → Pre ⟨T.setVm vm₁, locs, cells, slots⟩ (Value.ref a :: argsL).toArray) :
    (∃ (v : Option Value) (vm₁ : Vm) (B : Pt), s.WarmedH vm₁ ∧ Stand p l e R s m args below meth c B.U B.locs B.cells B.slots ∧ Post ⟨T.setVm vm₁, locs, cells, slots⟩ (Value.ref a :: argsL).toArray v B ∧
      ∀ target, Steps p.tables e below (B.U.setTop { g with pc := g.pc + 3, stack := v.toList ++ rest }) target → Steps p.tables e below (T.setTop g) target) ∨
    (∃ (q : Addr) (vm₁ : Vm) (B : Pt), s.WarmedH vm₁ ∧ Stand p l e R s m args below meth c B.U B.locs B.cells B.slots ∧ PostX ⟨T.setVm vm₁, locs, cells, slots⟩ (Value.ref a :: argsL).toArray q B ∧
      Steps p.tables e below (T.setTop g) ((B.U.setTop { g with stack := rest }).pushFrame (.throwing q))) := by
  subst hg
  have hpl : e.platform.magicAccessors = ({} : Platform).magicAccessors := by rw [X.admits.platform]
  obtain ⟨mk, methM, cM, kP, vm₁, hnamed, hmethM, hcodeM, -, hlocalsM, -, hkP, -, hW₁, hstep₁⟩ := Steps.initColdArgsNest (e := e) X.here hexec X.warmed hpl hown hy1 hy hlink hinst hcode (f := g) rfl hlen hstack hdg
  have X₁ := X.noted hW₁
  rcases hK g.method meth c ⟨T.setVm vm₁, locs, cells, slots⟩ { g with stack := rest } (.invokespecial index) mk (Value.ref a :: argsL).toArray X₁ rfl hsize hdg hW (X₁.named hnamed) (hpre vm₁ X₁.warmed) with ⟨v, B, X', hpost, hsteps⟩ | ⟨q, B, X', hpost, hsteps⟩
  · exact Or.inl ⟨v, vm₁, B, X₁.warmed, X', hpost, fun target h => hstep₁ _ fun acts => by rw [doInvoke_state]; exact hsteps.trans h⟩
  · exact Or.inr ⟨q, vm₁, B, X₁.warmed, X', hpost, hstep₁ _ fun acts => by rw [doInvoke_state]; exact hsteps⟩
end VXIC
section VXID
variable {p : Program} {l : Launch} {e : Env} {R : Room} {s : State} {m : MethodId} {args : Array Value} {below : List Frame} {meth : Method} {c : Code} {H : Heap} {locs : List Loc} {cells slots : Nat}
theorem vx_runIN {y : MethodName} {bytes cc : ByteArray} {maxL nL mc ms n index : Nat} {ws : List Cond} {rm : Room} {Pc : Array Value → State → Prop} {Qc : Array Value → State → Outcome → State → Prop} {XC : String → State → State → Prop} {free : Addr → Prop} {Ts : List Cond} {own host : String} {b : Addr} {As rest : List Value} {g : JFrame}
    (S : CallFix p m c cc nL s args Ts own) (hM : vx_Met l y ws rm Pc Qc XC mc ms free) (cw : va_CN R s args own index y host bytes maxL none ws rm mc ms n ∧ y.name = "<init>" ∧ (Cond.instanceMethod y).before args s = true) (hp : PreS s H Pc (.ref b :: As))
    (hg : g.method = m) (hn : As.length = n) (hsize : g.locals.size = nL) (hstack : g.stack = As.reverse ++ .ref b :: rest) (hW : 2 * g.monitorRoom + (rest.map fun v => v.category).sum ≤ 8) (hdg : decode cc g.pc = .ok (.invokespecial index, 3)) (hf : cells + mc ≤ R.cells ∧ slots + ms ≤ R.slots) :
    vx_Run p l e R s m args below meth c H locs cells slots mc ms g rest (Qc (Value.ref b :: As).toArray) XC free := by
  obtain ⟨⟨⟨hrc, hrs, hfr, hlo, hws, hcw⟩, hcode, hini, hy, hlen, hl⟩, hx1, hx2⟩ := cw
  have hK : vx_Back l R p e below s args y 3 8 (PreOf R mc ms Pc) (PostOf Qc mc ms free) (vx_Post XC mc ms free) := vx_back (bytes := bytes) (maxL := maxL) (ret := none) hM hp.1 hrc hrs hfr hlo hws hcw (fun a' U hW => word_at hW (Or.inl (by first | rfl | simp [Cond.onTables, Cond.keeps, Cond.steady])) hini)
  obtain ⟨hx, hb, hml, ho, -⟩ := S
  have hPc := hp.2
  intro T hT X
  rcases vx_callIN X hx (bytes := bytes) (maxL := maxL) ho hx1 hl hx2 hcode hy hK hg (hsize.trans hml.symm) (a := b) (argsL := As) (rest := rest) (fun sig h => hn.trans (hlen sig h)) hstack hW (by rw [hb]; exact hdg)
    (fun vm₁ hW₁ => ⟨hf.1, hf.2, hPc (T.setVm vm₁) hT hW₁⟩) with ⟨v, vm₁, ⟨U', l2, c2, s2⟩, hW₁, X', ⟨g', mk, t, L, e1, e2, hq, h1, hL, h2, h3⟩, st⟩ | ⟨q, vm₁, ⟨U', l2, c2, s2⟩, hW₁, X', ⟨g', mk, t, L, E, ce, e1, e2, hq, hce, hcv, hcl, h1, hL, h2, h3⟩, st⟩
  · dsimp only [Pt.U, Pt.locs, Pt.cells, Pt.slots] at X' e1 e2 h1 h2 h3 st
    subst h1; subst h2; subst h3
    exact Or.inl ⟨v, (T.setVm vm₁).calling g' mk (Value.ref b :: As).toArray, t, U', L, hT, X', hL, e1, e2, hq, st⟩
  · dsimp only [Pt.U, Pt.locs, Pt.cells, Pt.slots] at X' e1 e2 h1 h2 h3 st hcl
    subst h1; subst h2; subst h3
    exact Or.inr ⟨q, (T.setVm vm₁).calling g' mk (Value.ref b :: As).toArray, t, U', L, E, ce, hT, X', hL, e1, e2, hq, hce, hcv, vx_cls hW₁ hcl, st⟩
end VXID
/-! ===== END ===== -/
/-! calls, throws -/
def argL (As : List LV) (n : Nat) : List (Option LV) := As.map some ++ List.replicate (n - As.length) none
def KV (G : Gl) (κ : Kx) (cs ss pc : Nat) (L : List (Option LV)) (st : List Value) : Option Value → Hp → Prop
  | some v, σ => AW G κ cs ss pc L (v :: st) σ
  | none, σ => AW G κ cs ss pc L st σ
def mW (M : Mx) : List Cond := Cond.code (mY M) (mB M) (mL M) (mR M) :: lw_tbl.filter goodWord
def mRm (d mc ms : Nat) : Room := { frames := d, cells := mc, slots := ms, locals := 38 * d }
def gPc (G : Gl) (σ : Hp) (vs : List Value) : Array Value → State → Prop := fun a U => a = vs.toArray ∧ GI G U ∧ HS G σ U.heap ∧ gB G ≤ U.heap.size
/-- a method that may be called: its words stand in the tables, it has no table of handlers -/
def MOk (M : Mx) (n : Nat) : Prop :=
  plainName (mY M).cls = true ∧ Cond.code (mY M) (mB M) (mL M) (mR M) ∈ lw_tbl ∧ Cond.initialized (mY M).cls ∈ lw_tbl ∧ ((mY M).cls ≠ "java/lang/invoke/MethodHandle" ∧ (mY M).cls ≠ "java/lang/invoke/VarHandle") ∧ (parseMethodDescriptor (mY M).desc).map (fun d => d.parameters.length) = some n ∧ mH M = [] ∧ mL M ≤ 19
theorem lal_none : ∀ (n k : Nat), lal k (List.replicate n none) = []
  | 0, _ => rfl
  | n + 1, k => by rw [List.replicate_succ]; exact lal_none n (k + 1)
theorem lal_args : ∀ (As : List LV) (k m : Nat), lal k (As.map some ++ List.replicate m none) = lv_args k (As.map toV)
  | [], k, m => lal_none m k
  | v :: As, k, m => by
    have h : ¬ (toV v).category = 2 := by rw [toV_cat]; decide
    show (k, toV v) :: lal (k + 1) (As.map some ++ List.replicate m none) = (k, toV v) :: lv_args (if (toV v).category = 2 then k + 2 else k + 1) (As.map toV)
    rw [if_neg h, lal_args As (k + 1) m]
theorem lg_sl_V : ∀ (As : List LV), (lg_sl (As.map toV)).length = As.length
  | [] => rfl
  | v :: As => by
    have h : ¬ (toV v).category = 2 := by rw [toV_cat]; decide
    have e : lg_sl ((v :: As).map toV) = .val (toV v) :: lg_sl (As.map toV) := by
      show (if (toV v).category = 2 then [Slot.val (toV v), Slot.second] else [Slot.val (toV v)]) ++ _ = _
      rw [if_neg h]; rfl
    rw [e, List.length_cons, lg_sl_V As, List.length_cons]
theorem tableOf_nil : tableOf [] = [] := rfl
theorem gPc_blind (G : Gl) (σ : Hp) (vs : List Value) : FrameBlind (gPc G σ vs) := by
  intro a U g mk h
  obtain ⟨h1, h2, h3, h4⟩ := h
  exact ⟨h1, h2.next (State.WarmedH.refl U) (fun _ _ _ => rfl), h3, h4⟩
theorem met_of {l : Launch} (hl : l.stackTraces = false) {G : Gl} {M : Mx} {d mc ms n : Nat} {σ : Hp} {As : List LV} {Q : Option Value → Hp → Prop} {X : String → Hp → Prop} (hm : MOk M n) (hlen : As.length ≤ mL M)
    (body : ∀ κ : Kx, Ok G κ M d Q X → AW G κ mc ms 0 (argL As (mL M)) [] σ) : vx_Met l (mY M) (mW M) (mRm d mc ms) (gPc G σ (As.map toV)) (gQc G Q) (gXc G X) mc ms (gA G) := by
  refine vx_ofW (cc := mB M) (maxL := mL M) (ret := mR M) hm.1 rfl ?_
  intro p e s m args below meth c s₁ B hml ht hv
  obtain ⟨rfl, hgi, hhs, hbase⟩ := hv
  have hts := atoms_spec (ws := mW M) B.pre
  have htab : c.exceptionTable.toList = [] := List.eq_nil_iff_forall_not_mem.mpr ht
  have hok : Ok G (p, l, e, (headSpec (mW M) (mRm d mc ms)).room, s, m, (As.map toV).toArray, below, meth, c, vx_MQ below (gQc G Q) (gXc G X) (As.map toV).toArray s mc ms (gA G)) M d Q X := by
    refine ⟨⟨B.exec, B.bytes, hml, B.returns, findClass_of_methodNamed B.named, (name_of_methodNamed B.named B.method).1, B.notSynchronized, by rw [htab, hm.2.2.2.2.2.1]; rfl⟩, ⟨hl, Nat.le_refl _, Nat.le_refl _⟩, ⟨fun w hw hg => hts w (List.mem_cons_of_mem _ (List.mem_filter.mpr ⟨hw, hg⟩)), hgi, hbase⟩, ?_, Or.inr rfl⟩
    intro v σ1 H locs cells slots pc ls hq hH hc hs hr
    have hend : ∀ t : State, t.heap = H → s.WarmedH t.vm → gQc G Q (As.map toV).toArray s (.returned v) t := fun t h1 h2 => ⟨⟨v, σ1, rfl, hq, by rw [h1]; exact hH.1⟩, hH.2.F h1⟩
    refine W.widen (k := mc) (n := ms) hc hs (vx_ret ?_)
    rcases hr with ⟨x, ty, rfl, hd, hty, hn⟩ | ⟨rfl, hd, hty⟩ | ⟨x, ty, rfl, hd, hty, ho⟩ | ⟨x, rfl, hd, hty⟩ | ⟨x, rfl, hd, hty⟩
    · exact W.zret B.exec B.bytes (B.returns.trans hty) hn hend hH.2.2.2 hd B.notSynchronized
    · exact W.vret B.exec B.bytes (B.returns.trans hty) hend hH.2.2.2 hd B.notSynchronized
    · exact W.aret B.exec B.bytes (B.returns.trans hty) ho (by cases x; exact Or.inl rfl; exact Or.inr ⟨_, rfl⟩) hend hH.2.2.2 hd B.notSynchronized
    · exact W.dret B.exec B.bytes (B.returns.trans hty) hend hH.2.2.2 hd B.notSynchronized
    · exact W.fret B.exec B.bytes (B.returns.trans hty) hend hH.2.2.2 hd B.notSynchronized
  have hk := body _ hok
  have hle := lv_entry (As.map toV) (n := mL M) (by rw [lg_sl_V]; exact hlen)
  rw [lg_entry_eq]
  refine hk s.heap [] 0 0 _ ⟨hhs, va_S.rf⟩ (Nat.le_of_eq (Nat.zero_add _)) (Nat.le_of_eq (Nat.zero_add _)) ?_
  show lv_has _ c.maxLocals (lal 0 (argL As (mL M)))
  unfold argL
  rw [hml, lal_args]
  exact hle
section CallRules
variable {G : Gl} {κ : Kx} {M : Mx} {d : Nat} {Q : Option Value → Hp → Prop} {X : String → Hp → Prop} {cs ss pc : Nat} {L : List (Option LV)} {st : List Value} {σ : Hp}
/-- behind a call: it has returned, or thrown on -/
theorem aw_back {p l e R s m args below meth c Z} (hΓ : Ok G (p, l, e, R, s, m, args, below, meth, c, Z) M d Q X) (hH0 : mH M = []) {mc ms : Nat} {H : Heap} {locs : List Loc} {cells slots : Nat} {ls : Array Slot} {st0 : List Value} {a : Array Value}
    (hH : HR G s σ H locs) (hc : cells + (cs + mc) ≤ R.cells) (hs : slots + (ss + ms) ≤ R.slots) (hL : LR ls c.maxLocals L)
    (hr : vx_Run p l e R s m args below meth c H locs cells slots mc ms (F0 m pc ls st0) st (gQc G (KV G (p, l, e, R, s, m, args, below, meth, c, Z) cs ss (pc + 3) L st) a) (gXc G X) (gA G)) : W p l e R s m args below meth c H locs cells slots Z (F0 m pc ls st0) := by
  intro T hT Xs
  rcases hr T hT Xs with ⟨v, st1, t, T1, L1, h0, X1, hfree, e1, e2, ⟨⟨v1, σ1, ho, hq, hs1⟩, hF⟩, go⟩ | ⟨q, st1, t, T1, L1, E, ce, h0, X1, hfree, e1, e2, ⟨⟨σ1, hx, hs1⟩, hF⟩, hce, hcv, hcl, steps⟩
  · cases ho
    have hR : HR G s σ1 T1.heap (locs ++ L1) := ⟨by rw [e1]; exact hs1, (vx_keep h0 e1 hH.2 (fun _ _ h => h) (fun _ h => h) hfree hF).2.2⟩
    cases v with
    | none =>
      obtain ⟨t2, a1, b1⟩ := hq T1.heap (locs ++ L1) (cells + mc) (slots + ms) ls hR (by omega) (by omega) hL T1 rfl X1
      exact ⟨t2, go t2 a1, b1⟩
    | some v =>
      obtain ⟨t2, a1, b1⟩ := hq T1.heap (locs ++ L1) (cells + mc) (slots + ms) ls hR (by omega) (by omega) hL T1 rfl X1
      exact ⟨t2, go t2 a1, b1⟩
  · have hR : HR G s σ1 T1.heap (locs ++ L1) := ⟨by rw [e1]; exact hs1, (vx_keep h0 e1 hH.2 (fun _ _ h => h) (fun _ h => h) hfree hF).2.2⟩
    rcases hΓ.2.2.2.2 with hno | hZ
    · exact absurd hx (hno E σ1)
    · subst hZ
      have htab : ∀ x ∈ c.exceptionTable.toList, covers x pc = false := by
        intro x hx9
        rw [hΓ.1.2.2.2.2.2.2.2, hH0, tableOf_nil] at hx9
        cases hx9
      obtain ⟨t2, a1, b1⟩ := vx_out (p := p) (l := l) (e := e) (R := R) (args := args) (ls := ls) (rest := st) (H := T1.heap) (locs := locs ++ L1) (cells := cells + mc) (slots := slots + ms) (mc := R.cells) (ms := R.slots) (Qc := gQc G Q) (XC := gXc G X) (free := gA G) (below := below) htab hΓ.locks (by rw [e1]; exact hce) hcv hcl (fun t9 h1 h2 => ⟨⟨σ1, hx, by rw [h1]; exact hR.1⟩, hR.2.F h1⟩) hR.2.2.2 (by omega) (by omega) T1 rfl X1
      exact ⟨t2, steps.trans a1, b1⟩
theorem Ok.pre {p l e R s m args below meth c Z} (hΓ : Ok G (p, l, e, R, s, m, args, below, meth, c, Z) M d Q X) {H : Heap} {locs : List Loc} (hH : HR G s σ H locs) (vs : List Value) : FrameBlind (gPc G σ vs) ∧ ∀ U : State, U.heap = H → s.WarmedH U.vm → gPc G σ vs vs.toArray U := by
  refine ⟨gPc_blind G σ vs, fun U hU hW => ⟨rfl, hΓ.gi.next hW (fun a h1 h2 => ?_), by rw [hU]; exact hH.1, by rw [hU]; exact Nat.le_trans hΓ.base hH.2.1⟩⟩
  rw [hU]
  exact hH.2.2.1 a h1 h2
theorem MOk.callB {p l e R s m args below meth c Z} (hΓ : Ok G (p, l, e, R, s, m, args, below, meth, c, Z) M (d + 1) Q X) {M2 : Mx} {n index mc ms : Nat} (hm : MOk M2 n) (hlink : Cond.methodLink (mY M).cls index (mY M2) ∈ lw_tbl) : CallB R s args (mY M).cls index (mY M2) (mB M2) (mL M2) (mR M2) (mW M2) (mRm d mc ms) mc ms n := by
  have hf : d + 1 ≤ R.frames := hΓ.2.1.2.1
  have hlo : 38 * (d + 1) ≤ R.locals := hΓ.2.1.2.2
  have h40 := hm.2.2.2.2.2.2
  refine ⟨rfl, rfl, hf, ?_, ?_, List.mem_cons_self, hΓ.word hm.2.1 rfl, hΓ.word hm.2.2.1 rfl, hm.2.2.2.1, fun sig h => ?_, hΓ.word hlink rfl⟩
  · show 8 + (mL M2 + 11) + 38 * d ≤ R.locals
    omega
  · refine pay_in hΓ.lays (fun w hw => ?_)
    rcases List.mem_cons.mp hw with h | h
    · rw [h]; exact ⟨List.mem_filter.mpr ⟨hm.2.1, rfl⟩, good_of_word rfl⟩
    · exact ⟨h, good_of_word (List.mem_filter.mp h).2⟩
  · have h2 := hm.2.2.2.2.1
    rw [h] at h2
    exact (Option.some.inj h2).symm
theorem Ok.fix {p l e R s m args below meth c Z} (hΓ : Ok G (p, l, e, R, s, m, args, below, meth, c, Z) M d Q X) : CallFix p m c (mB M) c.maxLocals s args (lw_tbl.filter goodWord) (mY M).cls := ⟨hΓ.exec, hΓ.code, rfl, hΓ.own, hΓ.lays⟩
/-- a static method -/
theorem aw_invS (hΓ : Ok G κ M (d + 1) Q X) {M2 : Mx} {index n : Nat} (As : List LV) (mc ms : Nat) (hH0 : mH M = []) (hm : MOk M2 n) (hstat : Cond.static (mY M2) ∈ lw_tbl) (hlink : Cond.methodLink (mY M).cls index (mY M2) ∈ lw_tbl) (hn : As.length = n) (hlen : As.length ≤ mL M2) (hst : (st.map fun v => v.category).sum ≤ 8) (hd : decode (mB M) pc = .ok (.invokestatic index, 3))
    (body : ∀ κ2 : Kx, Ok G κ2 M2 d (KV G κ cs ss (pc + 3) L st) X → AW G κ2 mc ms 0 (argL As (mL M2)) [] σ) : AW G κ (cs + mc) (ss + ms) pc L ((As.map toV).reverse ++ st) σ := by
  obtain ⟨p, l, e, R, s, m, args, below, meth, c, Z⟩ := κ
  intro H locs cells slots ls hH hc hs hL
  refine aw_back (a := (As.map toV).toArray) hΓ hH0 hH hc hs hL (vx_runS (n := n) (As := As.map toV) hΓ.fix (met_of hΓ.2.1.1 hm hlen body) ⟨hm.callB hΓ hlink, hΓ.word hstat rfl⟩ (hΓ.pre hH _) rfl (by rw [List.length_map]; exact hn) hL.1 rfl ?_ hd ⟨by omega, by omega⟩)
  show 2 * 0 + (st.map fun v => v.category).sum ≤ 8
  omega
/-- a method of an object of the heap function, of just this class -/
theorem aw_invV (hΓ : Ok G κ M (d + 1) Q X) {M2 : Mx} {index n b ci : Nat} {C : String} {T : u_T} {N : Nat} {ty : Nat → FieldType} {fs : List Value} (As : List LV) (mc ms : Nat) (hH0 : mH M = []) (hm : MOk M2 n) (hC : ClsOk ci C T N ty) (hcls : (mY M2).cls = C) (hin : Cond.instanceMethod (mY M2) ∈ lw_tbl) (hsel : Cond.selects C (mY M2) (mY M2) ∈ lw_tbl) (hlink : Cond.methodLink (mY M).cls index (mY M2) ∈ lw_tbl) (hn : As.length = n) (hlen : As.length + 1 ≤ mL M2) (hst : (st.map fun v => v.category).sum ≤ 8) (hd : decode (mB M) pc = .ok (.invokevirtual index, 3)) (hσ : σ b = some (.inr (ci, fs)))
    (body : ∀ κ2 : Kx, Ok G κ2 M2 d (KV G κ cs ss (pc + 3) L st) X → AW G κ2 mc ms 0 (argL (.inr (some b) :: As) (mL M2)) [] σ) : AW G κ (cs + mc) (ss + ms) pc L ((As.map toV).reverse ++ .ref b :: st) σ := by
  obtain ⟨p, l, e, R, s, m, args, below, meth, c, Z⟩ := κ
  intro H locs cells slots ls hH hc hs hL
  obtain ⟨ws, hP, hD, hall⟩ := hH.1.ls
  obtain ⟨q0, he⟩ := hall _ _ hσ
  refine aw_back (a := ((.inr (some b) :: As : List LV).map toV).toArray) hΓ hH0 hH hc hs hL (vx_runV (n := n) (C := C) (b := b) (As := As.map toV) hΓ.fix (met_of (As := .inr (some b) :: As) hΓ.2.1.1 hm hlen body) ⟨hm.callB hΓ hlink, hΓ.word hin rfl, hΓ.word hsel rfl⟩ ⟨(hΓ.pre hH _).1, va_recv hΓ.isK hP hC.1 he, (hΓ.pre hH _).2⟩ rfl (by rw [List.length_map]; exact hn) hL.1 rfl ?_ hd ⟨by omega, by omega⟩)
  show 2 * 0 + (st.map fun v => v.category).sum ≤ 8
  omega
/-- a constructor -/
theorem aw_invI (hΓ : Ok G κ M (d + 1) Q X) {M2 : Mx} {index n b : Nat} (As : List LV) (mc ms : Nat) (hH0 : mH M = []) (hm : MOk M2 n) (hnm : (mY M2).name = "<init>") (hin : Cond.instanceMethod (mY M2) ∈ lw_tbl) (hlink : Cond.methodLink (mY M).cls index (mY M2) ∈ lw_tbl) (hn : As.length = n) (hlen : As.length + 1 ≤ mL M2) (hst : (st.map fun v => v.category).sum ≤ 8) (hd : decode (mB M) pc = .ok (.invokespecial index, 3)) (hret : mR M2 = none)
    (body : ∀ κ2 : Kx, Ok G κ2 M2 d (KV G κ cs ss (pc + 3) L st) X → AW G κ2 mc ms 0 (argL (.inr (some b) :: As) (mL M2)) [] σ) : AW G κ (cs + mc) (ss + ms) pc L ((As.map toV).reverse ++ .ref b :: st) σ := by
  obtain ⟨p, l, e, R, s, m, args, below, meth, c, Z⟩ := κ
  intro H locs cells slots ls hH hc hs hL
  have cb := hm.callB (mc := mc) (ms := ms) hΓ hlink
  rw [hret] at cb
  refine aw_back (a := ((.inr (some b) :: As : List LV).map toV).toArray) hΓ hH0 hH hc hs hL (vx_runI (n := n) (b := b) (As := As.map toV) hΓ.fix (met_of (As := .inr (some b) :: As) hΓ.2.1.1 hm hlen body) ⟨cb, hnm, hΓ.word hin rfl⟩ (hΓ.pre hH _) rfl (by rw [List.length_map]; exact hn) hL.1 rfl ?_ hd ⟨by omega, by omega⟩)
  show 2 * 0 + (st.map fun v => v.category).sum ≤ 8
  omega
/-- .. of a nest mate, private -/
theorem aw_invIN (hΓ : Ok G κ M (d + 1) Q X) {M2 : Mx} {index n b : Nat} {host : String} (As : List LV) (mc ms : Nat) (hH0 : mH M = []) (hm : MOk M2 n) (hnm : (mY M2).name = "<init>") (hin : Cond.instanceMethod (mY M2) ∈ lw_tbl) (hlink : Cond.methodLinkNest (mY M).cls index (mY M2) host ∈ lw_tbl) (hn : As.length = n) (hlen : As.length + 1 ≤ mL M2) (hst : (st.map fun v => v.category).sum ≤ 8) (hd : decode (mB M) pc = .ok (.invokespecial index, 3)) (hret : mR M2 = none)
    (body : ∀ κ2 : Kx, Ok G κ2 M2 d (KV G κ cs ss (pc + 3) L st) X → AW G κ2 mc ms 0 (argL (.inr (some b) :: As) (mL M2)) [] σ) : AW G κ (cs + mc) (ss + ms) pc L ((As.map toV).reverse ++ .ref b :: st) σ := by
  obtain ⟨p, l, e, R, s, m, args, below, meth, c, Z⟩ := κ
  intro H locs cells slots ls hH hc hs hL
  have hf : d + 1 ≤ R.frames := hΓ.2.1.2.1
  have hlo : 38 * (d + 1) ≤ R.locals := hΓ.2.1.2.2
  have h40 := hm.2.2.2.2.2.2
  have cn : va_CN R s args (mY M).cls index (mY M2) host (mB M2) (mL M2) (mR M2) (mW M2) (mRm d mc ms) mc ms n := by
    refine ⟨⟨rfl, rfl, hf, ?_, ?_, List.mem_cons_self⟩, hΓ.word hm.2.1 rfl, hΓ.word hm.2.2.1 rfl, hm.2.2.2.1, fun sig h => ?_, hΓ.nest hlink rfl⟩
    · show 8 + (mL M2 + 11) + 38 * d ≤ R.locals
      omega
    · refine pay_in hΓ.lays (fun w hw => ?_)
      rcases List.mem_cons.mp hw with h | h
      · rw [h]; exact ⟨List.mem_filter.mpr ⟨hm.2.1, rfl⟩, good_of_word rfl⟩
      · exact ⟨h, good_of_word (List.mem_filter.mp h).2⟩
    · have h2 := hm.2.2.2.2.1
      rw [h] at h2
      exact (Option.some.inj h2).symm
  rw [hret] at cn
  refine aw_back (a := ((.inr (some b) :: As : List LV).map toV).toArray) hΓ hH0 hH hc hs hL (vx_runIN (n := n) (b := b) (As := As.map toV) hΓ.fix (met_of (As := .inr (some b) :: As) hΓ.2.1.1 hm hlen body) ⟨cn, hnm, hΓ.word hin rfl⟩ (hΓ.pre hH _) rfl (by rw [List.length_map]; exact hn) hL.1 rfl ?_ hd ⟨by omega, by omega⟩)
  show 2 * 0 + (st.map fun v => v.category).sum ≤ 8
  omega
/-- System.arraycopy over int arrays -/
theorem aw_copyI (hΓ : Ok G κ M (d + 1) Q X) {index a0 a1 n0 n1 i j n : Nat} {f g : Nat → Int32} {sp dp len : Int32} (hlink : Cond.methodLink (mY M).cls index arraycopyName ∈ lw_tbl) (hnat : Cond.native arraycopyName ∈ lw_tbl) (hstat : Cond.static arraycopyName ∈ lw_tbl) (hini : Cond.initialized "java/lang/System" ∈ lw_tbl) (hd : decode (mB M) pc = .ok (.invokestatic index, 3)) (hst : (st.map fun v => v.category).sum ≤ 8) (h0 : σ a0 = some (eI G n0 f)) (h1 : σ a1 = some (eI G n1 g)) (hi : sp = nI i) (hj : dp = nI j) (hn : len = nI n) (hin : i + n ≤ n0) (hjn : j + n ≤ n1) (hb0 : n0 < 2 ^ 31) (hb1 : n1 < 2 ^ 31)
    (kk : AW G κ cs ss (pc + 3) L st (hset σ a1 (eI G n1 (va_cpy f g i j n)))) : AW G κ cs ss pc L (.int len :: .int dp :: .ref a1 :: .int sp :: .ref a0 :: st) σ := by
  obtain ⟨p, l, e, R, s, m, args, below, meth, c, Z⟩ := κ
  intro H locs cells slots ls hH hc hs hL
  obtain ⟨ws, hP, hD, hall⟩ := hH.1.ls
  obtain ⟨q0, he0⟩ := hall _ _ h0
  obtain ⟨q1, he1⟩ := hall _ _ h1
  have hf : d + 1 ≤ R.frames := hΓ.2.1.2.1
  have hlo : 38 * (d + 1) ≤ R.locals := hΓ.2.1.2.2
  have hw : nativeFrameWords "java/lang/System" "arraycopy" 5 ≤ 19 := by decide +kernel
  subst hi; subst hj; subst hn
  have ei : (nI i).toNatClampNeg = i := nI_clamp (by omega)
  have ej : (nI j).toNatClampNeg = j := nI_clamp (by omega)
  have en : (nI n).toNatClampNeg = n := nI_clamp (by omega)
  refine va_copyi hΓ.exec hΓ.code hL.1.symm hΓ.own (hΓ.word hlink rfl) (hΓ.word hnat rfl) (hΓ.word hstat rfl) (hΓ.word hini rfl) hΓ.isK hP hD hH.2 q0 q1 0 0 he0 he1 rfl rfl rfl (nI_pos (by omega)) (nI_pos (by omega)) (nI_pos (by omega)) (by rw [ei, en]; exact hin) (by rw [ej, en]; exact hjn) (fun _ _ => rfl) (by omega) (by omega) hd (fun H1 locs1 hP1 hD1 hS1 => ?_)
  rw [ei, ej, en] at hP1 hD1
  exact kk H1 locs1 cells slots ls ⟨HS.put hall he1 hP1 hD1, hS1⟩ hc hs hL
/-- throw new E("text") -/
theorem aw_throwS (hΓ : Ok G κ M (d + 6) Q X) {ik is ic j : Nat} {cls text : String} {names : List String} (hH0 : mH M = []) (hlenN : names.length ≤ 2) (hcls : Bundle.fit cls = true) (hnames : ∀ n ∈ names, Bundle.fit n = true) (hk : Cond.classLink (mY M).cls ik cls ∈ lw_tbl) (hini : Cond.initialized cls ∈ lw_tbl) (htx : ((mY M).cls, is, text, j) ∈ txRefs)
    (hat : ∀ w ∈ vx_atS (mY M).cls ic cls names, w ∈ lw_tbl ∧ (goodWord w || nestW w) = true) (hot : ∀ w ∈ vx_atS (mY M).cls ic cls names, vx_ot w = true)
    (d0 : decode (mB M) pc = .ok (.new ik, 3)) (d3 : decode (mB M) (pc + 3) = .ok (.dup, 1)) (d4 : decode (mB M) (pc + 4) = .ok (.ldc is, 2)) (d6 : decode (mB M) (pc + 6) = .ok (.invokespecial ic, 3)) (d9 : decode (mB M) (pc + 9) = .ok (.athrow, 1)) (hst : (st.map fun v => v.category).sum ≤ 8) (hx : X cls σ) : AW G κ (cs + 1) (ss + 6) pc L st σ := by
  obtain ⟨p, l, e, R, s, m, args, below, meth, c, Z⟩ := κ
  intro H locs cells slots ls hH hc hs hL
  have hf : d + 6 ≤ R.frames := hΓ.2.1.2.1
  have hlo : 38 * (d + 6) ≤ R.locals := hΓ.2.1.2.2
  obtain ⟨⟨hU, hN⟩, hR, -⟩ := hΓ.gi.2.2.2
  have htab : ∀ x ∈ c.exceptionTable.toList, covers x (pc + 9) = false := by
    intro x hx9
    rw [hΓ.1.2.2.2.2.2.2.2, hH0, tableOf_nil] at hx9
    cases hx9
  have hats : ∀ w ∈ vx_atS (mY M).cls ic cls names, w.before args s = true := by
    intro w hw
    obtain ⟨h1, h2⟩ := hat w hw
    rcases Bool.or_eq_true_iff.mp h2 with h | h
    · exact hΓ.word h1 h
    · exact hΓ.nest h1 h
  rcases hΓ.2.2.2.2 with hno | hZ
  · exact absurd hx (hno cls σ)
  · subst hZ
    refine vx_throwS (A := gA G) (names := names) (text := text) (sa := gK G j) hΓ.exec hΓ.code hΓ.2.1.1 hΓ.own hcls hnames (hΓ.word hk rfl) (hΓ.word hini rfl) (hR _ htx) hats (fun w hw => ?_) hU hN hH.2 hL.1 d0 d3 d4 d6 d9 htab (by omega) (by omega) (by omega) (by omega) hΓ.locks (fun t h1 h2 h3 => ?_) hH.2.2.2 (by omega) (by omega)
    · rcases List.mem_cons.mp hw with h | h
      · rw [h]; rfl
      · rcases List.mem_cons.mp h with h | h
        · rw [h]; rfl
        · exact hot w h
    · refine ⟨⟨σ, hx, fun a e9 h9 => ?_⟩, Nat.le_trans hH.2.1 h2, fun q h4 h5 => ?_⟩
      · obtain ⟨h6, h7⟩ := hH.1 a e9 h9
        exact ⟨h6, h7.kept (h3 a h7.lt)⟩
      · rw [h3 q (Nat.lt_of_lt_of_le h4 hH.2.1)]
        exact hH.2.2.1 q h4 h5
theorem aw_throwSW (hΓ : Ok G κ M (d + 6) Q X) {ik is ic j : Nat} {cls text : String} {names : List String} (hH0 : mH M = []) (hlenN : names.length ≤ 2) (hcls : Bundle.fit cls = true) (hnames : ∀ n ∈ names, Bundle.fit n = true) (hk : Cond.classLink (mY M).cls ik cls ∈ lw_tbl) (hini : Cond.initialized cls ∈ lw_tbl) (htx : ((mY M).cls, is, text, j) ∈ txRefs)
    (hat : ∀ w ∈ vx_atS (mY M).cls ic cls names, w ∈ lw_tbl ∧ (goodWord w || nestW w) = true) (hot : ∀ w ∈ vx_atS (mY M).cls ic cls names, vx_ot w = true)
    (d0 : decode (mB M) pc = .ok (.new ik, 3)) (d3 : decode (mB M) (pc + 3) = .ok (.dup, 1)) (d4 : decode (mB M) (pc + 4) = .ok (.ldc_w is, 3)) (d7 : decode (mB M) (pc + 7) = .ok (.invokespecial ic, 3)) (d10 : decode (mB M) (pc + 10) = .ok (.athrow, 1)) (hst : (st.map fun v => v.category).sum ≤ 8) (hx : X cls σ) : AW G κ (cs + 1) (ss + 6) pc L st σ := by
  obtain ⟨p, l, e, R, s, m, args, below, meth, c, Z⟩ := κ
  intro H locs cells slots ls hH hc hs hL
  have hf : d + 6 ≤ R.frames := hΓ.2.1.2.1
  have hlo : 38 * (d + 6) ≤ R.locals := hΓ.2.1.2.2
  obtain ⟨⟨hU, hN⟩, hR, -⟩ := hΓ.gi.2.2.2
  have htab : ∀ x ∈ c.exceptionTable.toList, covers x (pc + 10) = false := by
    intro x hx9
    rw [hΓ.1.2.2.2.2.2.2.2, hH0, tableOf_nil] at hx9
    cases hx9
  have hats : ∀ w ∈ vx_atS (mY M).cls ic cls names, w.before args s = true := by
    intro w hw
    obtain ⟨h1, h2⟩ := hat w hw
    rcases Bool.or_eq_true_iff.mp h2 with h | h
    · exact hΓ.word h1 h
    · exact hΓ.nest h1 h
  rcases hΓ.2.2.2.2 with hno | hZ
  · exact absurd hx (hno cls σ)
  · subst hZ
    refine vx_throwSW (A := gA G) (names := names) (text := text) (sa := gK G j) hΓ.exec hΓ.code hΓ.2.1.1 hΓ.own hcls hnames (hΓ.word hk rfl) (hΓ.word hini rfl) (hR _ htx) hats (fun w hw => ?_) hU hN hH.2 hL.1 d0 d3 d4 d7 d10 htab (by omega) (by omega) (by omega) (by omega) hΓ.locks (fun t h1 h2 h3 => ?_) hH.2.2.2 (by omega) (by omega)
    · rcases List.mem_cons.mp hw with h | h
      · rw [h]; rfl
      · rcases List.mem_cons.mp h with h | h
        · rw [h]; rfl
        · exact hot w h
    · refine ⟨⟨σ, hx, fun a e9 h9 => ?_⟩, Nat.le_trans hH.2.1 h2, fun q h4 h5 => ?_⟩
      · obtain ⟨h6, h7⟩ := hH.1 a e9 h9
        exact ⟨h6, h7.kept (h3 a h7.lt)⟩
      · rw [h3 q (Nat.lt_of_lt_of_le h4 hH.2.1)]
        exact hH.2.2.1 q h4 h5
end CallRules
