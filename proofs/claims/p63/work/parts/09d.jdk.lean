/-! ===== BEGIN a method of a class above, found by the receiver, that may throw (follows va_callVU, va_runU of this kit) ===== -/
section
variable {p : Program} {l : Launch} {e : Env} {R : Room} {s : State} {m : MethodId} {args : Array Value} {below : List Frame} {meth : Method} {c : Code} {H : Heap} {locs : List Loc} {cells slots : Nat}
theorem vx_callVU {T : State} {locs : List Loc} {cells slots : Nat} (X : Stand p l e R s m args below meth c T locs cells slots) (hexec : p.tables.exec = Jvm.exec) {own C owner : String} {index : Nat} {x y : MethodName} {bytes : ByteArray} {maxL : Nat} {ret : Option FieldType}
    (hown : s.vm.findClass own = some m.cls) (hlink : (Cond.methodLink own index x).before args s = true) (hsame : (Cond.sameMethod x.cls owner x.name x.desc).before args s = true)
    (hd0 : va_Decl s ⟨owner, x.name, x.desc⟩) (howner : owner ≠ "java/lang/invoke/MethodHandle" ∧ owner ≠ "java/lang/invoke/VarHandle")
    (hsel : (Cond.selects C x y).before args s = true) (hinst : (Cond.instanceMethod y).before args s = true) (hcode : (Cond.code y bytes maxL ret).before args s = true)
    {W : Nat} {Pre : Pt → Array Value → Prop} {Post : Pt → Array Value → Option Value → Pt → Prop} {PostX : Pt → Array Value → Addr → Pt → Prop} (hK : vx_Back l R p e below s args y 3 W Pre Post PostX)
    {b : Addr} {cellB : Cell} (hcell : T.heap[b]? = some cellB) (hobj : cellB.vm.isStatics = false) (hcls : s.vm.findClass C = some cellB.cls)
    {g : JFrame} (hg : g.method = m) (hsize : g.locals.size = c.maxLocals) {argsL rest : List Value} (hlen : ∀ sig, parseMethodDescriptor x.desc = some sig → argsL.length = sig.parameters.length)
    (hstack : g.stack = argsL.reverse ++ .ref b :: rest) (hW : 2 * g.monitorRoom + (rest.map fun v => v.category).sum ≤ W) (hdg : decode c.code g.pc = .ok (.invokevirtual index, 3))
    (hpre : ∀ vm₁, s.WarmedH vm₁ → Pre ⟨T.setVm vm₁, locs, cells, slots⟩ (Value.ref b :: argsL).toArray) :
    (∃ (v : Option Value) (vm₁ : Vm) (B : Pt), s.WarmedH vm₁ ∧ Stand p l e R s m args below meth c B.U B.locs B.cells B.slots ∧ Post ⟨T.setVm vm₁, locs, cells, slots⟩ (Value.ref b :: argsL).toArray v B ∧
      ∀ target, Steps p.tables e below (B.U.setTop { g with pc := g.pc + 3, stack := v.toList ++ rest }) target → Steps p.tables e below (T.setTop g) target) ∨
    (∃ (q : Addr) (vm₁ : Vm) (B : Pt), s.WarmedH vm₁ ∧ Stand p l e R s m args below meth c B.U B.locs B.cells B.slots ∧ PostX ⟨T.setVm vm₁, locs, cells, slots⟩ (Value.ref b :: argsL).toArray q B ∧
      Steps p.tables e below (T.setTop g) ((B.U.setTop { g with stack := rest }).pushFrame (.throwing q))) := by
  obtain ⟨r0, r, hn, hrm, hstR, hsigR⟩ := hd0
  obtain ⟨cn, ck, r1, hcn, hck, hni, hf, hn1⟩ := Cond.sameMethod_found hsame
  cases hn.symm.trans hn1
  obtain ⟨mk, methM, hnamed, hmethM, -, habM⟩ := Cond.instanceMethod_spec hinst
  obtain ⟨c2, r2, m2, q1, q2, q3, q4, kP, hkP, hkPi⟩ := Cond.selects_spec hsel
  cases hcls.symm.trans q1
  cases hf.symm.trans q2
  cases hnamed.symm.trans q3
  have hselP : selectMethod e.platform s.vm cellB.cls r0 = .method mk := by rw [Launch.admits_selectMethod X.admits]; exact q4
  obtain ⟨vm₁, X₁, hstep₁⟩ := X.invokevirtualUp hexec hown hlink hsame howner hn hrm hstR (a := b) (cell := cellB) hcell
    (fun z h => by rw [h] at hobj; cases hobj) hselP hmethM habM hkP hkPi (g := g) hg (argsL := argsL) (rest := rest) (hlen _ hsigR) hstack hdg
  rcases hK m meth c ⟨T.setVm vm₁, locs, cells, slots⟩ { g with stack := rest } (.invokevirtual index) mk (Value.ref b :: argsL).toArray X₁ hg hsize hdg hW (X₁.named hnamed) (hpre vm₁ X₁.warmed) with ⟨v, B, X', hpost, hsteps⟩ | ⟨q, B, X', hpost, hsteps⟩
  · exact Or.inl ⟨v, vm₁, B, X₁.warmed, X', hpost, fun target h => hstep₁ _ fun acts => by rw [doInvoke_state]; exact hsteps.trans h⟩
  · exact Or.inr ⟨q, vm₁, B, X₁.warmed, X', hpost, hstep₁ _ fun acts => by rw [doInvoke_state]; exact hsteps⟩
theorem vx_runU {x y : MethodName} {bytes cc : ByteArray} {maxL nL mc ms n index : Nat} {ret : Option FieldType} {ws : List Cond} {rm : Room} {Pc : Array Value → State → Prop} {Qc : Array Value → State → Outcome → State → Prop} {XC : String → State → State → Prop} {free : Addr → Prop} {Ts : List Cond} {own C owner : String} {b : Addr} {As rest : List Value} {g : JFrame}
    (S : CallFix p m c cc nL s args Ts own) (hM : vx_Met l y ws rm Pc Qc XC mc ms free) (cw : va_CU R s args own C owner index x y bytes maxL ret ws rm mc ms n) (hp : PreV s H C b Pc As)
    (hg : g.method = m) (hn : As.length = n) (hsize : g.locals.size = nL) (hstack : g.stack = As.reverse ++ .ref b :: rest) (hW : 2 * g.monitorRoom + (rest.map fun v => v.category).sum ≤ 8) (hdg : decode cc g.pc = .ok (.invokevirtual index, 3)) (hf : cells + mc ≤ R.cells ∧ slots + ms ≤ R.slots) :
    vx_Run p l e R s m args below meth c H locs cells slots mc ms g rest (Qc (Value.ref b :: As).toArray) XC free := by
  obtain ⟨hrc, hrs, hfr, hlo, hws, hcw⟩ := cw.back
  have hini := cw.init
  have hK : vx_Back l R p e below s args y 3 8 (PreOf R mc ms Pc) (PostOf Qc mc ms free) (vx_Post XC mc ms free) := vx_back (bytes := bytes) (maxL := maxL) (ret := ret) hM hp.1 hrc hrs hfr hlo hws hcw (fun a' U hW => word_at hW (Or.inl (by first | rfl | simp [Cond.onTables, Cond.keeps, Cond.steady])) hini)
  obtain ⟨hx, hb, hml, ho, -⟩ := S
  obtain ⟨-, ⟨cellB, hcB, hoB, hclB⟩, hPc⟩ := hp
  intro T hT X
  rcases vx_callVU X hx (C := C) (owner := owner) (bytes := bytes) (maxL := maxL) (ret := ret) ho cw.link cw.same cw.decl cw.notMH cw.sel cw.inst cw.code hK (by rw [hT]; exact hcB) hoB hclB hg (hsize.trans hml.symm) (argsL := As) (rest := rest) (fun sig h => hn.trans (cw.len sig h)) hstack hW (by rw [hb]; exact hdg)
    (fun vm₁ hW₁ => ⟨hf.1, hf.2, hPc (T.setVm vm₁) hT hW₁⟩) with ⟨v, vm₁, ⟨U', l2, c2, s2⟩, hW₁, X', ⟨g', mk, t, L, e1, e2, hq, h1, hL, h2, h3⟩, st⟩ | ⟨q, vm₁, ⟨U', l2, c2, s2⟩, hW₁, X', ⟨g', mk, t, L, E, ce, e1, e2, hq, hce, hcv, hcl, h1, hL, h2, h3⟩, st⟩
  · dsimp only [Pt.U, Pt.locs, Pt.cells, Pt.slots] at X' e1 e2 h1 h2 h3 st
    subst h1; subst h2; subst h3
    exact Or.inl ⟨v, (T.setVm vm₁).calling g' mk (Value.ref b :: As).toArray, t, U', L, hT, X', hL, e1, e2, hq, st⟩
  · dsimp only [Pt.U, Pt.locs, Pt.cells, Pt.slots] at X' e1 e2 h1 h2 h3 st hcl
    subst h1; subst h2; subst h3
    exact Or.inr ⟨q, (T.setVm vm₁).calling g' mk (Value.ref b :: As).toArray, t, U', L, E, ce, hT, X', hL, e1, e2, hq, hce, hcv, vx_cls hW₁ hcl, st⟩
end
/-! ===== END ===== -/
/-! ===== BEGIN super.m(..) that may throw (follows va_callSU, va_runSU) ===== -/
section
variable {p : Program} {l : Launch} {e : Env} {R : Room} {s : State} {m : MethodId} {args : Array Value} {below : List Frame} {meth : Method} {c : Code} {H : Heap} {locs : List Loc} {cells slots : Nat}
theorem vx_callSU {T : State} {locs : List Loc} {cells slots : Nat} (X : Stand p l e R s m args below meth c T locs cells slots) (hexec : p.tables.exec = Jvm.exec) {own : String} {index : Nat} {y : MethodName} {bytes : ByteArray} {maxL : Nat} {ret : Option FieldType}
    (hown : s.vm.findClass own = some m.cls) (hlink : (Cond.methodLink own index y).before args s = true) (hsame : (Cond.sameMethod y.cls y.cls y.name y.desc).before args s = true) (hsup : (Cond.superclass own y.cls).before args s = true)
    (hinst : (Cond.instanceMethod y).before args s = true) (hcode : (Cond.code y bytes maxL ret).before args s = true) (hno : y.name ≠ "<init>")
    {W : Nat} {Pre : Pt → Array Value → Prop} {Post : Pt → Array Value → Option Value → Pt → Prop} {PostX : Pt → Array Value → Addr → Pt → Prop} (hK : vx_Back l R p e below s args y 3 W Pre Post PostX)
    {b : Addr} {cellB : Cell} {kB : Class} (hcell : T.heap[b]? = some cellB) (hobj : cellB.vm.isStatics = false) (hkB : s.vm.classes[cellB.cls]? = some kB)
    {g : JFrame} (hg : g.method = m) (hsize : g.locals.size = c.maxLocals) {argsL rest : List Value} (hlen : ∀ sig, parseMethodDescriptor y.desc = some sig → argsL.length = sig.parameters.length)
    (hstack : g.stack = argsL.reverse ++ .ref b :: rest) (hW : 2 * g.monitorRoom + (rest.map fun v => v.category).sum ≤ W) (hdg : decode c.code g.pc = .ok (.invokespecial index, 3))
    (hpre : ∀ vm₁, s.WarmedH vm₁ → Pre ⟨T.setVm vm₁, locs, cells, slots⟩ (Value.ref b :: argsL).toArray) :
    (∃ (v : Option Value) (vm₁ : Vm) (B : Pt), s.WarmedH vm₁ ∧ Stand p l e R s m args below meth c B.U B.locs B.cells B.slots ∧ Post ⟨T.setVm vm₁, locs, cells, slots⟩ (Value.ref b :: argsL).toArray v B ∧
      ∀ target, Steps p.tables e below (B.U.setTop { g with pc := g.pc + 3, stack := v.toList ++ rest }) target → Steps p.tables e below (T.setTop g) target) ∨
    (∃ (q : Addr) (vm₁ : Vm) (B : Pt), s.WarmedH vm₁ ∧ Stand p l e R s m args below meth c B.U B.locs B.cells B.slots ∧ PostX ⟨T.setVm vm₁, locs, cells, slots⟩ (Value.ref b :: argsL).toArray q B ∧
      Steps p.tables e below (T.setTop g) ((B.U.setTop { g with stack := rest }).pushFrame (.throwing q))) := by
  obtain ⟨mk, methM, hnamed, hmethM, hstM, habM⟩ := Cond.instanceMethod_spec hinst
  obtain ⟨methM', cM, hmethM', -, -, -, -, -, -, hsigM⟩ := Cond.code_spec hnamed hcode
  cases hmethM.symm.trans hmethM'
  obtain ⟨ps, dk, kp, hps, hdk, hkp, hsuper, -, -, hnid⟩ := Cond.superclass_spec hown hsup
  have hn : s.methodNamed? ⟨y.cls, y.name, y.desc⟩ = some mk := hnamed
  have hpm : ps = mk.cls := Option.some.inj (hps.symm.trans (findClass_of_methodNamed hnamed))
  have hsub : s.vm.isSubclass ps mk.cls = true := by rw [hpm]; simp [Vm.isSubclass, Vm.isSubclassAux]
  obtain ⟨vm₁, X₁, hstep₁⟩ := X.invokespecialUp hexec hown hlink hsame hn hmethM hstM habM hno hdk hnid hps hsuper hsub (a := b) (cell := cellB) hcell
    (fun z h => by rw [h] at hobj; cases hobj) hkB (g := g) hg (argsL := argsL) (rest := rest) (hlen _ hsigM) hstack hdg
  rcases hK m meth c ⟨T.setVm vm₁, locs, cells, slots⟩ { g with stack := rest } (.invokespecial index) mk (Value.ref b :: argsL).toArray X₁ hg hsize hdg hW (X₁.named hnamed) (hpre vm₁ X₁.warmed) with ⟨v, B, X', hpost, hsteps⟩ | ⟨q, B, X', hpost, hsteps⟩
  · exact Or.inl ⟨v, vm₁, B, X₁.warmed, X', hpost, fun target h => hstep₁ _ (by rw [doInvoke_state]; exact hsteps.trans h)⟩
  · exact Or.inr ⟨q, vm₁, B, X₁.warmed, X', hpost, hstep₁ _ (by rw [doInvoke_state]; exact hsteps)⟩
theorem vx_runSU {y : MethodName} {bytes cc : ByteArray} {maxL nL mc ms n index : Nat} {ret : Option FieldType} {ws : List Cond} {rm : Room} {Pc : Array Value → State → Prop} {Qc : Array Value → State → Outcome → State → Prop} {XC : String → State → State → Prop} {free : Addr → Prop} {Ts : List Cond} {own C : String} {cC : ClassId} {b : Addr} {As rest : List Value} {g : JFrame}
    (hat : ClassAt s C cC) (S : CallFix p m c cc nL s args Ts own) (hM : vx_Met l y ws rm Pc Qc XC mc ms free) (cw : va_CS R s args own index y bytes maxL ret ws rm mc ms n) (hp : PreV s H C b Pc As)
    (hg : g.method = m) (hn : As.length = n) (hsize : g.locals.size = nL) (hstack : g.stack = As.reverse ++ .ref b :: rest) (hW : 2 * g.monitorRoom + (rest.map fun v => v.category).sum ≤ 8) (hdg : decode cc g.pc = .ok (.invokespecial index, 3)) (hf : cells + mc ≤ R.cells ∧ slots + ms ≤ R.slots) :
    vx_Run p l e R s m args below meth c H locs cells slots mc ms g rest (Qc (Value.ref b :: As).toArray) XC free := by
  obtain ⟨⟨hrc, hrs, hfr, hlo, hws, hcw⟩, hl1, hl2, hl3, hl4, hini, hcode, hno, hlen⟩ := cw
  have hK : vx_Back l R p e below s args y 3 8 (PreOf R mc ms Pc) (PostOf Qc mc ms free) (vx_Post XC mc ms free) := vx_back (bytes := bytes) (maxL := maxL) (ret := ret) hM hp.1 hrc hrs hfr hlo hws hcw (fun a' U hW => word_at hW (Or.inl (by first | rfl | simp [Cond.onTables, Cond.keeps, Cond.steady])) hini)
  obtain ⟨hx, hb, hml, ho, -⟩ := S
  obtain ⟨-, ⟨cellB, hcB, hoB, hclB⟩, hPc⟩ := hp
  obtain ⟨hfc, kB, hkB, -⟩ := hat
  cases hfc.symm.trans hclB
  intro T hT X
  rcases vx_callSU X hx (bytes := bytes) (maxL := maxL) (ret := ret) ho hl1 hl2 hl3 hl4 hcode hno hK (by rw [hT]; exact hcB) hoB hkB hg (hsize.trans hml.symm) (argsL := As) (rest := rest) (fun sig h => hn.trans (hlen sig h)) hstack hW (by rw [hb]; exact hdg)
    (fun vm₁ hW₁ => ⟨hf.1, hf.2, hPc (T.setVm vm₁) hT hW₁⟩) with ⟨v, vm₁, ⟨U', l2, c2, s2⟩, hW₁, X', ⟨g', mk, t, L, e1, e2, hq, h1, hL, h2, h3⟩, st⟩ | ⟨q, vm₁, ⟨U', l2, c2, s2⟩, hW₁, X', ⟨g', mk, t, L, E, ce, e1, e2, hq, hce, hcv, hcl, h1, hL, h2, h3⟩, st⟩
  · dsimp only [Pt.U, Pt.locs, Pt.cells, Pt.slots] at X' e1 e2 h1 h2 h3 st
    subst h1; subst h2; subst h3
    exact Or.inl ⟨v, (T.setVm vm₁).calling g' mk (Value.ref b :: As).toArray, t, U', L, hT, X', hL, e1, e2, hq, st⟩
  · dsimp only [Pt.U, Pt.locs, Pt.cells, Pt.slots] at X' e1 e2 h1 h2 h3 st hcl
    subst h1; subst h2; subst h3
    exact Or.inr ⟨q, (T.setVm vm₁).calling g' mk (Value.ref b :: As).toArray, t, U', L, E, ce, hT, X', hL, e1, e2, hq, hce, hcv, vx_cls hW₁ hcl, st⟩
end
/-! ===== END ===== -/
section JdkRules
variable {G : Gl} {κ : Kx} {M : Mx} {d : Nat} {Q : Option Value → Hp → Prop} {X : String → Hp → Prop} {cs ss pc : Nat} {L : List (Option LV)} {st : List Value} {σ : Hp}
/-- what a class selects of the private methods of the class above -/
theorem sel_priv {C : String} {y : MethodName} {s : State} {args : Array Value} {n : Nat} (hy : y.cls ≠ "java/lang/invoke/MethodHandle" ∧ y.cls ≠ "java/lang/invoke/VarHandle")
    (hins : (Cond.instantiable C n).before args s = true) (hpriv : (Cond.privateMethod y).before args s = true) (hinst : (Cond.instanceMethod y).before args s = true) (hno : ∀ k kk, s.vm.findClass y.cls = some k → s.vm.classes[k]? = some kk → kk.isInterface = false) :
    (Cond.selects C y y).before args s = true := by
  obtain ⟨c, k, hc, hk, -, hniab, -, -⟩ := Cond.instantiable_spec hins
  obtain ⟨mk, methM, hnamed, hmethM, -, -⟩ := Cond.instanceMethod_spec hinst
  have hfound : s.methodFound? y.cls y.name y.desc = some mk := State.methodFound?_of_named hnamed hy
  have hsel : selectMethod {} s.vm c mk = .method mk := selectMethod_private hmethM (Cond.privateMethod_at hpriv mk methM hnamed hmethM)
  obtain ⟨kP, hkP, -⟩ := className_of_methodNamed hnamed
  have hni := hno mk.cls kP (findClass_of_methodNamed hnamed) hkP
  simp only [Cond.before, Cond.holds, Cond.value, hc, hfound, hnamed, hsel, hkP]
  simp; exact hni
abbrev eB (G : Gl) (n : Nat) (f : Nat → Int32) : va_E := .inl (gC G 3, n, .inl f)
abbrev eZ (G : Gl) (n : Nat) (f : Nat → Int32) : va_E := .inl (gC G 4, n, .inl f)
theorem aw_baload (hΓ : Ok G κ M d Q X) {a n j : Nat} {f : Nat → Int32} {i : Int32} (hd : decode (mB M) pc = .ok (.baload, 1)) (hσ : σ a = some (eB G n f)) (hi : i = nI j) (hj : j < n) (hn : n < 2 ^ 31)
    (kk : AW G κ cs ss (pc + 1) L (.int (f j) :: st) σ) : AW G κ cs ss pc L (.int i :: .ref a :: st) σ := by
  obtain ⟨p, l, e, R, s, m, args, below, meth, c, Z⟩ := κ
  intro H locs cells slots ls hH hc hs hL
  obtain ⟨ws, hP, hD, hall⟩ := hH.1.ls
  obtain ⟨q0, he⟩ := hall _ _ hσ
  subst hi
  refine va_bald hΓ.exec hΓ.code hΓ.isK hP q0 3 he rfl (vp_in_nI hj hn) hd ?_
  rw [nI_clamp (Nat.lt_trans hj hn)]
  exact kk H locs cells slots ls hH hc hs hL
theorem aw_zaload (hΓ : Ok G κ M d Q X) {a n j : Nat} {f : Nat → Int32} {i : Int32} (hd : decode (mB M) pc = .ok (.baload, 1)) (hσ : σ a = some (eZ G n f)) (hi : i = nI j) (hj : j < n) (hn : n < 2 ^ 31)
    (kk : AW G κ cs ss (pc + 1) L (.int (f j) :: st) σ) : AW G κ cs ss pc L (.int i :: .ref a :: st) σ := by
  obtain ⟨p, l, e, R, s, m, args, below, meth, c, Z⟩ := κ
  intro H locs cells slots ls hH hc hs hL
  obtain ⟨ws, hP, hD, hall⟩ := hH.1.ls
  obtain ⟨q0, he⟩ := hall _ _ hσ
  subst hi
  refine va_zald hΓ.exec hΓ.code hΓ.isK hP q0 4 he rfl (vp_in_nI hj hn) hd ?_
  rw [nI_clamp (Nat.lt_trans hj hn)]
  exact kk H locs cells slots ls hH hc hs hL
theorem aw_bastore (hΓ : Ok G κ M d Q X) {a n j : Nat} {f : Nat → Int32} {i x v : Int32} (hd : decode (mB M) pc = .ok (.bastore, 1)) (hσ : σ a = some (eB G n f)) (hi : i = nI j) (hj : j < n) (hn : n < 2 ^ 31) (hv : vp_nar .byte x = v)
    (kk : AW G κ cs ss (pc + 1) L st (hset σ a (eB G n (upd f j v)))) : AW G κ cs ss pc L (.int x :: .int i :: .ref a :: st) σ := by
  obtain ⟨p, l, e, R, s, m, args, below, meth, c, Z⟩ := κ
  intro H locs cells slots ls hH hc hs hL
  obtain ⟨ws, hP, hD, hall⟩ := hH.1.ls
  obtain ⟨q0, he⟩ := hall _ _ hσ
  subst hi
  refine va_bast hΓ.exec hΓ.code hΓ.isK hP hD hH.2 q0 3 he rfl (vp_in_nI hj hn) hd (fun H1 locs1 hP1 hD1 hS1 => ?_)
  rw [nI_clamp (Nat.lt_trans hj hn), hv] at hP1 hD1
  exact kk H1 locs1 cells slots ls ⟨HS.put hall he hP1 hD1, hS1⟩ hc hs hL
theorem aw_zastore (hΓ : Ok G κ M d Q X) {a n j : Nat} {f : Nat → Int32} {i x v : Int32} (hd : decode (mB M) pc = .ok (.bastore, 1)) (hσ : σ a = some (eZ G n f)) (hi : i = nI j) (hj : j < n) (hn : n < 2 ^ 31) (hv : vp_nar .boolean x = v)
    (kk : AW G κ cs ss (pc + 1) L st (hset σ a (eZ G n (upd f j v)))) : AW G κ cs ss pc L (.int x :: .int i :: .ref a :: st) σ := by
  obtain ⟨p, l, e, R, s, m, args, below, meth, c, Z⟩ := κ
  intro H locs cells slots ls hH hc hs hL
  obtain ⟨ws, hP, hD, hall⟩ := hH.1.ls
  obtain ⟨q0, he⟩ := hall _ _ hσ
  subst hi
  refine va_zast hΓ.exec hΓ.code hΓ.isK hP hD hH.2 q0 4 he rfl (vp_in_nI hj hn) hd (fun H1 locs1 hP1 hD1 hS1 => ?_)
  rw [nI_clamp (Nat.lt_trans hj hn), hv] at hP1 hD1
  exact kk H1 locs1 cells slots ls ⟨HS.put hall he hP1 hD1, hS1⟩ hc hs hL
theorem aw_blen (hΓ : Ok G κ M d Q X) {a n : Nat} {f : Nat → Int32} (hd : decode (mB M) pc = .ok (.arraylength, 1)) (hσ : σ a = some (eB G n f))
    (kk : AW G κ cs ss (pc + 1) L (.int (nI n) :: st) σ) : AW G κ cs ss pc L (.ref a :: st) σ := by
  obtain ⟨p, l, e, R, s, m, args, below, meth, c, Z⟩ := κ
  intro H locs cells slots ls hH hc hs hL
  obtain ⟨ws, hP, hD, hall⟩ := hH.1.ls
  obtain ⟨q0, he⟩ := hall _ _ hσ
  exact va_alen hΓ.exec hΓ.code hΓ.isK hP q0 3 he (ty := .byte) rfl rfl hd (kk H locs cells slots ls hH hc hs hL)
theorem aw_newB (hΓ : Ok G κ M d Q X) {n : Nat} {x : Int32} (hw : Cond.arrayClass .byte ∈ lw_tbl) (hx : x = nI n) (hn : n < 1000000) (hd : decode (mB M) pc = .ok (.newarray .byte, 2))
    (kk : ∀ q : Nat, σ q = none → gB G ≤ q → AW G κ cs ss (pc + 2) L (.ref q :: st) (hset σ q (eB G n (fun _ => 0)))) : AW G κ (cs + 1) (ss + n) pc L (.int x :: st) σ := by
  obtain ⟨p, l, e, R, s, m, args, below, meth, c, Z⟩ := κ
  intro H locs cells slots ls hH hc hs hL
  obtain ⟨ws, hP, hD, hall⟩ := hH.1.ls
  subst hx
  refine va_newa hΓ.exec hΓ.code (atype := .byte) (hΓ.word hw rfl) (ty := .byte) rfl hΓ.isK hP hD hH.2 (fun q h => Nat.le_trans hΓ.base h) (a0 := (n, .inl (fun _ => 0))) (N' := n) (fun cA => rfl) (nI_pos (by omega)) (nI_clamp (by omega)) (by show n * 1 ≤ 536870912; omega) (by omega) (by omega) hd (fun q cA H1 hK1 hP1 hD1 hS1 => ?_)
  have e1 : cA = gC G 3 := by
    have h1 := (hK1.2 5 (cA, .byte) rfl).2
    have h2 := (hΓ.isK.2 3 (gC G 3, .byte) rfl).2
    exact Option.some.inj (h1.symm.trans h2)
  subst e1
  obtain ⟨h1, h2⟩ := HS.push hall hP1 hD1
  have hq : gB G ≤ q := (h1 q _ (hset_same _ _ _)).1
  exact kk q h2 hq H1 locs (cells + 1) (slots + n) ls ⟨h1, hS1⟩ (by omega) (by omega) hL
theorem aw_newZ (hΓ : Ok G κ M d Q X) {n : Nat} {x : Int32} (hw : Cond.arrayClass .boolean ∈ lw_tbl) (hx : x = nI n) (hn : n < 1000000) (hd : decode (mB M) pc = .ok (.newarray .boolean, 2))
    (kk : ∀ q : Nat, σ q = none → gB G ≤ q → AW G κ cs ss (pc + 2) L (.ref q :: st) (hset σ q (eZ G n (fun _ => 0)))) : AW G κ (cs + 1) (ss + n) pc L (.int x :: st) σ := by
  obtain ⟨p, l, e, R, s, m, args, below, meth, c, Z⟩ := κ
  intro H locs cells slots ls hH hc hs hL
  obtain ⟨ws, hP, hD, hall⟩ := hH.1.ls
  subst hx
  refine va_newa hΓ.exec hΓ.code (atype := .boolean) (hΓ.word hw rfl) (ty := .boolean) rfl hΓ.isK hP hD hH.2 (fun q h => Nat.le_trans hΓ.base h) (a0 := (n, .inl (fun _ => 0))) (N' := n) (fun cA => rfl) (nI_pos (by omega)) (nI_clamp (by omega)) (by show n * 1 ≤ 536870912; omega) (by omega) (by omega) hd (fun q cA H1 hK1 hP1 hD1 hS1 => ?_)
  have e1 : cA = gC G 4 := by
    have h1 := (hK1.2 5 (cA, .boolean) rfl).2
    have h2 := (hΓ.isK.2 4 (gC G 4, .boolean) rfl).2
    exact Option.some.inj (h1.symm.trans h2)
  subst e1
  obtain ⟨h1, h2⟩ := HS.push hall hP1 hD1
  have hq : gB G ≤ q := (h1 q _ (hset_same _ _ _)).1
  exact kk q h2 hq H1 locs (cells + 1) (slots + n) ls ⟨h1, hS1⟩ (by omega) (by omega) hL
/-- System.arraycopy over byte arrays -/
theorem aw_copyB (hΓ : Ok G κ M (d + 1) Q X) {index a0 a1 n0 n1 i j n : Nat} {f g : Nat → Int32} {sp dp len : Int32} (hlink : Cond.methodLink (mY M).cls index arraycopyName ∈ lw_tbl) (hnat : Cond.native arraycopyName ∈ lw_tbl) (hstat : Cond.static arraycopyName ∈ lw_tbl) (hini : Cond.initialized "java/lang/System" ∈ lw_tbl) (hd : decode (mB M) pc = .ok (.invokestatic index, 3)) (hst : (st.map fun v => v.category).sum ≤ 7) (h0 : σ a0 = some (eB G n0 f)) (h1 : σ a1 = some (eB G n1 g)) (hi : sp = nI i) (hj : dp = nI j) (hn : len = nI n) (hin : i + n ≤ n0) (hjn : j + n ≤ n1) (hb0 : n0 < 2 ^ 31) (hb1 : n1 < 2 ^ 31) (hfit : ∀ k, k < n → fits .byte (.int (f (i + k))) = true)
    (kk : AW G κ cs ss (pc + 3) L st (hset σ a1 (eB G n1 (va_cpy f g i j n)))) : AW G κ cs ss pc L (.int len :: .int dp :: .ref a1 :: .int sp :: .ref a0 :: st) σ := by
  obtain ⟨p, l, e, R, s, m, args, below, meth, c, Z⟩ := κ
  intro H locs cells slots ls hH hc hs hL
  obtain ⟨ws, hP, hD, hall⟩ := hH.1.ls
  obtain ⟨q0, he0⟩ := hall _ _ h0
  obtain ⟨q1, he1⟩ := hall _ _ h1
  have hf : d + 1 ≤ R.frames := hΓ.2.1.2.1
  have hlo : 38 * (d + 1) ≤ R.locals := hΓ.2.1.2.2
  have hw : nativeFrameWords "java/lang/System" "arraycopy" 5 ≤ 19 := by decide +kernel
  subst hi; subst hj; subst hn
  have ei : (nI i).toNatClampNeg = i := nI_clamp (by omega)
  have ej : (nI j).toNatClampNeg = j := nI_clamp (by omega)
  have en : (nI n).toNatClampNeg = n := nI_clamp (by omega)
  refine va_copyi hΓ.exec hΓ.code hL.1.symm hΓ.own (hΓ.word hlink rfl) (hΓ.word hnat rfl) (hΓ.word hstat rfl) (hΓ.word hini rfl) hΓ.isK hP hD hH.2 q0 q1 3 3 he0 he1 rfl rfl rfl (nI_pos (by omega)) (nI_pos (by omega)) (nI_pos (by omega)) (by rw [ei, en]; exact hin) (by rw [ej, en]; exact hjn) (fun k hk => by rw [ei]; exact hfit k (by rw [en] at hk; exact hk)) (by omega) (by omega) hd (fun H1 locs1 hP1 hD1 hS1 => ?_)
  rw [ei, ej, en] at hP1 hD1
  exact kk H1 locs1 cells slots ls ⟨HS.put hall he1 hP1 hD1, hS1⟩ hc hs hL
theorem aw_i2b (hΓ : Ok G κ M d Q X) {x v : Int32} (hd : decode (mB M) pc = .ok (.i2b, 1)) (hv : x.toInt8.toInt32 = v) (k : AW G κ cs ss (pc + 1) L (.int v :: st) σ) : AW G κ cs ss pc L (.int x :: st) σ := aw_of hΓ (fun hx hb k => lv_i2b hx hb hd hv k) k
theorem aw_dup_x1 (hΓ : Ok G κ M d Q X) {va vb : Value} (hd : decode (mB M) pc = .ok (.dup_x1, 1)) (hc : va.category = 1) (hc2 : vb.category = 1) (k : AW G κ cs ss (pc + 1) L (va :: vb :: va :: st) σ) : AW G κ cs ss pc L (va :: vb :: st) σ := aw_of hΓ (fun hx hb k => lv_dup_x1 hx hb hd hc hc2 k) k
/-- a byte array's copy -/
theorem aw_cloneB (hΓ : Ok G κ M (d + 1) Q X) {index a n : Nat} {f : Nat → Int32} (hlink : Cond.methodLink (mY M).cls index ⟨"[B", "clone", "()Ljava/lang/Object;"⟩ ∈ lw_tbl) (hsame : Cond.sameMethod "[B" "java/lang/Object" "clone" "()Ljava/lang/Object;" ∈ lw_tbl) (hnat : Cond.native ⟨"java/lang/Object", "clone", "()Ljava/lang/Object;"⟩ ∈ lw_tbl) (hinst : Cond.instanceMethod ⟨"java/lang/Object", "clone", "()Ljava/lang/Object;"⟩ ∈ lw_tbl) (hsel : Cond.selects "[B" ⟨"[B", "clone", "()Ljava/lang/Object;"⟩ ⟨"java/lang/Object", "clone", "()Ljava/lang/Object;"⟩ ∈ lw_tbl) (hcl : Cond.castable "[B" "java/lang/Cloneable" ∈ lw_tbl) (hd : decode (mB M) pc = .ok (.invokevirtual index, 3)) (hst : (st.map fun v => v.category).sum ≤ 7) (h0 : σ a = some (eB G n f)) (hfit : ∀ k, k < n → fits .byte (.int (f k)) = true)
    (kk : ∀ q : Nat, σ q = none → gB G ≤ q → AW G κ cs ss (pc + 3) L (.ref q :: st) (hset σ q (eB G n f))) : AW G κ (cs + 1) (ss + n) pc L (.ref a :: st) σ := by
  obtain ⟨p, l, e, R, s, m, args, below, meth, c, Z⟩ := κ
  intro H locs cells slots ls hH hc hs hL
  obtain ⟨ws, hP, hD, hall⟩ := hH.1.ls
  obtain ⟨q0, he⟩ := hall _ _ h0
  have hf : d + 1 ≤ R.frames := hΓ.2.1.2.1
  have hlo : 38 * (d + 1) ≤ R.locals := hΓ.2.1.2.2
  refine va_clone hΓ.exec hΓ.code hL.1.symm hΓ.own (hΓ.word hlink rfl) (hΓ.word hsame rfl) (hΓ.word hnat rfl) (hΓ.word hinst rfl) (hΓ.word hsel rfl) (hΓ.nest hcl rfl) hΓ.isK hP hD hH.2 (fun q h => Nat.le_trans hΓ.base h) q0 3 he rfl (hΓ.isK.2 3 (gC G 3, .byte) rfl).2 (fun i v hv => ?_) (by omega) (by omega) (by omega) (by show slots + n ≤ R.slots; omega) hd (fun q H1 hK1 hP1 hD1 hS1 => ?_)
  · have hi : i < n := by
      have h9 := (Array.getElem?_eq_some_iff.mp hv).1
      have h8 : (vp_cell (gC G 3) (n, .inl f)).slots.size = n := arrV_size _ _ _
      omega
    have h7 : (vp_cell (gC G 3) (n, .inl f)).slots[i]? = some (.int (f i)) := arrV_read _ _ hi
    rw [h7] at hv
    rw [← Option.some.inj hv]
    exact hfit i hi
  · obtain ⟨h1, h2⟩ := HS.push hall hP1 hD1
    have hq : gB G ≤ q := (h1 q _ (hset_same _ _ _)).1
    exact kk q h2 hq H1 locs (cells + 1) (slots + n) ls ⟨h1, hS1⟩ (by omega) (by omega) hL
theorem aw_castB (hΓ : Ok G κ M d Q X) {index a n : Nat} {f : Nat → Int32} (hlink : Cond.classLink (mY M).cls index "[B" ∈ lw_tbl) (hd : decode (mB M) pc = .ok (.checkcast index, 3)) (h0 : σ a = some (eB G n f)) (kk : AW G κ cs ss (pc + 3) L (.ref a :: st) σ) : AW G κ cs ss pc L (.ref a :: st) σ := by
  obtain ⟨p, l, e, R, s, m, args, below, meth, c, Z⟩ := κ
  intro H locs cells slots ls hH hc hs hL
  obtain ⟨ws, hP, hD, hall⟩ := hH.1.ls
  obtain ⟨q0, he⟩ := hall _ _ h0
  exact va_castA hΓ.exec hΓ.code hΓ.own (hΓ.word hlink rfl) hP q0 he (hΓ.isK.2 3 (gC G 3, .byte) rfl).2 hd (kk H locs cells slots ls hH hc hs hL)
theorem decl_of {x : MethodName} {s : State} {args : Array Value} {bytes : ByteArray} {maxL : Nat} {ret : Option FieldType} (hinst : (Cond.instanceMethod x).before args s = true) (hcode : (Cond.code x bytes maxL ret).before args s = true) : va_Decl s x := by
  obtain ⟨mk, methM, hnamed, hmethM, hstM, -⟩ := Cond.instanceMethod_spec hinst
  obtain ⟨methM', cM, hmethM', -, -, -, -, -, -, hsigM⟩ := Cond.code_spec hnamed hcode
  cases hmethM.symm.trans hmethM'
  exact ⟨mk, methM, hnamed, hmethM, hstM, hsigM⟩
/-- a method of the builder, called by the name of the class above -/
theorem aw_invU (hΓ : Ok G κ M (d + 1) Q X) {M2 : Mx} {index n b ci maxL0 : Nat} {x : MethodName} {bytes0 : ByteArray} {ret0 : Option FieldType} {C : String} {T : u_T} {N : Nat} {ty : Nat → FieldType} {fs : List Value} (As : List LV) (mc ms : Nat) (hH0 : mH M = []) (hm : MOk M2 n) (hC : ClsOk ci C T N ty) (hx : parseMethodDescriptor x.desc = parseMethodDescriptor (mY M2).desc) (hxn : x.cls ≠ "java/lang/invoke/MethodHandle" ∧ x.cls ≠ "java/lang/invoke/VarHandle") (hin : Cond.instanceMethod (mY M2) ∈ lw_tbl) (hsel : Cond.selects C x (mY M2) ∈ lw_tbl) (hlink : Cond.methodLink (mY M).cls index x ∈ lw_tbl) (hsame : Cond.sameMethod x.cls x.cls x.name x.desc ∈ lw_tbl) (hinx : Cond.instanceMethod x ∈ lw_tbl) (hcdx : Cond.code x bytes0 maxL0 ret0 ∈ lw_tbl) (hn : As.length = n) (hlen : As.length + 1 ≤ mL M2) (hst : (st.map fun v => v.category).sum ≤ 8) (hd : decode (mB M) pc = .ok (.invokevirtual index, 3)) (hσ : σ b = some (.inr (ci, fs)))
    (body : ∀ κ2 : Kx, Ok G κ2 M2 d (KV G κ cs ss (pc + 3) L st) X → AW G κ2 mc ms 0 (argL (.inr (some b) :: As) (mL M2)) [] σ) : AW G κ (cs + mc) (ss + ms) pc L ((As.map toV).reverse ++ .ref b :: st) σ := by
  obtain ⟨p, l, e, R, s, m, args, below, meth, c, Z⟩ := κ
  intro H locs cells slots ls hH hc hs hL
  obtain ⟨ws, hP, hD, hall⟩ := hH.1.ls
  obtain ⟨q0, he⟩ := hall _ _ hσ
  have hf : d + 1 ≤ R.frames := hΓ.2.1.2.1
  have hlo : 38 * (d + 1) ≤ R.locals := hΓ.2.1.2.2
  have h40 := hm.2.2.2.2.2.2
  have cu : va_CU R s args (mY M).cls C x.cls index x (mY M2) (mB M2) (mL M2) (mR M2) (mW M2) (mRm d mc ms) mc ms n := by
    refine ⟨⟨rfl, rfl, hf, ?_, ?_, List.mem_cons_self⟩, hΓ.word hm.2.1 rfl, hΓ.word hm.2.2.1 rfl, hxn, fun sig h => ?_, hΓ.word hlink rfl, hΓ.word hsame rfl, decl_of (hΓ.word hinx rfl) (hΓ.word hcdx rfl), hΓ.word hsel rfl, hΓ.word hin rfl⟩
    · show 8 + (mL M2 + 11) + 38 * d ≤ R.locals
      omega
    · refine pay_in hΓ.lays (fun w hw => ?_)
      rcases List.mem_cons.mp hw with h | h
      · rw [h]; exact ⟨List.mem_filter.mpr ⟨hm.2.1, rfl⟩, good_of_word rfl⟩
      · exact ⟨h, good_of_word (List.mem_filter.mp h).2⟩
    · have h2 := hm.2.2.2.2.1
      rw [← hx, h] at h2
      exact (Option.some.inj h2).symm
  refine aw_back (a := ((.inr (some b) :: As : List LV).map toV).toArray) hΓ hH0 hH hc hs hL (vx_runU (n := n) (C := C) (b := b) (As := As.map toV) hΓ.fix (met_of (As := .inr (some b) :: As) hΓ.2.1.1 hm hlen body) cu ⟨(hΓ.pre hH _).1, va_recv hΓ.isK hP hC.1 he, (hΓ.pre hH _).2⟩ rfl (by rw [List.length_map]; exact hn) hL.1 rfl ?_ hd ⟨by omega, by omega⟩)
  show 2 * 0 + (st.map fun v => v.category).sum ≤ 8
  omega
/-- super.m(..) -/
theorem aw_invSU (hΓ : Ok G κ M (d + 1) Q X) {M2 : Mx} {index n b ci : Nat} {C : String} {T : u_T} {N : Nat} {ty : Nat → FieldType} {fs : List Value} (As : List LV) (mc ms : Nat) (hH0 : mH M = []) (hm : MOk M2 n) (hC : ClsOk ci C T N ty) (hnm : (mY M2).name ≠ "<init>") (hin : Cond.instanceMethod (mY M2) ∈ lw_tbl) (hlink : Cond.methodLink (mY M).cls index (mY M2) ∈ lw_tbl) (hsame : Cond.sameMethod (mY M2).cls (mY M2).cls (mY M2).name (mY M2).desc ∈ lw_tbl) (hsup : Cond.superclass (mY M).cls (mY M2).cls ∈ lw_tbl) (hn : As.length = n) (hlen : As.length + 1 ≤ mL M2) (hst : (st.map fun v => v.category).sum ≤ 8) (hd : decode (mB M) pc = .ok (.invokespecial index, 3)) (hσ : σ b = some (.inr (ci, fs)))
    (body : ∀ κ2 : Kx, Ok G κ2 M2 d (KV G κ cs ss (pc + 3) L st) X → AW G κ2 mc ms 0 (argL (.inr (some b) :: As) (mL M2)) [] σ) : AW G κ (cs + mc) (ss + ms) pc L ((As.map toV).reverse ++ .ref b :: st) σ := by
  obtain ⟨p, l, e, R, s, m, args, below, meth, c, Z⟩ := κ
  intro H locs cells slots ls hH hc hs hL
  obtain ⟨ws, hP, hD, hall⟩ := hH.1.ls
  obtain ⟨q0, he⟩ := hall _ _ hσ
  have hf : d + 1 ≤ R.frames := hΓ.2.1.2.1
  have hlo : 38 * (d + 1) ≤ R.locals := hΓ.2.1.2.2
  have h40 := hm.2.2.2.2.2.2
  have cu : va_CS R s args (mY M).cls index (mY M2) (mB M2) (mL M2) (mR M2) (mW M2) (mRm d mc ms) mc ms n := by
    refine ⟨⟨rfl, rfl, hf, ?_, ?_, List.mem_cons_self⟩, hΓ.word hlink rfl, hΓ.word hsame rfl, hΓ.word hsup rfl, hΓ.word hin rfl, hΓ.word hm.2.2.1 rfl, hΓ.word hm.2.1 rfl, hnm, fun sig h => ?_⟩
    · show 8 + (mL M2 + 11) + 38 * d ≤ R.locals
      omega
    · refine pay_in hΓ.lays (fun w hw => ?_)
      rcases List.mem_cons.mp hw with h | h
      · rw [h]; exact ⟨List.mem_filter.mpr ⟨hm.2.1, rfl⟩, good_of_word rfl⟩
      · exact ⟨h, good_of_word (List.mem_filter.mp h).2⟩
    · have h2 := hm.2.2.2.2.1
      rw [h] at h2
      exact (Option.some.inj h2).symm
  refine aw_back (a := ((.inr (some b) :: As : List LV).map toV).toArray) hΓ hH0 hH hc hs hL (vx_runSU (n := n) (C := C) (cC := (gD G).1 ci) (b := b) (As := As.map toV) (hΓ.isK.1 ci _ hC.1).2 hΓ.fix (met_of (As := .inr (some b) :: As) hΓ.2.1.1 hm hlen body) cu ⟨(hΓ.pre hH _).1, va_recv hΓ.isK hP hC.1 he, (hΓ.pre hH _).2⟩ rfl (by rw [List.length_map]; exact hn) hL.1 rfl ?_ hd ⟨by omega, by omega⟩)
  show 2 * 0 + (st.map fun v => v.category).sum ≤ 8
  omega
/-- a method of an object, found by its class, which need not be the method's own -/
theorem aw_invC (hΓ : Ok G κ M (d + 1) Q X) {M2 : Mx} {index n b ci : Nat} {C : String} {T : u_T} {N : Nat} {ty : Nat → FieldType} {fs : List Value} (As : List LV) (mc ms : Nat) (hH0 : mH M = []) (hm : MOk M2 n) (hC : ClsOk ci C T N ty) (hin : Cond.instanceMethod (mY M2) ∈ lw_tbl) (hsel : Cond.selects C (mY M2) (mY M2) ∈ lw_tbl) (hlink : Cond.methodLink (mY M).cls index (mY M2) ∈ lw_tbl) (hn : As.length = n) (hlen : As.length + 1 ≤ mL M2) (hst : (st.map fun v => v.category).sum ≤ 8) (hd : decode (mB M) pc = .ok (.invokevirtual index, 3)) (hσ : σ b = some (.inr (ci, fs)))
    (body : ∀ κ2 : Kx, Ok G κ2 M2 d (KV G κ cs ss (pc + 3) L st) X → AW G κ2 mc ms 0 (argL (.inr (some b) :: As) (mL M2)) [] σ) : AW G κ (cs + mc) (ss + ms) pc L ((As.map toV).reverse ++ .ref b :: st) σ := by
  obtain ⟨p, l, e, R, s, m, args, below, meth, c, Z⟩ := κ
  intro H locs cells slots ls hH hc hs hL
  obtain ⟨ws, hP, hD, hall⟩ := hH.1.ls
  obtain ⟨q0, he⟩ := hall _ _ hσ
  refine aw_back (a := ((.inr (some b) :: As : List LV).map toV).toArray) hΓ hH0 hH hc hs hL (vx_runV (n := n) (C := C) (b := b) (As := As.map toV) hΓ.fix (met_of (As := .inr (some b) :: As) hΓ.2.1.1 hm hlen body) ⟨hm.callB hΓ hlink, hΓ.word hin rfl, hΓ.word hsel rfl⟩ ⟨(hΓ.pre hH _).1, va_recv hΓ.isK hP hC.1 he, (hΓ.pre hH _).2⟩ rfl (by rw [List.length_map]; exact hn) hL.1 rfl ?_ hd ⟨by omega, by omega⟩)
  show 2 * 0 + (st.map fun v => v.category).sum ≤ 8
  omega
theorem aw_i2d (hΓ : Ok G κ M d Q X) {x : Int32} (hd : decode (mB M) pc = .ok (.i2d, 1)) (k : AW G κ cs ss (pc + 1) L (.double (FP.i2d x) :: st) σ) : AW G κ cs ss pc L (.int x :: st) σ := aw_of hΓ (fun hx hb k => lv_i2d hx hb hd k) k
theorem aw_i2f (hΓ : Ok G κ M d Q X) {x : Int32} (hd : decode (mB M) pc = .ok (.i2f, 1)) (k : AW G κ cs ss (pc + 1) L (.float (FP.i2f x) :: st) σ) : AW G κ cs ss pc L (.int x :: st) σ := aw_of hΓ (fun hx hb k => lv_i2f hx hb hd k) k
theorem aw_dcmp (hΓ : Ok G κ M d Q X) {x y : UInt64} {op : CmpOp} (hd : decode (mB M) pc = .ok (.dcmp op, 1)) (k : AW G κ cs ss (pc + 1) L (.int (Op.cmpValue (FP.dcmp x y) op) :: st) σ) : AW G κ cs ss pc L (.double y :: .double x :: st) σ := aw_of hΓ (fun hx hb k => lv_dcmp hx hb hd k) k
theorem aw_fcmp (hΓ : Ok G κ M d Q X) {x y : UInt32} {op : CmpOp} (hd : decode (mB M) pc = .ok (.fcmp op, 1)) (k : AW G κ cs ss (pc + 1) L (.int (Op.cmpValue (FP.fcmp x y) op) :: st) σ) : AW G κ cs ss pc L (.float y :: .float x :: st) σ := aw_of hΓ (fun hx hb k => lv_fcmp hx hb hd k) k
theorem aw_fconst0 (hΓ : Ok G κ M d Q X) (hd : decode (mB M) pc = .ok (.fconst 0, 1)) (k : AW G κ cs ss (pc + 1) L (.float FP.fconst0 :: st) σ) : AW G κ cs ss pc L st σ := aw_of hΓ (fun hx hb k => lv_fconst0 hx hb hd k) k
theorem aw_dreturn (hΓ : Ok G κ M d Q X) {x : UInt64} (hd : decode (mB M) pc = .ok (.dreturn, 1)) (hr : mR M = some .double) (hq : Q (some (.double x)) σ) : AW G κ cs ss pc L [.double x] σ := by
  obtain ⟨p, l, e, R, s, m, args, below, meth, c, Z⟩ := κ
  intro H locs cells slots ls hH hc hs hL
  exact hΓ.2.2.2.1 _ _ _ _ _ _ _ _ hq hH (by omega) (by omega) (Or.inr (Or.inr (Or.inr (Or.inl ⟨x, rfl, hd, hr⟩))))
theorem aw_freturn (hΓ : Ok G κ M d Q X) {x : UInt32} (hd : decode (mB M) pc = .ok (.freturn, 1)) (hr : mR M = some .float) (hq : Q (some (.float x)) σ) : AW G κ cs ss pc L [.float x] σ := by
  obtain ⟨p, l, e, R, s, m, args, below, meth, c, Z⟩ := κ
  intro H locs cells slots ls hH hc hs hL
  exact hΓ.2.2.2.1 _ _ _ _ _ _ _ _ hq hH (by omega) (by omega) (Or.inr (Or.inr (Or.inr (Or.inr ⟨x, rfl, hd, hr⟩))))
end JdkRules
