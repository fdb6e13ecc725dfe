/-! methods that answer a double or a float; the law's two calls of them -/
/-- what a method owes that answers a number -/
def OkN (G : Gl) (κ : Kx) (M : Mx) (Q : Option Value → Hp → Prop) : Prop :=
  match κ with
  | (p, l, e, R, s, m, args, below, meth, c, Z) =>
    (∀ (x : UInt64) (σ : Hp) (H : Heap) (locs : List Loc) (cells slots pc : Nat) (ls : Array Slot), Q (some (.double x)) σ → HR G s σ H locs → cells ≤ R.cells → slots ≤ R.slots → decode (mB M) pc = .ok (.dreturn, 1) → mR M = some .double → W p l e R s m args below meth c H locs cells slots Z (F0 m pc ls [.double x])) ∧
    (∀ (x : UInt32) (σ : Hp) (H : Heap) (locs : List Loc) (cells slots pc : Nat) (ls : Array Slot), Q (some (.float x)) σ → HR G s σ H locs → cells ≤ R.cells → slots ≤ R.slots → decode (mB M) pc = .ok (.freturn, 1) → mR M = some .float → W p l e R s m args below meth c H locs cells slots Z (F0 m pc ls [.float x]))
abbrev noQ : Option Value → Hp → Prop := fun _ _ => False
abbrev noX : String → Hp → Prop := fun _ _ => False
theorem met_ofN {l : Launch} (hl : l.stackTraces = false) {G : Gl} {M : Mx} {d mc ms n : Nat} {σ : Hp} {As : List LV} {Q : Option Value → Hp → Prop} (hm : MOk M n) (hlen : As.length ≤ mL M)
    (body : ∀ κ : Kx, Ok G κ M d noQ noX → OkN G κ M Q → AW G κ mc ms 0 (argL As (mL M)) [] σ) : vx_Met l (mY M) (mW M) (mRm d mc ms) (gPc G σ (As.map toV)) (gQc G Q) (gXc G noX) mc ms (gA G) := by
  refine vx_ofW (cc := mB M) (maxL := mL M) (ret := mR M) hm.1 rfl ?_
  intro p e s m args below meth c s₁ B hml ht hv
  obtain ⟨rfl, hgi, hhs, hbase⟩ := hv
  have hts := atoms_spec (ws := mW M) B.pre
  have htab : c.exceptionTable.toList = [] := List.eq_nil_iff_forall_not_mem.mpr ht
  have hok : Ok G (p, l, e, (headSpec (mW M) (mRm d mc ms)).room, s, m, (As.map toV).toArray, below, meth, c, vx_MQ below (gQc G Q) (gXc G noX) (As.map toV).toArray s mc ms (gA G)) M d noQ noX :=
    ⟨⟨B.exec, B.bytes, hml, B.returns, findClass_of_methodNamed B.named, (name_of_methodNamed B.named B.method).1, B.notSynchronized, by rw [htab, hm.2.2.2.2.2.1]; rfl⟩, ⟨hl, Nat.le_refl _, Nat.le_refl _⟩, ⟨fun w hw hg => hts w (List.mem_cons_of_mem _ (List.mem_filter.mpr ⟨hw, hg⟩)), hgi, hbase⟩, fun v σ1 H locs cells slots pc ls hq => hq.elim, Or.inl (fun _ _ h => h)⟩
  have hokn : OkN G (p, l, e, (headSpec (mW M) (mRm d mc ms)).room, s, m, (As.map toV).toArray, below, meth, c, vx_MQ below (gQc G Q) (gXc G noX) (As.map toV).toArray s mc ms (gA G)) M Q := by
    refine ⟨fun x σ1 H locs cells slots pc ls hq hH hc hs hd hty => ?_, fun x σ1 H locs cells slots pc ls hq hH hc hs hd hty => ?_⟩
    · have hend : ∀ t : State, t.heap = H → s.WarmedH t.vm → gQc G Q (As.map toV).toArray s (.returned (some (.double x))) t := fun t h1 h2 => ⟨⟨_, σ1, rfl, hq, by rw [h1]; exact hH.1⟩, hH.2.F h1⟩
      refine W.widen (k := mc) (n := ms) hc hs (vx_ret ?_)
      exact W.dret B.exec B.bytes (B.returns.trans hty) hend hH.2.2.2 hd B.notSynchronized
    · have hend : ∀ t : State, t.heap = H → s.WarmedH t.vm → gQc G Q (As.map toV).toArray s (.returned (some (.float x))) t := fun t h1 h2 => ⟨⟨_, σ1, rfl, hq, by rw [h1]; exact hH.1⟩, hH.2.F h1⟩
      refine W.widen (k := mc) (n := ms) hc hs (vx_ret ?_)
      exact W.fret B.exec B.bytes (B.returns.trans hty) hend hH.2.2.2 hd B.notSynchronized
  have hk := body _ hok hokn
  have hle := lv_entry (As.map toV) (n := mL M) (by rw [lg_sl_V]; exact hlen)
  rw [lg_entry_eq]
  refine hk s.heap [] 0 0 _ ⟨hhs, va_S.rf⟩ (Nat.le_of_eq (Nat.zero_add _)) (Nat.le_of_eq (Nat.zero_add _)) ?_
  show lv_has _ c.maxLocals (lal 0 (argL As (mL M)))
  unfold argL
  rw [hml, lal_args]
  exact hle
/-- a frame whose locals are told one by one, wide ones too -/
def AX (G : Gl) (κ : Kx) (cs ss pc : Nat) (D : List (Nat × Value)) (st : List Value) (σ : Hp) : Prop :=
  match κ with
  | (p, l, e, R, s, m, args, below, meth, c, Z) => ∀ (H : Heap) (locs : List Loc) (cells slots : Nat) (ls : Array Slot), HR G s σ H locs → cells + cs ≤ R.cells → slots + ss ≤ R.slots → lv_has ls c.maxLocals D → W p l e R s m args below meth c H locs cells slots Z (F0 m pc ls st)
def KX (G : Gl) (κ : Kx) (cs ss pc : Nat) (D : List (Nat × Value)) (st : List Value) : Option Value → Hp → Prop
  | some v, σ => AX G κ cs ss pc D (v :: st) σ
  | none, σ => AX G κ cs ss pc D st σ
theorem q517 : Cond.instanceMethod ⟨"TrainDecoder", "meanSpeed", "()D"⟩ ∈ lw_tbl := List.mem_of_getElem? (i := 517) (by decide +kernel)
theorem q518 : Cond.selects "TrainDecoder" ⟨"TrainDecoder", "meanSpeed", "()D"⟩ ⟨"TrainDecoder", "meanSpeed", "()D"⟩ ∈ lw_tbl := List.mem_of_getElem? (i := 518) (by decide +kernel)
theorem q516 : Cond.methodLink "TrainDecoderLaw" (249) ⟨"TrainDecoder", "meanSpeed", "()D"⟩ ∈ lw_tbl := List.mem_of_getElem? (i := 516) (by decide +kernel)
theorem q1665 : Cond.instanceMethod ⟨"TrainDecoderModel", "meanSpeed", "()D"⟩ ∈ lw_tbl := List.mem_of_getElem? (i := 1665) (by decide +kernel)
theorem q1666 : Cond.selects "TrainDecoderModel" ⟨"TrainDecoderModel", "meanSpeed", "()D"⟩ ⟨"TrainDecoderModel", "meanSpeed", "()D"⟩ ∈ lw_tbl := List.mem_of_getElem? (i := 1666) (by decide +kernel)
theorem q1664 : Cond.methodLink "TrainDecoderLaw" (253) ⟨"TrainDecoderModel", "meanSpeed", "()D"⟩ ∈ lw_tbl := List.mem_of_getElem? (i := 1664) (by decide +kernel)
theorem q525 : Cond.instanceMethod ⟨"TrainDecoder", "obeyedShare", "()F"⟩ ∈ lw_tbl := List.mem_of_getElem? (i := 525) (by decide +kernel)
theorem q526 : Cond.selects "TrainDecoder" ⟨"TrainDecoder", "obeyedShare", "()F"⟩ ⟨"TrainDecoder", "obeyedShare", "()F"⟩ ∈ lw_tbl := List.mem_of_getElem? (i := 526) (by decide +kernel)
theorem q524 : Cond.methodLink "TrainDecoderLaw" (254) ⟨"TrainDecoder", "obeyedShare", "()F"⟩ ∈ lw_tbl := List.mem_of_getElem? (i := 524) (by decide +kernel)
theorem q1673 : Cond.instanceMethod ⟨"TrainDecoderModel", "obeyedShare", "()F"⟩ ∈ lw_tbl := List.mem_of_getElem? (i := 1673) (by decide +kernel)
theorem q1674 : Cond.selects "TrainDecoderModel" ⟨"TrainDecoderModel", "obeyedShare", "()F"⟩ ⟨"TrainDecoderModel", "obeyedShare", "()F"⟩ ∈ lw_tbl := List.mem_of_getElem? (i := 1674) (by decide +kernel)
theorem q1672 : Cond.methodLink "TrainDecoderLaw" (258) ⟨"TrainDecoderModel", "obeyedShare", "()F"⟩ ∈ lw_tbl := List.mem_of_getElem? (i := 1672) (by decide +kernel)
section NumRules
variable {G : Gl} {κ : Kx} {M : Mx} {d : Nat} {Q Q2 : Option Value → Hp → Prop} {X : String → Hp → Prop} {cs ss pc : Nat} {L : List (Option LV)} {D : List (Nat × Value)} {st : List Value} {σ : Hp}
theorem aw_i2d (hΓ : Ok G κ M d Q X) {x : Int32} (hd : decode (mB M) pc = .ok (.i2d, 1)) (k : AW G κ cs ss (pc + 1) L (.double (FP.i2d x) :: st) σ) : AW G κ cs ss pc L (.int x :: st) σ := aw_of hΓ (fun hx hb k => lv_i2d hx hb hd k) k
theorem aw_i2f (hΓ : Ok G κ M d Q X) {x : Int32} (hd : decode (mB M) pc = .ok (.i2f, 1)) (k : AW G κ cs ss (pc + 1) L (.float (FP.i2f x) :: st) σ) : AW G κ cs ss pc L (.int x :: st) σ := aw_of hΓ (fun hx hb k => lv_i2f hx hb hd k) k
theorem aw_ddiv (hΓ : Ok G κ M d Q X) {x y : UInt64} (hd : decode (mB M) pc = .ok (.ddiv, 1)) (hne : fo_d (FP.ddiv x y)) (k : AW G κ cs ss (pc + 1) L (.double (FP.ddiv x y) :: st) σ) : AW G κ cs ss pc L (.double y :: .double x :: st) σ := aw_of hΓ (fun hx hb k => lv_ddiv hx hb hd (fo_n64 hne) k) k
theorem aw_fdiv (hΓ : Ok G κ M d Q X) {x y : UInt32} (hd : decode (mB M) pc = .ok (.fdiv, 1)) (hne : fo_s (FP.fdiv x y)) (k : AW G κ cs ss (pc + 1) L (.float (FP.fdiv x y) :: st) σ) : AW G κ cs ss pc L (.float y :: .float x :: st) σ := aw_of hΓ (fun hx hb k => lv_fdiv hx hb hd (fo_n32 hne) k) k
theorem aw_fconst0 (hΓ : Ok G κ M d Q X) (hd : decode (mB M) pc = .ok (.fconst 0, 1)) (k : AW G κ cs ss (pc + 1) L (.float FP.fconst0 :: st) σ) : AW G κ cs ss pc L st σ := aw_of hΓ (fun hx hb k => lv_fconst0 hx hb hd k) k
theorem aw_dreturn (hK : OkN G κ M Q) {x : UInt64} (hd : decode (mB M) pc = .ok (.dreturn, 1)) (hr : mR M = some .double) (hq : Q (some (.double x)) σ) : AW G κ cs ss pc L [.double x] σ := by
  obtain ⟨p, l, e, R, s, m, args, below, meth, c, Z⟩ := κ
  intro H locs cells slots ls hH hc hs hL
  exact hK.1 _ _ _ _ _ _ _ _ hq hH (by omega) (by omega) hd hr
theorem aw_freturn (hK : OkN G κ M Q) {x : UInt32} (hd : decode (mB M) pc = .ok (.freturn, 1)) (hr : mR M = some .float) (hq : Q (some (.float x)) σ) : AW G κ cs ss pc L [.float x] σ := by
  obtain ⟨p, l, e, R, s, m, args, below, meth, c, Z⟩ := κ
  intro H locs cells slots ls hH hc hs hL
  exact hK.2 _ _ _ _ _ _ _ _ hq hH (by omega) (by omega) hd hr
theorem ax_aw (h : AX G κ cs ss pc (lal 0 L) st σ) : AW G κ cs ss pc L st σ := by
  obtain ⟨p, l, e, R, s, m, args, below, meth, c, Z⟩ := κ
  exact h
theorem aw_ax (h : AW G κ cs ss pc L st σ) : AX G κ cs ss pc (lal 0 L) st σ := by
  obtain ⟨p, l, e, R, s, m, args, below, meth, c, Z⟩ := κ
  exact h
theorem ax_less {D1 : List (Nat × Value)} (hs : ∀ q ∈ D1, q ∈ D) (h : AX G κ cs ss pc D1 st σ) : AX G κ cs ss pc D st σ := by
  obtain ⟨p, l, e, R, s, m, args, below, meth, c, Z⟩ := κ
  exact fun H locs cells slots ls hH hc h2 hL => h H locs cells slots ls hH hc h2 (lv_less hL hs)
theorem ax_aload_n (hΓ : Ok G κ M d Q X) {kk : Fin 4} {i a : Nat} (hd : decode (mB M) pc = .ok (.aload_n kk, 1)) (hi : (kk : Nat) = i) (hm : (i, Value.ref a) ∈ D) (k : AX G κ cs ss (pc + 1) D (.ref a :: st) σ) : AX G κ cs ss pc D st σ := by
  obtain ⟨p, l, e, R, s, m, args, below, meth, c, Z⟩ := κ
  intro H locs cells slots ls hH hc hs hL
  exact lv_aload_n hΓ.exec hΓ.code hd hi (hL.2.2 _ hm) (k H locs cells slots ls hH hc hs hL)
theorem ax_dload (hΓ : Ok G κ M d Q X) {i : Nat} {x : UInt64} (hd : decode (mB M) pc = .ok (.dload i, 2)) (hm : (i, Value.double x) ∈ D) (k : AX G κ cs ss (pc + 2) D (.double x :: st) σ) : AX G κ cs ss pc D st σ := by
  obtain ⟨p, l, e, R, s, m, args, below, meth, c, Z⟩ := κ
  intro H locs cells slots ls hH hc hs hL
  exact lv_dload hΓ.exec hΓ.code hd (hL.2.2 _ hm) (k H locs cells slots ls hH hc hs hL)
theorem ax_dstore (hΓ : Ok G κ M d Q X) {i : Nat} {x : UInt64} {D1 : List (Nat × Value)} (hd : decode (mB M) pc = .ok (.dstore i, 2)) (hn : i + 1 < mL M) (hl : (i, Value.double x) :: D.filter (fun q => !(q.1 == i) && (!(q.1 == i + 1) && !(q.1 + 1 == i && q.2.category == 2))) = D1) (k : AX G κ cs ss (pc + 2) D1 st σ) : AX G κ cs ss pc D (.double x :: st) σ := by
  obtain ⟨p, l, e, R, s, m, args, below, meth, c, Z⟩ := κ
  intro H locs cells slots ls hH hc hs hL
  exact lv_dstore hΓ.exec hΓ.code hd hL (by rw [hΓ.maxL]; exact hn) hl (fun ls1 h1 => k H locs cells slots ls1 hH hc hs h1)
theorem ax_dcmp (hΓ : Ok G κ M d Q X) {x : UInt64} {op : CmpOp} (hd : decode (mB M) pc = .ok (.dcmp op, 1)) (hx : fo_d x) (k : AX G κ cs ss (pc + 1) D (.int 0 :: st) σ) : AX G κ cs ss pc D (.double x :: .double x :: st) σ := by
  obtain ⟨p, l, e, R, s, m, args, below, meth, c, Z⟩ := κ
  intro H locs cells slots ls hH hc hs hL
  refine lv_dcmp hΓ.exec hΓ.code hd ?_
  rw [fo_cmp hx]
  exact k H locs cells slots ls hH hc hs hL
theorem ax_f2d (hΓ : Ok G κ M d Q X) {x : UInt32} (hd : decode (mB M) pc = .ok (.f2d, 1)) (hx : fo_d (FP.f2d x)) (k : AX G κ cs ss (pc + 1) D (.double (FP.f2d x) :: st) σ) : AX G κ cs ss pc D (.float x :: st) σ := by
  obtain ⟨p, l, e, R, s, m, args, below, meth, c, Z⟩ := κ
  intro H locs cells slots ls hH hc hs hL
  exact lv_f2d hΓ.exec hΓ.code hd (fo_n64 hx) (k H locs cells slots ls hH hc hs hL)
theorem ax_if0 (hΓ : Ok G κ M d Q X) {off : Int} {tgt : Nat} (hd : decode (mB M) pc = .ok (.ifCond .eq off, 3)) (ht : (pc : Int) + off = (tgt : Int)) (k : AX G κ cs ss tgt D st σ) : AX G κ cs ss pc D (.int 0 :: st) σ := by
  obtain ⟨p, l, e, R, s, m, args, below, meth, c, Z⟩ := κ
  intro H locs cells slots ls hH hc hs hL
  exact lv_if_eq hΓ.exec hΓ.code hd ht (fun _ => k H locs cells slots ls hH hc hs hL) (fun h => absurd rfl h)
theorem ax_goto (hΓ : Ok G κ M d Q X) {off : Int} {tgt : Nat} (hd : decode (mB M) pc = .ok (.goto off, 3)) (ht : (pc : Int) + off = (tgt : Int)) (k : AX G κ cs ss tgt D st σ) : AX G κ cs ss pc D st σ := by
  obtain ⟨p, l, e, R, s, m, args, below, meth, c, Z⟩ := κ
  intro H locs cells slots ls hH hc hs hL
  exact lv_goto hΓ.exec hΓ.code hd ht (k H locs cells slots ls hH hc hs hL)
/-- a method without arguments that answers a number and doesn't throw -/
theorem ax_invN (hΓ : Ok G κ M (d + 1) Q X) {M2 : Mx} {index b ci : Nat} {C : String} {T : u_T} {N : Nat} {ty : Nat → FieldType} {fs : List Value} (mc ms : Nat) (hm : MOk M2 0) (hC : ClsOk ci C T N ty) (hcls : (mY M2).cls = C) (hin : Cond.instanceMethod (mY M2) ∈ lw_tbl) (hsel : Cond.selects C (mY M2) (mY M2) ∈ lw_tbl) (hlink : Cond.methodLink (mY M).cls index (mY M2) ∈ lw_tbl) (hlen : 1 ≤ mL M2) (hst : (st.map fun v => v.category).sum ≤ 8) (hd : decode (mB M) pc = .ok (.invokevirtual index, 3)) (hσ : σ b = some (.inr (ci, fs)))
    (body : ∀ κ2 : Kx, Ok G κ2 M2 d noQ noX → OkN G κ2 M2 (KX G κ cs ss (pc + 3) D st) → AW G κ2 mc ms 0 (argL [.inr (some b)] (mL M2)) [] σ) : AX G κ (cs + mc) (ss + ms) pc D (.ref b :: st) σ := by
  obtain ⟨p, l, e, R, s, m, args, below, meth, c, Z⟩ := κ
  intro H locs cells slots ls hH hc hs hL
  obtain ⟨ws, hP, hD, hall⟩ := hH.1.ls
  obtain ⟨q0, he⟩ := hall _ _ hσ
  have hr := vx_runV (p := p) (l := l) (e := e) (R := R) (below := below) (meth := meth) (H := H) (locs := locs) (cells := cells) (slots := slots) (g := F0 m pc ls (.ref b :: st)) (rest := st) (n := 0) (C := C) (b := b) (As := ([] : List LV).map toV) hΓ.fix (met_ofN (As := [.inr (some b)]) hΓ.2.1.1 hm hlen body) ⟨hm.callB hΓ hlink, hΓ.word hin rfl, hΓ.word hsel rfl⟩ ⟨(hΓ.pre hH _).1, va_recv hΓ.isK hP hC.1 he, (hΓ.pre hH _).2⟩ rfl rfl hL.1 rfl (by show 2 * 0 + (st.map fun v => v.category).sum ≤ 8; omega) hd ⟨by omega, by omega⟩
  intro T hT Xs
  rcases hr T hT Xs with ⟨v, st1, t, T1, L1, h0, X1, hfree, e1, e2, ⟨⟨v1, σ1, ho, hq, hs1⟩, hF⟩, go⟩ | ⟨q, st1, t, T1, L1, E, ce, h0, X1, hfree, e1, e2, ⟨⟨σ1, hx, hs1⟩, hF⟩, hce, hcv, hcl, steps⟩
  · cases ho
    have hR : HR G s σ1 T1.heap (locs ++ L1) := ⟨by rw [e1]; exact hs1, (vx_keep h0 e1 hH.2 (fun _ _ h => h) (fun _ h => h) hfree hF).2.2⟩
    cases v with
    | none =>
      obtain ⟨t2, a1, b1⟩ := hq T1.heap (locs ++ L1) (cells + mc) (slots + ms) ls hR (by omega) (by omega) hL T1 rfl X1
      exact ⟨t2, go t2 a1, b1⟩
    | some v =>
      obtain ⟨t2, a1, b1⟩ := hq T1.heap (locs ++ L1) (cells + mc) (slots + ms) ls hR (by omega) (by omega) hL T1 rfl X1
      exact ⟨t2, go t2 a1, b1⟩
  · exact hx.elim
end NumRules
def fo_sh (o r : Int32) : UInt32 := if r = 0 then FP.fconst0 else FP.fdiv (FP.i2f o) (FP.i2f r)
theorem fo_sh_s {o r : Int32} : fo_s (fo_sh o r) := by
  unfold fo_sh
  by_cases h : r = 0
  · rw [if_pos h]; exact fo_f0
  · rw [if_neg h]; exact fo_fdiv h
section NumCalls
variable {G : Gl} {κ : Kx} {d : Nat} {Q : Option Value → Hp → Prop} {X : String → Hp → Prop} {cs ss : Nat} {σ : Hp} {c A r : Nat → Nat} {s0 x am o n ii : Nat} {yi : Int32} {xs z : Nat → Int32} {B : Nat → Nat → Int32} {f : Nat → Int64} {w5 w6 w7 w8 : Option LV}
theorem tn_meanSpeed {hs ol : Int32} {t q p s : Nat} {tr : Nat → Nat} {C : Ct} {ρ : Nat → Int32} (hΓ : Ok G κ mX12_meanSpeed (d + 2) noQ noX) (hK : OkN G κ mX12_meanSpeed Q) (hX : σ x = some (.inr (9, tdV A hs ol))) (g : RG G σ (A 0) t q p tr n C.1 C.2.1 C.2.2.1 C.2.2.2) (hV : RV ρ n s) (hC : CR ρ n s C) (hq : Q (some (.double (FP.ddiv (FP.i2d (rSum ρ 5 n)) (FP.i2d (nI n))))) σ) : AW G κ cs ss 0 [lR x, none] [] σ := by
  have h0 : nI n ≠ 0 := fun e => by
    have h1 := (nI_eq (show n < 2 ^ 31 by have := hV.n6; omega) (show 0 < 2 ^ 31 by omega)).mp e
    have h2 := hV.2.1
    omega
  refine sX12_meanSpeed_0 hΓ rfl ?_
  refine sX12_meanSpeed_1 hΓ hX rfl ?_
  refine sX12_meanSpeed_4 hΓ g.o rfl ?_
  refine sX12_meanSpeed_7q hΓ (Or.inr (Or.inl rfl)) g.ts ?_
  refine sX12_meanSpeed_8 hΓ ?_
  refine sX12_meanSpeed_9 hΓ rfl ?_
  refine sX12_meanSpeed_10 hΓ (fun _ => ?_) (fun c => absurd c h0)
  refine sX12_meanSpeed_17 hΓ rfl ?_
  refine sX12_meanSpeed_18 hΓ hX rfl ?_
  refine sX12_meanSpeed_21 hΓ 0 0 (Nat.le_of_ble_eq_true rfl) g.o (fun κ2 h2 => sr_sumOfSpeeds h2 g ?_)
  show AW G κ _ _ 24 _ _ _
  refine aw_i2d hΓ dX12_meanSpeed_24 ?_
  refine sX12_meanSpeed_25 hΓ rfl ?_
  refine aw_i2d hΓ dX12_meanSpeed_26 ?_
  refine aw_ddiv hΓ dX12_meanSpeed_27 (fo_ddiv h0) ?_
  exact aw_dreturn hK dX12_meanSpeed_28 rfl (by rw [sum_tw (by decide) hC.2.2.2.1]; exact hq)
theorem tn_obeyedShare {hs ol : Int32} {t q p s : Nat} {tr : Nat → Nat} {C : Ct} {ρ : Nat → Int32} (hΓ : Ok G κ mX12_obeyedShare (d + 3) noQ noX) (hK : OkN G κ mX12_obeyedShare Q) (hX : σ x = some (.inr (9, tdV A hs ol))) (g : RG G σ (A 0) t q p tr n C.1 C.2.1 C.2.2.1 C.2.2.2) (hC : CR ρ n s C) (hq : Q (some (.float (fo_sh (rSum ρ 11 n) (rSum ρ 11 n + rSum ρ 12 n + rSum ρ 13 n)))) σ) : AW G κ cs ss 0 [lR x, none] [] σ := by
  rw [← sum_tw (T := C.2.2.2) (w := 11) (by decide) hC.2.2.2.1, ← sum_tw (T := C.2.2.2) (w := 12) (by decide) hC.2.2.2.1] at hq
  rw [show cSum C.2.2.2 11 n + cSum C.2.2.2 12 n + rSum ρ 13 n = cRecd C.2.2.2 n by rw [recd_tw hC.2.2.2.1, sum_tw (by decide) hC.2.2.2.1, sum_tw (by decide) hC.2.2.2.1]] at hq
  refine sX12_obeyedShare_0 hΓ rfl ?_
  refine sX12_obeyedShare_1 hΓ hX rfl ?_
  refine sX12_obeyedShare_4 hΓ 0 0 (Nat.le_of_ble_eq_true rfl) g.o (fun κ2 h2 => sr_sumOfReceived h2 g ?_)
  show AW G κ _ _ 7 _ _ _
  refine sX12_obeyedShare_7 hΓ ?_
  refine sX12_obeyedShare_8 hΓ rfl ?_
  refine sX12_obeyedShare_9 hΓ (fun c9 => ?_) (fun c9 => ?_)
  · refine sX12_obeyedShare_16 hΓ rfl ?_
    refine sX12_obeyedShare_17 hΓ hX rfl ?_
    refine sX12_obeyedShare_20 hΓ 0 0 (Nat.le_of_ble_eq_true rfl) g.o (fun κ2 h2 => sr_sumOfObeyed h2 g ?_)
    show AW G κ _ _ 23 _ _ _
    refine aw_i2f hΓ dX12_obeyedShare_23 ?_
    refine sX12_obeyedShare_24 hΓ rfl ?_
    refine aw_i2f hΓ dX12_obeyedShare_25 ?_
    refine aw_fdiv hΓ dX12_obeyedShare_26 (fo_fdiv c9) ?_
    rw [fo_sh, if_neg c9] at hq
    exact aw_freturn hK dX12_obeyedShare_27 rfl hq
  · refine aw_fconst0 hΓ dX12_obeyedShare_12 ?_
    refine sX12_obeyedShare_13 hΓ ?_
    rw [fo_sh, if_pos c9] at hq
    exact aw_freturn hK dX12_obeyedShare_27 rfl hq
theorem rn_meanSpeed {a : Nat} {B9 : Nat → Nat → Int32} {rw9 : Nat} {ρ η : Nat → Int32} {s : Nat} (hΓ : Ok G κ mX13_meanSpeed (d + 2) noQ noX) (hK : OkN G κ mX13_meanSpeed Q) (h : MV G σ a r z B9 rw9 ρ η) (hR : RW ρ n s) (hn0 : 1 ≤ n) (hq : ∀ σ1 : Hp, MV G σ1 a r (upd z 9 0) B9 rw9 ρ η → MF a r σ σ1 → Q (some (.double (FP.ddiv (FP.i2d (rSum ρ 5 n)) (FP.i2d (nI n))))) σ1) : AW G κ cs ss 0 [lR a] [] σ := by
  have h0 : nI n ≠ 0 := fun e => by
    have h1 := (nI_eq (show n < 2 ^ 31 by have := hR.2.1; omega) (show 0 < 2 ^ 31 by omega)).mp e
    omega
  refine sX13_meanSpeed_0 hΓ rfl ?_
  refine sX13_meanSpeed_1 hΓ ?_
  refine sX13_meanSpeed_2 hΓ h.o (Nat.le_of_ble_eq_true rfl) (mv_z h (upd z 9 0) rfl (fun σ1 h1 f1 => ?_))
  refine sX13_meanSpeed_5 hΓ rfl ?_
  refine sX13_meanSpeed_6 hΓ ?_
  refine sX13_meanSpeed_7 hΓ 0 0 (Nat.le_of_ble_eq_true rfl) h1.o (fun κ2 h2 => sp_sumOf h2 h1 hR (w := 5) rfl (by decide) ?_)
  show AW G κ _ _ 10 _ _ _
  refine aw_i2d hΓ dX13_meanSpeed_10 ?_
  refine sX13_meanSpeed_11 hΓ rfl ?_
  refine sX13_meanSpeed_12 hΓ h1.o rfl ?_
  refine sX13_meanSpeed_15 hΓ ?_
  refine sX13_meanSpeed_16 hΓ h1.row (j := 3) rfl (by decide) (by decide) ?_
  rw [hR.1]
  refine aw_i2d hΓ dX13_meanSpeed_17 ?_
  refine aw_ddiv hΓ dX13_meanSpeed_18 (fo_ddiv h0) ?_
  exact aw_dreturn hK dX13_meanSpeed_19 rfl (hq σ1 h1 f1)
theorem rn_obeyedShare {a : Nat} {B9 : Nat → Nat → Int32} {rw9 : Nat} {ρ η : Nat → Int32} {s : Nat} (hΓ : Ok G κ mX13_obeyedShare (d + 2) noQ noX) (hK : OkN G κ mX13_obeyedShare Q) (h : MV G σ a r z B9 rw9 ρ η) (hR : RW ρ n s) (hq : ∀ σ1 : Hp, MV G σ1 a r (upd z 9 0) B9 rw9 ρ η → MF a r σ σ1 → Q (some (.float (fo_sh (rSum ρ 11 n) (rSum ρ 11 n + rSum ρ 12 n + rSum ρ 13 n)))) σ1) : AW G κ cs ss 0 [lR a, none] [] σ := by
  refine sX13_obeyedShare_0 hΓ rfl ?_
  refine sX13_obeyedShare_1 hΓ ?_
  refine sX13_obeyedShare_2 hΓ h.o (Nat.le_of_ble_eq_true rfl) (mv_z h (upd z 9 0) rfl (fun σ1 h1 f1 => ?_))
  have hq := hq σ1 h1 f1
  refine sX13_obeyedShare_5 hΓ rfl ?_
  refine sX13_obeyedShare_6 hΓ ?_
  refine sX13_obeyedShare_8 hΓ 0 0 (Nat.le_of_ble_eq_true rfl) h1.o (fun κ2 h2 => sp_sumOf h2 h1 hR (w := 11) rfl (by decide) ?_)
  show AW G κ _ _ 11 _ _ _
  refine sX13_obeyedShare_11 hΓ rfl ?_
  refine sX13_obeyedShare_12 hΓ ?_
  refine sX13_obeyedShare_14 hΓ 0 0 (Nat.le_of_ble_eq_true rfl) h1.o (fun κ2 h2 => sp_sumOf h2 h1 hR (w := 12) rfl (by decide) ?_)
  show AW G κ _ _ 17 _ _ _
  refine sX13_obeyedShare_17 hΓ ?_
  refine sX13_obeyedShare_18 hΓ rfl ?_
  refine sX13_obeyedShare_19 hΓ ?_
  refine sX13_obeyedShare_21 hΓ 0 0 (Nat.le_of_ble_eq_true rfl) h1.o (fun κ2 h2 => sp_sumOf h2 h1 hR (w := 13) rfl (by decide) ?_)
  show AW G κ _ _ 24 _ _ _
  refine sX13_obeyedShare_24 hΓ ?_
  refine sX13_obeyedShare_25 hΓ ?_
  refine sX13_obeyedShare_26 hΓ rfl ?_
  refine sX13_obeyedShare_27 hΓ (fun c27 => ?_) (fun c27 => ?_)
  · refine sX13_obeyedShare_34 hΓ rfl ?_
    refine sX13_obeyedShare_35 hΓ ?_
    refine sX13_obeyedShare_37 hΓ 0 0 (Nat.le_of_ble_eq_true rfl) h1.o (fun κ2 h2 => sp_sumOf h2 h1 hR (w := 11) rfl (by decide) ?_)
    show AW G κ _ _ 40 _ _ _
    refine aw_i2f hΓ dX13_obeyedShare_40 ?_
    refine sX13_obeyedShare_41 hΓ rfl ?_
    refine aw_i2f hΓ dX13_obeyedShare_42 ?_
    refine aw_fdiv hΓ dX13_obeyedShare_43 (fo_fdiv c27) ?_
    rw [fo_sh, if_neg c27] at hq
    exact aw_freturn hK dX13_obeyedShare_44 rfl hq
  · refine aw_fconst0 hΓ dX13_obeyedShare_30 ?_
    refine sX13_obeyedShare_31 hΓ ?_
    rw [fo_sh, if_pos c27] at hq
    exact aw_freturn hK dX13_obeyedShare_44 rfl hq
/-- the law's locals without the last four -/
def base5 (s0 x am o : Nat) (yi : Int32) : List (Nat × Value) := [(0, .ref s0), (1, .ref x), (2, .ref am), (3, .ref o), (4, .int yi)]
theorem op_meanSpeed (hΓ : Ok G κ mL_law (d + 24) Q X) (hN : NcK κ) (hA : ArK G κ s0 n xs) (hn : n < 2 ^ 31) (hyi : yi = nI ii) (hb : ii + 6 ≤ n) (hS : LSt G σ c x am o A r z B f) (kk : ∀ (σ1 : Hp) (c1 : Nat → Nat) (z1 : Nat → Int32) (B1 : Nat → Nat → Int32) (f1 : Nat → Int64) (v5 v6 v7 v8 : Option LV), LSt G σ1 c1 x am o A r z1 B1 f1 → AW G κ cs ss 2959 [lR s0, lR x, lR am, lR o, lI yi, v5, v6, v7, v8] [] σ1) : AW G κ (cs + 40) (ss + 400) 1546 [lR s0, lR x, lR am, lR o, lI yi, w5, w6, w7, w8] [] σ := by
  refine aw_less (cs2 := cs) (ss2 := ss) (by omega) (by omega) ?_
  obtain ⟨hL, hM, hc, ho, hco⟩ := id hS
  obtain ⟨n0, s, C, n2, C2, Nh, Ch, u, b, l, cd, og, hs, out, ol, hT, hR⟩ := hL
  have hL : RLx G σ c x A am z B := ⟨n0, s, C, n2, C2, Nh, Ch, u, b, l, cd, og, hs, out, ol, hT, hR⟩
  obtain ⟨A', hMV, hB⟩ := id hM
  obtain ⟨⟨hV, hC⟩, -⟩ := id hR
  obtain ⟨t, q, p, tr, g, hcg⟩ := hT.m
  have hW := hV.1.1
  have hv : fo_d (FP.ddiv (FP.i2d (rSum (B 0) 5 n0)) (FP.i2d (nI n0))) := fo_ddiv (fun e => by
    have h1 := (nI_eq (show n0 < 2 ^ 31 by have := hV.n6; omega) (show 0 < 2 ^ 31 by omega)).mp e
    have h2 := hV.2.1
    omega)
  generalize hw : FP.ddiv (FP.i2d (rSum (B 0) 5 n0)) (FP.i2d (nI n0)) = w at hv
  refine ax_aw (ax_less (D1 := base5 s0 x am o yi) (fun q hq => List.mem_append_left (lal 5 [w5, w6, w7, w8]) hq) ?_)
  refine ax_aload_n hΓ dL_law_1546 (i := 1) rfl (List.mem_cons_of_mem _ List.mem_cons_self) ?_
  refine ax_invN hΓ (M2 := mX12_meanSpeed) 0 0 okX12_meanSpeed ckX12 rfl q517 q518 q516 (Nat.le_of_ble_eq_true rfl) (Nat.le_of_ble_eq_true rfl) dL_law_1547 hT.o (fun κ2 h2 hk => tn_meanSpeed h2 hk hT.o g hV hC ?_)
  rw [hw]
  show AX G κ _ _ 1550 _ _ _
  refine ax_dstore hΓ dL_law_1550 (D1 := (5, .double w) :: base5 s0 x am o yi) (by decide) rfl ?_
  refine ax_aload_n hΓ dL_law_1552 (i := 2) rfl (List.mem_cons_of_mem _ (List.mem_cons_of_mem _ (List.mem_cons_of_mem _ List.mem_cons_self))) ?_
  refine ax_invN hΓ (M2 := mX13_meanSpeed) 0 0 okX13_meanSpeed ckX13 rfl q1665 q1666 q1664 (Nat.le_of_ble_eq_true rfl) (Nat.le_of_ble_eq_true rfl) dL_law_1553 hMV.o (fun κ2 h2 hk => rn_meanSpeed h2 hk hMV hW hV.2.1 (fun σ1 h1 f1 => ?_))
  rw [hw]
  show AX G κ _ _ 1556 _ _ _
  refine ax_dstore hΓ dL_law_1556 (D1 := (7, .double w) :: (5, .double w) :: base5 s0 x am o yi) (by decide) rfl ?_
  refine ax_dload hΓ dL_law_1558 (List.mem_cons_of_mem _ List.mem_cons_self) ?_
  refine ax_dload hΓ dL_law_1560 List.mem_cons_self ?_
  refine ax_dcmp hΓ dL_law_1562 hv ?_
  refine ax_if0 hΓ dL_law_1563 (tgt := 1584) (by decide) ?_
  refine ax_goto hΓ dL_law_1584 (tgt := 2959) (by decide) ?_
  exact ax_less (fun q hq => List.mem_cons_of_mem _ (List.mem_cons_of_mem _ hq)) (aw_ax (kk σ1 c _ B f none none none none (hS.mod (MP.mk h1 rfl hB) f1 (hL.zc zJ9))))
theorem op_obeyedShare (hΓ : Ok G κ mL_law (d + 24) Q X) (hN : NcK κ) (hA : ArK G κ s0 n xs) (hn : n < 2 ^ 31) (hyi : yi = nI ii) (hb : ii + 6 ≤ n) (hS : LSt G σ c x am o A r z B f) (kk : ∀ (σ1 : Hp) (c1 : Nat → Nat) (z1 : Nat → Int32) (B1 : Nat → Nat → Int32) (f1 : Nat → Int64) (v5 v6 v7 v8 : Option LV), LSt G σ1 c1 x am o A r z1 B1 f1 → AW G κ cs ss 2959 [lR s0, lR x, lR am, lR o, lI yi, v5, v6, v7, v8] [] σ1) : AW G κ (cs + 40) (ss + 400) 1587 [lR s0, lR x, lR am, lR o, lI yi, w5, w6, w7, w8] [] σ := by
  refine aw_less (cs2 := cs) (ss2 := ss) (by omega) (by omega) ?_
  obtain ⟨hL, hM, hc, ho, hco⟩ := id hS
  obtain ⟨n0, s, C, n2, C2, Nh, Ch, u, b, l, cd, og, hs, out, ol, hT, hR⟩ := hL
  have hL : RLx G σ c x A am z B := ⟨n0, s, C, n2, C2, Nh, Ch, u, b, l, cd, og, hs, out, ol, hT, hR⟩
  obtain ⟨A', hMV, hB⟩ := id hM
  obtain ⟨⟨hV, hC⟩, -⟩ := id hR
  obtain ⟨t, q, p, tr, g, hcg⟩ := hT.m
  have hW := hV.1.1
  have hv : fo_d (FP.f2d (fo_sh (rSum (B 0) 11 n0) (rSum (B 0) 11 n0 + rSum (B 0) 12 n0 + rSum (B 0) 13 n0))) := fo_f2d fo_sh_s
  generalize hw : fo_sh (rSum (B 0) 11 n0) (rSum (B 0) 11 n0 + rSum (B 0) 12 n0 + rSum (B 0) 13 n0) = w at hv
  refine ax_aw (ax_less (D1 := base5 s0 x am o yi) (fun q hq => List.mem_append_left (lal 5 [w5, w6, w7, w8]) hq) ?_)
  refine ax_aload_n hΓ dL_law_1587 (i := 1) rfl (List.mem_cons_of_mem _ List.mem_cons_self) ?_
  refine ax_invN hΓ (M2 := mX12_obeyedShare) 0 0 okX12_obeyedShare ckX12 rfl q525 q526 q524 (Nat.le_of_ble_eq_true rfl) (Nat.le_of_ble_eq_true rfl) dL_law_1588 hT.o (fun κ2 h2 hk => tn_obeyedShare h2 hk hT.o g hC ?_)
  rw [hw]
  show AX G κ _ _ 1591 _ _ _
  refine ax_f2d hΓ dL_law_1591 hv ?_
  refine ax_dstore hΓ dL_law_1592 (D1 := (5, .double (FP.f2d w)) :: base5 s0 x am o yi) (by decide) rfl ?_
  refine ax_aload_n hΓ dL_law_1594 (i := 2) rfl (List.mem_cons_of_mem _ (List.mem_cons_of_mem _ (List.mem_cons_of_mem _ List.mem_cons_self))) ?_
  refine ax_invN hΓ (M2 := mX13_obeyedShare) 0 0 okX13_obeyedShare ckX13 rfl q1673 q1674 q1672 (Nat.le_of_ble_eq_true rfl) (Nat.le_of_ble_eq_true rfl) dL_law_1595 hMV.o (fun κ2 h2 hk => rn_obeyedShare h2 hk hMV hW (fun σ1 h1 f1 => ?_))
  rw [hw]
  show AX G κ _ _ 1598 _ _ _
  refine ax_f2d hΓ dL_law_1598 hv ?_
  refine ax_dstore hΓ dL_law_1599 (D1 := (7, .double (FP.f2d w)) :: (5, .double (FP.f2d w)) :: base5 s0 x am o yi) (by decide) rfl ?_
  refine ax_dload hΓ dL_law_1601 (List.mem_cons_of_mem _ List.mem_cons_self) ?_
  refine ax_dload hΓ dL_law_1603 List.mem_cons_self ?_
  refine ax_dcmp hΓ dL_law_1605 hv ?_
  refine ax_if0 hΓ dL_law_1606 (tgt := 1627) (by decide) ?_
  refine ax_goto hΓ dL_law_1627 (tgt := 2959) (by decide) ?_
  exact ax_less (fun q hq => List.mem_cons_of_mem _ (List.mem_cons_of_mem _ hq)) (aw_ax (kk σ1 c _ B f none none none none (hS.mod (MP.mk h1 rfl hB) f1 (hL.zc zJ9))))
end NumCalls
