/-! constants: texts, the enum, static arrays; Math -/
section ConstRules
variable {G : Gl} {κ : Kx} {M : Mx} {d : Nat} {Q : Option Value → Hp → Prop} {X : String → Hp → Prop} {cs ss pc : Nat} {L : List (Option LV)} {st : List Value} {σ : Hp}
theorem Ok.ci {p l e R s m args below meth c Z} (h : Ok G (p, l, e, R, s, m, args, below, meth, c, Z) M d Q X) : CI G s s.heap := h.gi.2.2.2
theorem aw_ldcS (hΓ : Ok G κ M d Q X) {index j : Nat} {tx : String} (htx : ((mY M).cls, index, tx, j) ∈ txRefs) (hd : decode (mB M) pc = .ok (.ldc index, 2)) (k : AW G κ cs ss (pc + 2) L (.ref (gK G j) :: st) σ) : AW G κ cs ss pc L st σ := by
  obtain ⟨p, l, e, R, s, m, args, below, meth, c, Z⟩ := κ
  intro H locs cells slots ls hH hc hs hL
  exact va_ldcS hΓ.exec hΓ.code hΓ.own (hΓ.ci.2.1 _ htx) hd (k H locs cells slots ls hH hc hs hL)
theorem aw_ldcSW (hΓ : Ok G κ M d Q X) {index j : Nat} {tx : String} (htx : ((mY M).cls, index, tx, j) ∈ txRefs) (hd : decode (mB M) pc = .ok (.ldc_w index, 3)) (k : AW G κ cs ss (pc + 3) L (.ref (gK G j) :: st) σ) : AW G κ cs ss pc L st σ := by
  obtain ⟨p, l, e, R, s, m, args, below, meth, c, Z⟩ := κ
  intro H locs cells slots ls hH hc hs hL
  intro T hT Xs
  have hR := hΓ.ci.2.1 _ htx
  obtain ⟨t, a1, b1⟩ := k H locs cells slots ls hH hc hs hL T hT Xs
  exact ⟨t, Xs.ldcStringW hΓ.exec hΓ.own (text := tx) (a := gK G j) hR.1 hR.2 (g := F0 m pc ls st) rfl (by rw [hΓ.code]; exact hd) t a1, b1⟩
theorem aw_ldcwI (hΓ : Ok G κ M d Q X) {index : Nat} {v : Int32} (hw : Cond.constant (mY M).cls index v ∈ lw_tbl) (hd : decode (mB M) pc = .ok (.ldc_w index, 3)) (k : AW G κ cs ss (pc + 3) L (.int v :: st) σ) : AW G κ cs ss pc L st σ := by
  obtain ⟨p, l, e, R, s, m, args, below, meth, c, Z⟩ := κ
  intro H locs cells slots ls hH hc hs hL
  exact lv_ldcw hΓ.exec hΓ.code hΓ.own (hΓ.word hw rfl) hd (k H locs cells slots ls hH hc hs hL)
theorem aw_ldcI (hΓ : Ok G κ M d Q X) {index : Nat} {v : Int32} (hw : Cond.constant (mY M).cls index v ∈ lw_tbl) (hd : decode (mB M) pc = .ok (.ldc index, 2)) (k : AW G κ cs ss (pc + 2) L (.int v :: st) σ) : AW G κ cs ss pc L st σ := by
  obtain ⟨p, l, e, R, s, m, args, below, meth, c, Z⟩ := κ
  intro H locs cells slots ls hH hc hs hL
  exact lv_ldc hΓ.exec hΓ.code hΓ.own (hΓ.word hw rfl) hd (k H locs cells slots ls hH hc hs hL)
/-- a static field that nobody writes -/
theorem aw_gets (hΓ : Ok G κ M d Q X) {index : Nat} {C n ds : String} {v : Value} (hZ : ∀ (U : State) (H : Heap), CI G U H → va_Z C n ds v (gA G) U H) (hw : Cond.fieldLink (mY M).cls index C n ds ∈ lw_tbl) (hd : decode (mB M) pc = .ok (.getstatic index, 3)) (k : AW G κ cs ss (pc + 3) L (v :: st) σ) : AW G κ cs ss pc L st σ := by
  obtain ⟨p, l, e, R, s, m, args, below, meth, c, Z⟩ := κ
  intro H locs cells slots ls hH hc hs hL
  exact va_gets hΓ.exec hΓ.code (hZ _ _ hΓ.ci) hH.2 hΓ.own (hΓ.word hw rfl) (fun _ h => h) hd (k H locs cells slots ls hH hc hs hL)
/-- a static field that is a reference or null, and nobody writes it -/
theorem aw_getsq (hΓ : Ok G κ M d Q X) {index : Nat} {C n ds : String} (hZ : ∀ (U : State) (H : Heap), CI G U H → va_Zq C n ds (gA G) U H) (hw : Cond.fieldLink (mY M).cls index C n ds ∈ lw_tbl) (hd : decode (mB M) pc = .ok (.getstatic index, 3)) (k : ∀ r : Option Nat, AW G κ cs ss (pc + 3) L (va_rf r :: st) σ) : AW G κ cs ss pc L st σ := by
  obtain ⟨p, l, e, R, s, m, args, below, meth, c, Z⟩ := κ
  intro H locs cells slots ls hH hc hs hL
  rcases hZ _ _ hΓ.ci with h | ⟨t, h⟩
  · exact va_gets hΓ.exec hΓ.code h hH.2 hΓ.own (hΓ.word hw rfl) (fun _ h => h) hd (k none H locs cells slots ls hH hc hs hL)
  · exact va_gets hΓ.exec hΓ.code h hH.2 hΓ.own (hΓ.word hw rfl) (fun _ h => h) hd (k (some t) H locs cells slots ls hH hc hs hL)
/-- a field of a constant object -/
theorem aw_getfC (hΓ : Ok G κ M d Q X) {index q : Nat} {o n ds : String} {v : Value} (hE : ∀ (U : State) (H : Heap), CI G U H → va_OF o n ds v q (gA G) U H) (hw : Cond.fieldLink (mY M).cls index o n ds ∈ lw_tbl) (hd : decode (mB M) pc = .ok (.getfield index, 3)) (k : AW G κ cs ss (pc + 3) L (v :: st) σ) : AW G κ cs ss pc L (.ref q :: st) σ := by
  obtain ⟨p, l, e, R, s, m, args, below, meth, c, Z⟩ := κ
  intro H locs cells slots ls hH hc hs hL
  exact vk_getf hΓ.exec hΓ.code (hE _ _ hΓ.ci) hH.2 hΓ.own (hΓ.word hw rfl) (fun _ h => h) hd (k H locs cells slots ls hH hc hs hL)
theorem aw_getfCN (hΓ : Ok G κ M d Q X) {index q : Nat} {o n ds host : String} {v : Value} (hE : ∀ (U : State) (H : Heap), CI G U H → va_OF o n ds v q (gA G) U H) (hw : Cond.fieldLinkNest (mY M).cls index o n ds host ∈ lw_tbl) (hd : decode (mB M) pc = .ok (.getfield index, 3)) (k : AW G κ cs ss (pc + 3) L (v :: st) σ) : AW G κ cs ss pc L (.ref q :: st) σ := by
  obtain ⟨p, l, e, R, s, m, args, below, meth, c, Z⟩ := κ
  intro H locs cells slots ls hH hc hs hL
  obtain ⟨cf, kf, fi, f, cell, h1, h2, h3, h4, h5, h6⟩ := (hE _ _ hΓ.ci).kept hH.2.2.1
  exact va_Wgetf hΓ.exec hΓ.code hΓ.own (hΓ.nest hw rfl) h1 h2 h3 h4 (v := v) h5 rfl rfl hd (k H locs cells slots ls hH hc hs hL)
/-- arrays that stand from the start -/
theorem aw_tlen (hΓ : Ok G κ M d Q X) {t N : Nat} {ty : FieldType} {f : Nat → Value} (hT : ∀ (U : State) (H : Heap), CI G U H → va_T ty t N f (gA G) U H) (hd : decode (mB M) pc = .ok (.arraylength, 1)) (k : AW G κ cs ss (pc + 1) L (.int (nI N) :: st) σ) : AW G κ cs ss pc L (.ref t :: st) σ := by
  obtain ⟨p, l, e, R, s, m, args, below, meth, c, Z⟩ := κ
  intro H locs cells slots ls hH hc hs hL
  exact va_tlen hΓ.exec hΓ.code (hT _ _ hΓ.ci) hH.2 rfl hd (k H locs cells slots ls hH hc hs hL)
theorem aw_tb (hΓ : Ok G κ M d Q X) {t N j : Nat} {f : Nat → Value} {i : Int32} (hT : ∀ (U : State) (H : Heap), CI G U H → va_T .byte t N f (gA G) U H) (hi : i = nI j) (hj : j < N) (hN : N < 2 ^ 31) (hd : decode (mB M) pc = .ok (.baload, 1)) (k : AW G κ cs ss (pc + 1) L (f j :: st) σ) : AW G κ cs ss pc L (.int i :: .ref t :: st) σ := by
  obtain ⟨p, l, e, R, s, m, args, below, meth, c, Z⟩ := κ
  intro H locs cells slots ls hH hc hs hL
  subst hi
  exact va_tb hΓ.exec hΓ.code (hT _ _ hΓ.ci) hH.2 (vp_in_nI hj hN) (by rw [nI_clamp (Nat.lt_trans hj hN)]) hd (k H locs cells slots ls hH hc hs hL)
theorem aw_ti (hΓ : Ok G κ M d Q X) {t N j : Nat} {f : Nat → Value} {i : Int32} (hT : ∀ (U : State) (H : Heap), CI G U H → va_T .int t N f (gA G) U H) (hi : i = nI j) (hj : j < N) (hN : N < 2 ^ 31) (hd : decode (mB M) pc = .ok (.iaload, 1)) (k : AW G κ cs ss (pc + 1) L (f j :: st) σ) : AW G κ cs ss pc L (.int i :: .ref t :: st) σ := by
  obtain ⟨p, l, e, R, s, m, args, below, meth, c, Z⟩ := κ
  intro H locs cells slots ls hH hc hs hL
  subst hi
  exact va_ti hΓ.exec hΓ.code (hT _ _ hΓ.ci) hH.2 (vp_in_nI hj hN) (by rw [nI_clamp (Nat.lt_trans hj hN)]) hd (k H locs cells slots ls hH hc hs hL)
theorem aw_tq (hΓ : Ok G κ M d Q X) {t N j : Nat} {C : String} {f : Nat → Value} {i : Int32} (hT : ∀ (U : State) (H : Heap), CI G U H → va_T (.object C) t N f (gA G) U H) (hi : i = nI j) (hj : j < N) (hN : N < 2 ^ 31) (hd : decode (mB M) pc = .ok (.aaload, 1)) (k : AW G κ cs ss (pc + 1) L (f j :: st) σ) : AW G κ cs ss pc L (.int i :: .ref t :: st) σ := by
  obtain ⟨p, l, e, R, s, m, args, below, meth, c, Z⟩ := κ
  intro H locs cells slots ls hH hc hs hL
  subst hi
  exact vb_tq hΓ.exec hΓ.code (hT _ _ hΓ.ci) hH.2 (vp_in_nI hj hN) (by rw [nI_clamp (Nat.lt_trans hj hN)]) hd (k H locs cells slots ls hH hc hs hL)
theorem aw_mmax (hΓ : Ok G κ M (d + 1) Q X) {index : Nat} {x y : Int32} (hlink : Cond.methodLink (mY M).cls index Lib.Math.max.name ∈ lw_tbl) (hstat : Cond.static Lib.Math.max.name ∈ lw_tbl) (hini : Cond.initialized "java/lang/Math" ∈ lw_tbl) (hcode : Cond.code Lib.Math.max.name Lib.Math.max.code 2 (some .int) ∈ lw_tbl) (hst : (st.map fun v => v.category).sum ≤ 8) (hd : decode (mB M) pc = .ok (.invokestatic index, 3)) (k : AW G κ cs ss (pc + 3) L (.int (if x < y then y else x) :: st) σ) : AW G κ cs ss pc L (.int y :: .int x :: st) σ := by
  obtain ⟨p, l, e, R, s, m, args, below, meth, c, Z⟩ := κ
  intro H locs cells slots ls hH hc hs hL
  have hf : d + 1 ≤ R.frames := hΓ.2.1.2.1
  have hlo : 38 * (d + 1) ≤ R.locals := hΓ.2.1.2.2
  exact va_mmax hΓ.exec hΓ.code hL.1.symm hΓ.own (hΓ.word hlink rfl) (hΓ.word hstat rfl) (hΓ.word hini rfl) (hΓ.word hcode rfl) (by omega) (by omega) (by omega) (by omega) hd (k H locs cells slots ls hH hc hs hL)
theorem aw_mmin (hΓ : Ok G κ M (d + 1) Q X) {index : Nat} {x y : Int32} (hlink : Cond.methodLink (mY M).cls index Lib.Math.min.name ∈ lw_tbl) (hstat : Cond.static Lib.Math.min.name ∈ lw_tbl) (hini : Cond.initialized "java/lang/Math" ∈ lw_tbl) (hcode : Cond.code Lib.Math.min.name Lib.Math.min.code 2 (some .int) ∈ lw_tbl) (hst : (st.map fun v => v.category).sum ≤ 8) (hd : decode (mB M) pc = .ok (.invokestatic index, 3)) (k : AW G κ cs ss (pc + 3) L (.int (if y < x then y else x) :: st) σ) : AW G κ cs ss pc L (.int y :: .int x :: st) σ := by
  obtain ⟨p, l, e, R, s, m, args, below, meth, c, Z⟩ := κ
  intro H locs cells slots ls hH hc hs hL
  have hf : d + 1 ≤ R.frames := hΓ.2.1.2.1
  have hlo : 38 * (d + 1) ≤ R.locals := hΓ.2.1.2.2
  exact va_mmin hΓ.exec hΓ.code hL.1.symm hΓ.own (hΓ.word hlink rfl) (hΓ.word hstat rfl) (hΓ.word hini rfl) (hΓ.word hcode rfl) (by omega) (by omega) (by omega) (by omega) hd (k H locs cells slots ls hH hc hs hL)
theorem aw_mabs (hΓ : Ok G κ M (d + 1) Q X) {index : Nat} {x : Int32} (hlink : Cond.methodLink (mY M).cls index Lib.Math.abs.name ∈ lw_tbl) (hstat : Cond.static Lib.Math.abs.name ∈ lw_tbl) (hini : Cond.initialized "java/lang/Math" ∈ lw_tbl) (hcode : Cond.code Lib.Math.abs.name Lib.Math.abs.code 1 (some .int) ∈ lw_tbl) (hst : (st.map fun v => v.category).sum ≤ 8) (hd : decode (mB M) pc = .ok (.invokestatic index, 3)) (k : AW G κ cs ss (pc + 3) L (.int (if 0 ≤ x then x else 0 - x) :: st) σ) : AW G κ cs ss pc L (.int x :: st) σ := by
  obtain ⟨p, l, e, R, s, m, args, below, meth, c, Z⟩ := κ
  intro H locs cells slots ls hH hc hs hL
  have hf : d + 1 ≤ R.frames := hΓ.2.1.2.1
  have hlo : 38 * (d + 1) ≤ R.locals := hΓ.2.1.2.2
  exact va_mabs hΓ.exec hΓ.code hL.1.symm hΓ.own (hΓ.word hlink rfl) (hΓ.word hstat rfl) (hΓ.word hini rfl) (hΓ.word hcode rfl) (by omega) (by omega) (by omega) (by omega) hd (k H locs cells slots ls hH hc hs hL)
/-- a method of a text constant -/
theorem aw_invT (hΓ : Ok G κ M (d + 1) Q X) {M2 : Mx} {index n t : Nat} (As : List LV) (mc ms : Nat) (hH0 : mH M = []) (hm : MOk M2 n) (ht : t < 7) (hcls : (mY M2).cls = "java/lang/String") (hin : Cond.instanceMethod (mY M2) ∈ lw_tbl) (hsel : Cond.selects "java/lang/String" (mY M2) (mY M2) ∈ lw_tbl) (hlink : Cond.methodLink (mY M).cls index (mY M2) ∈ lw_tbl) (hn : As.length = n) (hlen : As.length + 1 ≤ mL M2) (hst : (st.map fun v => v.category).sum ≤ 8) (hd : decode (mB M) pc = .ok (.invokevirtual index, 3))
    (body : ∀ κ2 : Kx, Ok G κ2 M2 d (KV G κ cs ss (pc + 3) L st) X → AW G κ2 mc ms 0 (argL (.inr (some (gK G t)) :: As) (mL M2)) [] σ) : AW G κ (cs + mc) (ss + ms) pc L ((As.map toV).reverse ++ .ref (gK G t) :: st) σ := by
  obtain ⟨p, l, e, R, s, m, args, below, meth, c, Z⟩ := κ
  intro H locs cells slots ls hH hc hs hL
  obtain ⟨cell, h1, h2, h3, -⟩ := (hΓ.ci.2.2.1 t ht).1.kept hH.2.2.1
  refine aw_back (a := ((.inr (some (gK G t)) :: As : List LV).map toV).toArray) hΓ hH0 hH hc hs hL (vx_runV (n := n) (C := "java/lang/String") (b := gK G t) (As := As.map toV) hΓ.fix (met_of (As := .inr (some (gK G t)) :: As) hΓ.2.1.1 hm hlen body) ⟨hm.callB hΓ hlink, hΓ.word hin rfl, hΓ.word hsel rfl⟩ ⟨(hΓ.pre hH _).1, ⟨cell, h1, h2, h3⟩, (hΓ.pre hH _).2⟩ rfl (by rw [List.length_map]; exact hn) hL.1 rfl ?_ hd ⟨by omega, by omega⟩)
  show 2 * 0 + (st.map fun v => v.category).sum ≤ 8
  omega
end ConstRules
