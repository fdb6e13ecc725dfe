/-! the layer's rules over the heap -/
section HeapRules
variable {G : Gl} {κ : Kx} {M : Mx} {d : Nat} {Q : Option Value → Hp → Prop} {X : String → Hp → Prop} {cs ss pc : Nat} {L : List (Option LV)} {st : List Value} {σ : Hp}
/-- a class as the layer's rules want it: its number, name, fields, types -/
def ClsOk (ci : Nat) (C : String) (T : u_T) (N : Nat) (ty : Nat → FieldType) : Prop :=
  vwCl[ci]? = some (C, T, N) ∧ (∀ w ∈ u_ws C T N, w ∈ lw_tbl ∧ goodWord w = true) ∧ (∀ k, k < N → parseFieldDescriptor (T k).2.2.1 = some (ty k)) ∧ (∀ a, a < N → ∀ b, b < N → a ≠ b → (T a).2.1 ≠ (T b).2.1)
theorem Ok.lays {p l e R s m args below meth c Z} (h : Ok G (p, l, e, R, s, m, args, below, meth, c, Z) M d Q X) : ∀ w ∈ lw_tbl.filter goodWord, w.before args s = true := fun w hw => h.word (List.mem_filter.mp hw).1 (List.mem_filter.mp hw).2
theorem ClsOk.ws {ci : Nat} {C : String} {T : u_T} {N : Nat} {ty : Nat → FieldType} (h : ClsOk ci C T N ty) : ∀ w ∈ u_ws C T N, w ∈ lw_tbl.filter goodWord := fun w hw => List.mem_filter.mpr (h.2.1 w hw)
theorem aw_getf (hΓ : Ok G κ M d Q X) {ci index k a : Nat} {C : String} {T : u_T} {N : Nat} {ty : Nat → FieldType} {fs : List Value} {v : Value} (hC : ClsOk ci C T N ty) (hk : k < N) (hw : Cond.fieldLink (mY M).cls index (T k).1 (T k).2.1 (T k).2.2.1 ∈ lw_tbl) (hd : decode (mB M) pc = .ok (.getfield index, 3)) (hσ : σ a = some (.inr (ci, fs))) (hv : fs[k]? = some v)
    (kk : AW G κ cs ss (pc + 3) L (v :: st) σ) : AW G κ cs ss pc L (.ref a :: st) σ := by
  obtain ⟨p, l, e, R, s, m, args, below, meth, c, Z⟩ := κ
  intro H locs cells slots ls hH hc hs hL
  obtain ⟨ws, hP, hD, hall⟩ := hH.1.ls
  obtain ⟨q0, he⟩ := hall _ _ hσ
  exact va_get hΓ.exec hΓ.code hΓ.lays hC.ws hΓ.own hΓ.isK hP q0 he hC.1 k hk (hΓ.word hw rfl) (fun _ h => h) hv hd (kk H locs cells slots ls hH hc hs hL)
theorem aw_getfN (hΓ : Ok G κ M d Q X) {ci index k a : Nat} {C host : String} {T : u_T} {N : Nat} {ty : Nat → FieldType} {fs : List Value} {v : Value} (hC : ClsOk ci C T N ty) (hk : k < N) (hw : Cond.fieldLinkNest (mY M).cls index (T k).1 (T k).2.1 (T k).2.2.1 host ∈ lw_tbl) (hd : decode (mB M) pc = .ok (.getfield index, 3)) (hσ : σ a = some (.inr (ci, fs))) (hv : fs[k]? = some v)
    (kk : AW G κ cs ss (pc + 3) L (v :: st) σ) : AW G κ cs ss pc L (.ref a :: st) σ := by
  obtain ⟨p, l, e, R, s, m, args, below, meth, c, Z⟩ := κ
  intro H locs cells slots ls hH hc hs hL
  obtain ⟨ws, hP, hD, hall⟩ := hH.1.ls
  obtain ⟨q0, he⟩ := hall _ _ hσ
  exact va_getN hΓ.exec hΓ.code hΓ.lays hC.ws hΓ.own hΓ.isK hP q0 he hC.1 k hk (hΓ.nest hw rfl) (fun _ h => h) hv hd (kk H locs cells slots ls hH hc hs hL)
theorem aw_putf (hΓ : Ok G κ M d Q X) {ci index k a : Nat} {C : String} {T : u_T} {N : Nat} {ty : Nat → FieldType} {fs : List Value} {v : Value} (hC : ClsOk ci C T N ty) (hk : k < N) (hw : Cond.fieldLink (mY M).cls index (T k).1 (T k).2.1 (T k).2.2.1 ∈ lw_tbl) (hfin : (T k).2.2.2 = false) (hd : decode (mB M) pc = .ok (.putfield index, 3)) (hσ : σ a = some (.inr (ci, fs))) (hn : narrow (ty k) v = v) (hfit : fits (ty k) v = true) (hl : k < fs.length)
    (kk : AW G κ cs ss (pc + 3) L st (hset σ a (.inr (ci, fs.set k v)))) : AW G κ cs ss pc L (v :: .ref a :: st) σ := by
  obtain ⟨p, l, e, R, s, m, args, below, meth, c, Z⟩ := κ
  intro H locs cells slots ls hH hc hs hL
  obtain ⟨ws, hP, hD, hall⟩ := hH.1.ls
  obtain ⟨q0, he⟩ := hall _ _ hσ
  exact va_put hΓ.exec hΓ.code hΓ.lays hC.ws ty hC.2.2.1 hC.2.2.2 hΓ.own hΓ.isK hP hD hH.2 q0 he hC.1 k hk (hΓ.word hw rfl) (fun _ h => h) hfin (hC.2.2.1 k hk) hn hfit hl hd (fun H1 locs1 hP1 hD1 hS1 => kk H1 locs1 cells slots ls ⟨HS.put hall he hP1 hD1, hS1⟩ hc hs hL)
theorem aw_putfN (hΓ : Ok G κ M d Q X) {ci index k a : Nat} {C host : String} {T : u_T} {N : Nat} {ty : Nat → FieldType} {fs : List Value} {v : Value} (hC : ClsOk ci C T N ty) (hk : k < N) (hw : Cond.fieldLinkNest (mY M).cls index (T k).1 (T k).2.1 (T k).2.2.1 host ∈ lw_tbl) (hfin : (T k).2.2.2 = false) (hd : decode (mB M) pc = .ok (.putfield index, 3)) (hσ : σ a = some (.inr (ci, fs))) (hn : narrow (ty k) v = v) (hfit : fits (ty k) v = true) (hl : k < fs.length)
    (kk : AW G κ cs ss (pc + 3) L st (hset σ a (.inr (ci, fs.set k v)))) : AW G κ cs ss pc L (v :: .ref a :: st) σ := by
  obtain ⟨p, l, e, R, s, m, args, below, meth, c, Z⟩ := κ
  intro H locs cells slots ls hH hc hs hL
  obtain ⟨ws, hP, hD, hall⟩ := hH.1.ls
  obtain ⟨q0, he⟩ := hall _ _ hσ
  exact va_putN hΓ.exec hΓ.code hΓ.lays hC.ws ty hC.2.2.1 hC.2.2.2 hΓ.own hΓ.isK hP hD hH.2 q0 he hC.1 k hk (hΓ.nest hw rfl) (fun _ h => h) hfin (hC.2.2.1 k hk) hn hfit hl hd (fun H1 locs1 hP1 hD1 hS1 => kk H1 locs1 cells slots ls ⟨HS.put hall he hP1 hD1, hS1⟩ hc hs hL)
theorem aw_putfF (hΓ : Ok G κ M d Q X) {ci index k a : Nat} {C : String} {T : u_T} {N : Nat} {ty : Nat → FieldType} {fs : List Value} {v : Value} (hC : ClsOk ci C T N ty) (hk : k < N) (hw : Cond.fieldLink (mY M).cls index (T k).1 (T k).2.1 (T k).2.2.1 ∈ lw_tbl) (hfin : (T k).2.2.2 = true) (hinit : (mY M).name = "<init>") (hdecl : (T k).1 = (mY M).cls) (hd : decode (mB M) pc = .ok (.putfield index, 3)) (hσ : σ a = some (.inr (ci, fs))) (hn : narrow (ty k) v = v) (hfit : fits (ty k) v = true) (hl : k < fs.length)
    (kk : AW G κ cs ss (pc + 3) L st (hset σ a (.inr (ci, fs.set k v)))) : AW G κ cs ss pc L (v :: .ref a :: st) σ := by
  obtain ⟨p, l, e, R, s, m, args, below, meth, c, Z⟩ := κ
  intro H locs cells slots ls hH hc hs hL
  obtain ⟨ws, hP, hD, hall⟩ := hH.1.ls
  obtain ⟨q0, he⟩ := hall _ _ hσ
  exact va_putF hΓ.exec hΓ.code hΓ.lays hC.ws ty hC.2.2.1 hC.2.2.2 hΓ.own hΓ.isK hP hD hH.2 q0 he hC.1 k hk (hΓ.word hw rfl) (fun _ h => h) hfin (by rw [hΓ.name]; exact hinit) hdecl (hC.2.2.1 k hk) hn hfit hl hd (fun H1 locs1 hP1 hD1 hS1 => kk H1 locs1 cells slots ls ⟨HS.put hall he hP1 hD1, hS1⟩ hc hs hL)
/-- int arrays, reference arrays, long arrays, in the layer's words -/
abbrev eI (G : Gl) (n : Nat) (f : Nat → Int32) : va_E := .inl (gC G 0, n, .inl f)
abbrev eR (G : Gl) (i n : Nat) (f : Nat → Option Nat) : va_E := .inl (gC G i, n, .inr (.inr (.inr (.inr f))))
theorem aw_iaload (hΓ : Ok G κ M d Q X) {a n j : Nat} {f : Nat → Int32} {i : Int32} (hd : decode (mB M) pc = .ok (.iaload, 1)) (hσ : σ a = some (eI G n f)) (hi : i = nI j) (hj : j < n) (hn : n < 2 ^ 31)
    (kk : AW G κ cs ss (pc + 1) L (.int (f j) :: st) σ) : AW G κ cs ss pc L (.int i :: .ref a :: st) σ := by
  obtain ⟨p, l, e, R, s, m, args, below, meth, c, Z⟩ := κ
  intro H locs cells slots ls hH hc hs hL
  obtain ⟨ws, hP, hD, hall⟩ := hH.1.ls
  obtain ⟨q0, he⟩ := hall _ _ hσ
  subst hi
  refine va_iald hΓ.exec hΓ.code hΓ.isK hP q0 0 he rfl (vp_in_nI hj hn) hd ?_
  rw [nI_clamp (Nat.lt_trans hj hn)]
  exact kk H locs cells slots ls hH hc hs hL
theorem aw_iastore (hΓ : Ok G κ M d Q X) {a n j : Nat} {f : Nat → Int32} {i x : Int32} (hd : decode (mB M) pc = .ok (.iastore, 1)) (hσ : σ a = some (eI G n f)) (hi : i = nI j) (hj : j < n) (hn : n < 2 ^ 31)
    (kk : AW G κ cs ss (pc + 1) L st (hset σ a (eI G n (upd f j x)))) : AW G κ cs ss pc L (.int x :: .int i :: .ref a :: st) σ := by
  obtain ⟨p, l, e, R, s, m, args, below, meth, c, Z⟩ := κ
  intro H locs cells slots ls hH hc hs hL
  obtain ⟨ws, hP, hD, hall⟩ := hH.1.ls
  obtain ⟨q0, he⟩ := hall _ _ hσ
  subst hi
  refine va_iast hΓ.exec hΓ.code hΓ.isK hP hD hH.2 q0 0 he rfl (vp_in_nI hj hn) hd (fun H1 locs1 hP1 hD1 hS1 => ?_)
  rw [nI_clamp (Nat.lt_trans hj hn)] at hP1 hD1
  exact kk H1 locs1 cells slots ls ⟨HS.put hall he hP1 hD1, hS1⟩ hc hs hL
theorem aw_ilen (hΓ : Ok G κ M d Q X) {a n : Nat} {f : Nat → Int32} (hd : decode (mB M) pc = .ok (.arraylength, 1)) (hσ : σ a = some (eI G n f))
    (kk : AW G κ cs ss (pc + 1) L (.int (nI n) :: st) σ) : AW G κ cs ss pc L (.ref a :: st) σ := by
  obtain ⟨p, l, e, R, s, m, args, below, meth, c, Z⟩ := κ
  intro H locs cells slots ls hH hc hs hL
  obtain ⟨ws, hP, hD, hall⟩ := hH.1.ls
  obtain ⟨q0, he⟩ := hall _ _ hσ
  exact va_alen hΓ.exec hΓ.code hΓ.isK hP q0 0 he (ty := .int) rfl rfl hd (kk H locs cells slots ls hH hc hs hL)
theorem aw_rlen (hΓ : Ok G κ M d Q X) {a n i : Nat} {f : Nat → Option Nat} (hi : i = 1 ∨ i = 2) (hd : decode (mB M) pc = .ok (.arraylength, 1)) (hσ : σ a = some (eR G i n f))
    (kk : AW G κ cs ss (pc + 1) L (.int (nI n) :: st) σ) : AW G κ cs ss pc L (.ref a :: st) σ := by
  obtain ⟨p, l, e, R, s, m, args, below, meth, c, Z⟩ := κ
  intro H locs cells slots ls hH hc hs hL
  obtain ⟨ws, hP, hD, hall⟩ := hH.1.ls
  obtain ⟨q0, he⟩ := hall _ _ hσ
  rcases hi with rfl | rfl
  · exact va_alen hΓ.exec hΓ.code hΓ.isK hP q0 1 he (ty := .object "TrainDecoder$Railway") rfl rfl hd (kk H locs cells slots ls hH hc hs hL)
  · exact va_alen hΓ.exec hΓ.code hΓ.isK hP q0 2 he (ty := .object "TrainDecoder$Train") rfl rfl hd (kk H locs cells slots ls hH hc hs hL)
theorem aw_aaload (hΓ : Ok G κ M d Q X) {a n j t : Nat} {f : Nat → Option Nat} {i : Int32} (ht : t = 1 ∨ t = 2) (hd : decode (mB M) pc = .ok (.aaload, 1)) (hσ : σ a = some (eR G t n f)) (hi : i = nI j) (hj : j < n) (hn : n < 2 ^ 31)
    (kk : AW G κ cs ss (pc + 1) L (va_rf (f j) :: st) σ) : AW G κ cs ss pc L (.int i :: .ref a :: st) σ := by
  obtain ⟨p, l, e, R, s, m, args, below, meth, c, Z⟩ := κ
  intro H locs cells slots ls hH hc hs hL
  obtain ⟨ws, hP, hD, hall⟩ := hH.1.ls
  obtain ⟨q0, he⟩ := hall _ _ hσ
  subst hi
  have k2 := kk H locs cells slots ls hH hc hs hL
  have e9 : (nI j).toNatClampNeg = j := nI_clamp (Nat.lt_trans hj hn)
  rcases ht with rfl | rfl
  · exact va_aldq hΓ.exec hΓ.code hΓ.isK hP q0 1 he (C := "TrainDecoder$Railway") rfl (vp_in_nI hj hn) hd (by rw [e9]; exact k2)
  · exact va_aldq hΓ.exec hΓ.code hΓ.isK hP q0 2 he (C := "TrainDecoder$Train") rfl (vp_in_nI hj hn) hd (by rw [e9]; exact k2)
/-- a reference to an object of the array's own class is stored -/
theorem aw_aastore (hΓ : Ok G κ M d Q X) {a n j t ci v : Nat} {r : vw_C} {f : Nat → Option Nat} {vs : List Value} {i : Int32} (ht : (gT G)[t]? = some (gC G t, .object r.1)) (hc0 : vwCl[ci]? = some r) (hd : decode (mB M) pc = .ok (.aastore, 1)) (hσ : σ a = some (eR G t n f)) (hv : σ v = some (.inr (ci, vs))) (hi : i = nI j) (hj : j < n) (hn : n < 2 ^ 31)
    (kk : AW G κ cs ss (pc + 1) L st (hset σ a (eR G t n (va_up f j (some v))))) : AW G κ cs ss pc L (.ref v :: .int i :: .ref a :: st) σ := by
  obtain ⟨p, l, e, R, s, m, args, below, meth, c, Z⟩ := κ
  intro H locs cells slots ls hH hc hs hL
  obtain ⟨ws, hP, hD, hall⟩ := hH.1.ls
  obtain ⟨q0, he⟩ := hall _ _ hσ
  obtain ⟨q1, he1⟩ := hall _ _ hv
  subst hi
  refine va_astq hΓ.exec hΓ.code hΓ.isK hP hD hH.2 q0 t q1 ci he ht he1 hc0 (vp_in_nI hj hn) hd (fun H1 locs1 hP1 hD1 hS1 => ?_)
  rw [nI_clamp (Nat.lt_trans hj hn)] at hP1 hD1
  exact kk H1 locs1 cells slots ls ⟨HS.put hall he hP1 hD1, hS1⟩ hc hs hL
/-- a new object -/
theorem aw_new (hΓ : Ok G κ M d Q X) {ci index : Nat} {C : String} {T : u_T} {N : Nat} {ty : Nat → FieldType} {fs : List Value} (hC : ClsOk ci C T N ty) (hw : Cond.classLink (mY M).cls index C ∈ lw_tbl) (hins : Cond.instantiable C N ∈ lw_tbl) (hini : Cond.initialized C ∈ lw_tbl) (hfs : ∀ j, j < N → defaultValue (ty j) = vp_V fs j) (hd : decode (mB M) pc = .ok (.new index, 3))
    (kk : ∀ q : Nat, σ q = none → gB G ≤ q → AW G κ cs ss (pc + 3) L (.ref q :: st) (hset σ q (.inr (ci, fs)))) : AW G κ (cs + 1) (ss + N) pc L st σ := by
  obtain ⟨p, l, e, R, s, m, args, below, meth, c, Z⟩ := κ
  intro H locs cells slots ls hH hc hs hL
  obtain ⟨ws, hP, hD, hall⟩ := hH.1.ls
  refine va_new hΓ.exec hΓ.code hΓ.lays hC.ws ty hC.2.2.1 hΓ.own (hΓ.word hw rfl) (hΓ.word hins rfl) (hΓ.word hini rfl) hΓ.isK hP hD hH.2 (fun q h => Nat.le_trans hΓ.base h) hC.1 hfs (by omega) (by omega) hd (fun q H1 hP1 hD1 hS1 => ?_)
  obtain ⟨h1, h2⟩ := HS.push hall hP1 hD1
  have hq : gB G ≤ q := (h1 q _ (hset_same _ _ _)).1
  exact kk q h2 hq H1 locs (cells + 1) (slots + N) ls ⟨h1, hS1⟩ (by omega) (by omega) hL
/-- a new int array -/
theorem aw_newI (hΓ : Ok G κ M d Q X) {n : Nat} {x : Int32} (hw : Cond.arrayClass .int ∈ lw_tbl) (hx : x = nI n) (hn : n < 1000000) (hd : decode (mB M) pc = .ok (.newarray .int, 2))
    (kk : ∀ q : Nat, σ q = none → gB G ≤ q → AW G κ cs ss (pc + 2) L (.ref q :: st) (hset σ q (eI G n (fun _ => 0)))) : AW G κ (cs + 1) (ss + n) pc L (.int x :: st) σ := by
  obtain ⟨p, l, e, R, s, m, args, below, meth, c, Z⟩ := κ
  intro H locs cells slots ls hH hc hs hL
  obtain ⟨ws, hP, hD, hall⟩ := hH.1.ls
  subst hx
  refine va_newa hΓ.exec hΓ.code (atype := .int) (hΓ.word hw rfl) (ty := .int) rfl hΓ.isK hP hD hH.2 (fun q h => Nat.le_trans hΓ.base h) (a0 := (n, .inl (fun _ => 0))) (N' := n) (fun cA => rfl) (nI_pos (by omega)) (nI_clamp (by omega)) (by show n * 4 ≤ 536870912; omega) (by omega) (by omega) hd (fun q cA H1 hK1 hP1 hD1 hS1 => ?_)
  have e1 : cA = gC G 0 := by
    have h1 := (hK1.2 5 (cA, .int) rfl).2
    have h2 := (hΓ.isK.2 0 (gC G 0, .int) rfl).2
    exact Option.some.inj (h1.symm.trans h2)
  subst e1
  obtain ⟨h1, h2⟩ := HS.push hall hP1 hD1
  have hq : gB G ≤ q := (h1 q _ (hset_same _ _ _)).1
  exact kk q h2 hq H1 locs (cells + 1) (slots + n) ls ⟨h1, hS1⟩ (by omega) (by omega) hL
/-- a new array of references -/
theorem aw_newR (hΓ : Ok G κ M d Q X) {n t index : Nat} {C : String} {x : Int32} (ht : (gT G)[t]? = some (gC G t, .object C)) (hao : ∀ s, GI G s → va_AO C s) (hw : Cond.classLink (mY M).cls index C ∈ lw_tbl) (hx : x = nI n) (hn : n < 1000000) (hd : decode (mB M) pc = .ok (.anewarray index, 3))
    (kk : ∀ q : Nat, σ q = none → gB G ≤ q → AW G κ cs ss (pc + 3) L (.ref q :: st) (hset σ q (eR G t n (fun _ => none)))) : AW G κ (cs + 1) (ss + n) pc L (.int x :: st) σ := by
  obtain ⟨p, l, e, R, s, m, args, below, meth, c, Z⟩ := κ
  intro H locs cells slots ls hH hc hs hL
  obtain ⟨ws, hP, hD, hall⟩ := hH.1.ls
  subst hx
  refine va_newq hΓ.exec hΓ.code hΓ.own (hΓ.word hw rfl) (hao s hΓ.gi) hΓ.isK hP hD hH.2 (fun q h => Nat.le_trans hΓ.base h) (nI_pos (by omega)) (nI_clamp (by omega)) (by omega) (by omega) (by omega) hd (fun q cA H1 hK1 hP1 hD1 hS1 => ?_)
  have e1 : cA = gC G t := by
    obtain ⟨-, -, -, -, -, h1⟩ := (hK1.2 5 (cA, .object C) rfl).2
    obtain ⟨-, -, -, -, -, h2⟩ := (hΓ.isK.2 t (gC G t, .object C) ht).2
    exact Option.some.inj (h1.symm.trans h2)
  subst e1
  obtain ⟨h1, h2⟩ := HS.push hall hP1 hD1
  have hq : gB G ≤ q := (h1 q _ (hset_same _ _ _)).1
  exact kk q h2 hq H1 locs (cells + 1) (slots + n) ls ⟨h1, hS1⟩ (by omega) (by omega) hL
/-- Object's constructor -/
theorem aw_objInit (hΓ : Ok G κ M d Q X) {index a : Nat} (hw : Cond.methodLink (mY M).cls index objectInit ∈ lw_tbl) (hi : Cond.instanceMethod objectInit ∈ lw_tbl) (hcd : Cond.code objectInit ⟨#[0xb1]⟩ 1 none ∈ lw_tbl) (hfr : 1 ≤ d) (hd : decode (mB M) pc = .ok (.invokespecial index, 3)) (hst : (st.map fun v => v.category).sum ≤ 8)
    (kk : AW G κ cs ss (pc + 3) L st σ) : AW G κ cs ss pc L (.ref a :: st) σ := by
  obtain ⟨p, l, e, R, s, m, args, below, meth, c, Z⟩ := κ
  intro H locs cells slots ls hH hc hs hL
  have hf : d ≤ R.frames := hΓ.2.1.2.1
  have hlo : 38 * d ≤ R.locals := hΓ.2.1.2.2
  refine W.objInit hΓ.exec hΓ.code hΓ.own (hΓ.word hw rfl) (hΓ.word hi rfl) (hΓ.word hcd rfl) rfl hL.1 rfl hd (by omega) ?_ (kk H locs cells slots ls hH hc hs hL)
  show 2 * 0 + (st.map fun v => v.category).sum + 12 ≤ R.locals
  omega
end HeapRules
