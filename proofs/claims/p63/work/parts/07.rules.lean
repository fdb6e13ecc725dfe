/-! the heap function's cells as one list, so that the kit's rows serve over it -/
theorem HS.ls {G : Gl} {σ : Hp} {H : Heap} (h : HS G σ H) : ∃ ws : va_W, va_P (gD G) vwCl ws H ∧ va_D (gA G) ws ∧ ∀ (a : Nat) (e : va_E), σ a = some e → ∃ k : Nat, ws[k]? = some (a, e) := by
  have hm : ∀ q : Nat × va_E, q ∈ (List.range H.size).filterMap (fun a => (σ a).map (fun e => (a, e))) → σ q.1 = some q.2 := by
    intro q hq
    obtain ⟨a, -, ha⟩ := List.mem_filterMap.mp hq
    cases hs : σ a with
    | none => rw [hs] at ha; cases ha
    | some e => rw [hs] at ha; cases ha; exact hs
  have hp : ((List.range H.size).filterMap (fun a => (σ a).map (fun e => (a, e)))).Pairwise (fun p q => p.1 < q.1) := by
    refine List.Pairwise.filterMap _ ?_ List.pairwise_lt_range
    intro a b hab p hp q hq
    cases hs : σ a with
    | none => rw [hs] at hp; cases hp
    | some e =>
      cases hs2 : σ b with
      | none => rw [hs2] at hq; cases hq
      | some e2 => rw [hs] at hp; rw [hs2] at hq; cases hp; cases hq; exact hab
  refine ⟨(List.range H.size).filterMap (fun a => (σ a).map (fun e => (a, e))), fun k q hk => ?_, ⟨fun i j p q hi hj hpq => ?_, fun k q hk => ?_⟩, fun a e hs => ?_⟩
  · exact (h q.1 q.2 (hm q (List.mem_of_getElem? hk))).2
  · obtain ⟨hi1, hi2⟩ := List.getElem?_eq_some_iff.mp hi
    obtain ⟨hj1, hj2⟩ := List.getElem?_eq_some_iff.mp hj
    rcases Nat.lt_trichotomy i j with c | c | c
    · have := List.pairwise_iff_getElem.mp hp i j hi1 hj1 c
      rw [hi2, hj2] at this; omega
    · exact c
    · have := List.pairwise_iff_getElem.mp hp j i hj1 hi1 c
      rw [hi2, hj2] at this; omega
  · exact (h q.1 q.2 (hm q (List.mem_of_getElem? hk))).1
  · have hl := (h a e hs).2.lt
    have hin : (a, e) ∈ (List.range H.size).filterMap (fun a => (σ a).map (fun e => (a, e))) := List.mem_filterMap.mpr ⟨a, List.mem_range.mpr hl, by rw [hs]; rfl⟩
    exact List.getElem?_of_mem hin
theorem HS.put {G : Gl} {σ : Hp} {H1 : Heap} {ws : va_W} {q0 a : Nat} {e0 e : va_E} (hall : ∀ (a : Nat) (e : va_E), σ a = some e → ∃ k : Nat, ws[k]? = some (a, e)) (hq : ws[q0]? = some (a, e0)) (hP : va_P (gD G) vwCl (ws.set q0 (a, e)) H1) (hD : va_D (gA G) (ws.set q0 (a, e))) : HS G (hset σ a e) H1 := by
  have hl := (List.getElem?_eq_some_iff.mp hq).1
  intro x e1 hx
  by_cases hxa : x = a
  · subst hxa
    rw [hset_same] at hx
    cases hx
    exact ⟨hD.2 q0 _ (List.getElem?_set_self hl), hP q0 _ (List.getElem?_set_self hl)⟩
  · rw [hset_ne hxa] at hx
    obtain ⟨k, hk⟩ := hall x e1 hx
    have hkq : k ≠ q0 := fun c => hxa (by rw [c, hq] at hk; cases hk; rfl)
    have hk2 : (ws.set q0 (a, e))[k]? = some (x, e1) := by rw [List.getElem?_set_ne (Ne.symm hkq)]; exact hk
    exact ⟨hD.2 k _ hk2, hP k _ hk2⟩
theorem HS.push {G : Gl} {σ : Hp} {H1 : Heap} {ws : va_W} {q : Nat} {e : va_E} (hall : ∀ (a : Nat) (e : va_E), σ a = some e → ∃ k : Nat, ws[k]? = some (a, e)) (hP : va_P (gD G) vwCl (ws ++ [(q, e)]) H1) (hD : va_D (gA G) (ws ++ [(q, e)])) : HS G (hset σ q e) H1 ∧ σ q = none := by
  have hk0 : (ws ++ [(q, e)])[ws.length]? = some (q, e) := by rw [List.getElem?_append_right (Nat.le_refl _), Nat.sub_self]; rfl
  have old : ∀ (x : Nat) (e1 : va_E), σ x = some e1 → ∃ k : Nat, k < ws.length ∧ (ws ++ [(q, e)])[k]? = some (x, e1) := by
    intro x e1 hx
    obtain ⟨k, hk⟩ := hall x e1 hx
    have hl := (List.getElem?_eq_some_iff.mp hk).1
    exact ⟨k, hl, by rw [List.getElem?_append_left hl]; exact hk⟩
  refine ⟨fun x e1 hx => ?_, ?_⟩
  · by_cases hxa : x = q
    · subst hxa
      rw [hset_same] at hx
      cases hx
      exact ⟨hD.2 _ _ hk0, hP _ _ hk0⟩
    · rw [hset_ne hxa] at hx
      obtain ⟨k, -, hk⟩ := old x e1 hx
      exact ⟨hD.2 _ _ hk, hP _ _ hk⟩
  · cases hs : σ q with
    | none => rfl
    | some e1 =>
      obtain ⟨k, hk1, hk⟩ := old q e1 hs
      have := hD.1 k ws.length _ _ hk hk0 rfl
      omega
section FrameRules
variable {G : Gl} {κ : Kx} {M : Mx} {d : Nat} {Q : Option Value → Hp → Prop} {X : String → Hp → Prop} {cs ss pc : Nat} {L : List (Option LV)} {st : List Value} {σ : Hp}
theorem Ok.exec {p l e R s m args below meth c Z} (h : Ok G (p, l, e, R, s, m, args, below, meth, c, Z) M d Q X) : p.tables.exec = Jvm.exec := h.1.1
theorem Ok.code {p l e R s m args below meth c Z} (h : Ok G (p, l, e, R, s, m, args, below, meth, c, Z) M d Q X) : c.code = mB M := h.1.2.1
theorem Ok.maxL {p l e R s m args below meth c Z} (h : Ok G (p, l, e, R, s, m, args, below, meth, c, Z) M d Q X) : c.maxLocals = mL M := h.1.2.2.1
theorem Ok.own {p l e R s m args below meth c Z} (h : Ok G (p, l, e, R, s, m, args, below, meth, c, Z) M d Q X) : s.vm.findClass (mY M).cls = some m.cls := h.1.2.2.2.2.1
theorem Ok.name {p l e R s m args below meth c Z} (h : Ok G (p, l, e, R, s, m, args, below, meth, c, Z) M d Q X) : meth.name = (mY M).name := h.1.2.2.2.2.2.1
theorem Ok.locks {p l e R s m args below meth c Z} (h : Ok G (p, l, e, R, s, m, args, below, meth, c, Z) M d Q X) : meth.locks = false := h.1.2.2.2.2.2.2.1
theorem Ok.word {p l e R s m args below meth c Z} (h : Ok G (p, l, e, R, s, m, args, below, meth, c, Z) M d Q X) {w : Cond} (hw : w ∈ lw_tbl) (hg : goodWord w = true) : w.before args s = true := h.2.2.1.1 w hw hg
theorem Ok.gi {p l e R s m args below meth c Z} (h : Ok G (p, l, e, R, s, m, args, below, meth, c, Z) M d Q X) : GI G s := h.2.2.1.2.1
theorem Ok.isK {p l e R s m args below meth c Z} (h : Ok G (p, l, e, R, s, m, args, below, meth, c, Z) M d Q X) : va_K (gD G) vwCl (gT G) s := h.2.2.1.2.1.1
theorem Ok.base {p l e R s m args below meth c Z} (h : Ok G (p, l, e, R, s, m, args, below, meth, c, Z) M d Q X) : gB G ≤ s.heap.size := h.2.2.1.2.2
theorem Ok.nest {p l e R s m args below meth c Z} (h : Ok G (p, l, e, R, s, m, args, below, meth, c, Z) M d Q X) {w : Cond} (hw : w ∈ lw_tbl) (hg : nestW w = true) : w.before args s = true := va_Nw.use (nestW_on hg) (h.2.2.1.2.1.2.1 w hw hg)
/-- an instruction that moves the stack alone -/
theorem aw_of (hΓ : Ok G κ M d Q X) {pc2 : Nat} {st2 : List Value} (h : ∀ {p : Program} {l : Launch} {e : Env} {R : Room} {s : State} {m : MethodId} {args : Array Value} {below : List Frame} {meth : Method} {c : Code} {H : Heap} {locs : List Loc} {cells slots : Nat} {Z : State → Prop} {ls : Array Slot}, p.tables.exec = Jvm.exec → c.code = mB M → W p l e R s m args below meth c H locs cells slots Z (F0 m pc2 ls st2) → W p l e R s m args below meth c H locs cells slots Z (F0 m pc ls st)) (k : AW G κ cs ss pc2 L st2 σ) : AW G κ cs ss pc L st σ := by
  obtain ⟨p, l, e, R, s, m, args, below, meth, c, Z⟩ := κ
  intro H locs cells slots ls hH hc hs hl
  exact h hΓ.exec hΓ.code (k H locs cells slots ls hH hc hs hl)
/-- .. or goes one of two ways -/
theorem aw_of2 (hΓ : Ok G κ M d Q X) {cond : Prop} {pc2 pc3 : Nat} {st2 : List Value} (h : ∀ {p : Program} {l : Launch} {e : Env} {R : Room} {s : State} {m : MethodId} {args : Array Value} {below : List Frame} {meth : Method} {c : Code} {H : Heap} {locs : List Loc} {cells slots : Nat} {Z : State → Prop} {ls : Array Slot}, p.tables.exec = Jvm.exec → c.code = mB M → (cond → W p l e R s m args below meth c H locs cells slots Z (F0 m pc2 ls st2)) → (¬ cond → W p l e R s m args below meth c H locs cells slots Z (F0 m pc3 ls st2)) → W p l e R s m args below meth c H locs cells slots Z (F0 m pc ls st)) (kt : cond → AW G κ cs ss pc2 L st2 σ) (kf : ¬ cond → AW G κ cs ss pc3 L st2 σ) : AW G κ cs ss pc L st σ := by
  obtain ⟨p, l, e, R, s, m, args, below, meth, c, Z⟩ := κ
  intro H locs cells slots ls hH hc hs hl
  exact h hΓ.exec hΓ.code (fun q => kt q H locs cells slots ls hH hc hs hl) (fun q => kf q H locs cells slots ls hH hc hs hl)
theorem aw_less {cs2 ss2 : Nat} (h1 : cs2 ≤ cs) (h2 : ss2 ≤ ss) (k : AW G κ cs2 ss2 pc L st σ) : AW G κ cs ss pc L st σ := by
  obtain ⟨p, l, e, R, s, m, args, below, meth, c, Z⟩ := κ
  intro H locs cells slots ls hH hc hs hl
  exact k H locs cells slots ls hH (by omega) (by omega) hl
theorem aw_locals {L1 : List (Option LV)} (h : ∀ (i : Nat) (v : LV), lget L1 i = some v → lget L i = some v) (k : AW G κ cs ss pc L1 st σ) : AW G κ cs ss pc L st σ := by
  obtain ⟨p, l, e, R, s, m, args, below, meth, c, Z⟩ := κ
  intro H locs cells slots ls hH hc hs hl
  exact k H locs cells slots ls hH hc hs (hl.less h)
theorem aw_iconst (hΓ : Ok G κ M d Q X) {n : Int} {v : Int32} (hd : decode (mB M) pc = .ok (.iconst n, 1)) (hv : Int32.ofInt n = v) (k : AW G κ cs ss (pc + 1) L (.int v :: st) σ) : AW G κ cs ss pc L (st) σ := aw_of hΓ (fun hx hb k => lv_iconst hx hb hd hv k) k
theorem aw_bipush (hΓ : Ok G κ M d Q X) {n : Int} {v : Int32} (hd : decode (mB M) pc = .ok (.bipush n, 2)) (hv : (Int8.ofInt n).toInt32 = v) (k : AW G κ cs ss (pc + 2) L (.int v :: st) σ) : AW G κ cs ss pc L (st) σ := aw_of hΓ (fun hx hb k => lv_bipush hx hb hd hv k) k
theorem aw_sipush (hΓ : Ok G κ M d Q X) {n : Int} {v : Int32} (hd : decode (mB M) pc = .ok (.sipush n, 3)) (hv : (Int16.ofInt n).toInt32 = v) (k : AW G κ cs ss (pc + 3) L (.int v :: st) σ) : AW G κ cs ss pc L (st) σ := aw_of hΓ (fun hx hb k => lv_sipush hx hb hd hv k) k
theorem aw_lconst (hΓ : Ok G κ M d Q X) {n : Fin 2} {v : Int64} (hd : decode (mB M) pc = .ok (.lconst n, 1)) (hv : Int64.ofNat (n : Nat) = v) (k : AW G κ cs ss (pc + 1) L (.long v :: st) σ) : AW G κ cs ss pc L (st) σ := aw_of hΓ (fun hx hb k => lv_lconst hx hb hd hv k) k
theorem aw_null (hΓ : Ok G κ M d Q X) (hd : decode (mB M) pc = .ok (.aconst_null, 1)) (k : AW G κ cs ss (pc + 1) L (.null :: st) σ) : AW G κ cs ss pc L (st) σ := aw_of hΓ (fun hx hb k => lv_null hx hb hd k) k
theorem aw_iadd (hΓ : Ok G κ M d Q X) {x y : Int32} (hd : decode (mB M) pc = .ok (.iadd, 1)) (k : AW G κ cs ss (pc + 1) L (.int (x + y) :: st) σ) : AW G κ cs ss pc L (.int y :: .int x :: st) σ := aw_of hΓ (fun hx hb k => lv_iadd hx hb hd k) k
theorem aw_isub (hΓ : Ok G κ M d Q X) {x y : Int32} (hd : decode (mB M) pc = .ok (.isub, 1)) (k : AW G κ cs ss (pc + 1) L (.int (x - y) :: st) σ) : AW G κ cs ss pc L (.int y :: .int x :: st) σ := aw_of hΓ (fun hx hb k => lv_isub hx hb hd k) k
theorem aw_imul (hΓ : Ok G κ M d Q X) {x y : Int32} (hd : decode (mB M) pc = .ok (.imul, 1)) (k : AW G κ cs ss (pc + 1) L (.int (x * y) :: st) σ) : AW G κ cs ss pc L (.int y :: .int x :: st) σ := aw_of hΓ (fun hx hb k => lv_imul hx hb hd k) k
theorem aw_iand (hΓ : Ok G κ M d Q X) {x y : Int32} (hd : decode (mB M) pc = .ok (.iand, 1)) (k : AW G κ cs ss (pc + 1) L (.int (x &&& y) :: st) σ) : AW G κ cs ss pc L (.int y :: .int x :: st) σ := aw_of hΓ (fun hx hb k => lv_iand hx hb hd k) k
theorem aw_ior (hΓ : Ok G κ M d Q X) {x y : Int32} (hd : decode (mB M) pc = .ok (.ior, 1)) (k : AW G κ cs ss (pc + 1) L (.int (x ||| y) :: st) σ) : AW G κ cs ss pc L (.int y :: .int x :: st) σ := aw_of hΓ (fun hx hb k => lv_ior hx hb hd k) k
theorem aw_ixor (hΓ : Ok G κ M d Q X) {x y : Int32} (hd : decode (mB M) pc = .ok (.ixor, 1)) (k : AW G κ cs ss (pc + 1) L (.int (x ^^^ y) :: st) σ) : AW G κ cs ss pc L (.int y :: .int x :: st) σ := aw_of hΓ (fun hx hb k => lv_ixor hx hb hd k) k
theorem aw_ishl (hΓ : Ok G κ M d Q X) {x y : Int32} (hd : decode (mB M) pc = .ok (.ishl, 1)) (k : AW G κ cs ss (pc + 1) L (.int (x <<< (y &&& 31)) :: st) σ) : AW G κ cs ss pc L (.int y :: .int x :: st) σ := aw_of hΓ (fun hx hb k => lv_ishl hx hb hd k) k
theorem aw_ishr (hΓ : Ok G κ M d Q X) {x y : Int32} (hd : decode (mB M) pc = .ok (.ishr, 1)) (k : AW G κ cs ss (pc + 1) L (.int (x >>> (y &&& 31)) :: st) σ) : AW G κ cs ss pc L (.int y :: .int x :: st) σ := aw_of hΓ (fun hx hb k => lv_ishr hx hb hd k) k
theorem aw_iushr (hΓ : Ok G κ M d Q X) {x y : Int32} (hd : decode (mB M) pc = .ok (.iushr, 1)) (k : AW G κ cs ss (pc + 1) L (.int ((x.toUInt32 >>> (y.toUInt32 &&& Int32.toUInt32 31)).toInt32) :: st) σ) : AW G κ cs ss pc L (.int y :: .int x :: st) σ := aw_of hΓ (fun hx hb k => lv_iushr hx hb hd rfl k) k
theorem aw_idiv (hΓ : Ok G κ M d Q X) {x y : Int32} (hd : decode (mB M) pc = .ok (.idiv, 1)) (hne : ¬ y = 0) (k : AW G κ cs ss (pc + 1) L (.int (x / y) :: st) σ) : AW G κ cs ss pc L (.int y :: .int x :: st) σ := aw_of hΓ (fun hx hb k => lv_idiv hx hb hd hne k) k
theorem aw_irem (hΓ : Ok G κ M d Q X) {x y : Int32} (hd : decode (mB M) pc = .ok (.irem, 1)) (hne : ¬ y = 0) (k : AW G κ cs ss (pc + 1) L (.int (x - x / y * y) :: st) σ) : AW G κ cs ss pc L (.int y :: .int x :: st) σ := aw_of hΓ (fun hx hb k => lv_irem hx hb hd hne k) k
theorem aw_ineg (hΓ : Ok G κ M d Q X) {x : Int32} (hd : decode (mB M) pc = .ok (.ineg, 1)) (k : AW G κ cs ss (pc + 1) L (.int (-x) :: st) σ) : AW G κ cs ss pc L (.int x :: st) σ := aw_of hΓ (fun hx hb k => lv_ineg hx hb hd k) k
theorem aw_i2l (hΓ : Ok G κ M d Q X) {x : Int32} (hd : decode (mB M) pc = .ok (.i2l, 1)) (k : AW G κ cs ss (pc + 1) L (.long x.toInt64 :: st) σ) : AW G κ cs ss pc L (.int x :: st) σ := aw_of hΓ (fun hx hb k => lv_i2l hx hb hd rfl k) k
theorem aw_i2c (hΓ : Ok G κ M d Q X) {x : Int32} (hd : decode (mB M) pc = .ok (.i2c, 1)) (k : AW G κ cs ss (pc + 1) L (.int ((x.toUInt32 % 65536).toInt32) :: st) σ) : AW G κ cs ss pc L (.int x :: st) σ := aw_of hΓ (fun hx hb k => lv_i2c hx hb hd rfl k) k
theorem aw_dup (hΓ : Ok G κ M d Q X) {va : Value} (hd : decode (mB M) pc = .ok (.dup, 1)) (hc : va.category = 1) (k : AW G κ cs ss (pc + 1) L (va :: va :: st) σ) : AW G κ cs ss pc L (va :: st) σ := aw_of hΓ (fun hx hb k => lv_dup hx hb hd hc k) k
theorem aw_pop (hΓ : Ok G κ M d Q X) {va : Value} (hd : decode (mB M) pc = .ok (.pop, 1)) (hc : va.category = 1) (k : AW G κ cs ss (pc + 1) L (st) σ) : AW G κ cs ss pc L (va :: st) σ := aw_of hΓ (fun hx hb k => lv_pop hx hb hd hc k) k
theorem aw_dup2 (hΓ : Ok G κ M d Q X) {va vb : Value} (hd : decode (mB M) pc = .ok (.dup2, 1)) (hc : va.category = 1) (hc2 : vb.category = 1) (k : AW G κ cs ss (pc + 1) L (va :: vb :: va :: vb :: st) σ) : AW G κ cs ss pc L (va :: vb :: st) σ := aw_of hΓ (fun hx hb k => lv_dup2_11 hx hb hd hc hc2 k) k
theorem aw_goto (hΓ : Ok G κ M d Q X) {off : Int} {tgt : Nat} (hd : decode (mB M) pc = .ok (.goto off, 3)) (ht : (pc : Int) + off = (tgt : Int)) (k : AW G κ cs ss tgt L st σ) : AW G κ cs ss pc L st σ := aw_of hΓ (fun hx hb k => lv_goto hx hb hd ht k) k
theorem aw_icmp_eq (hΓ : Ok G κ M d Q X) {x y : Int32} {off : Int} {tgt : Nat} (hd : decode (mB M) pc = .ok (.if_icmp .eq off, 3)) (ht : (pc : Int) + off = (tgt : Int)) (kt : x = y → AW G κ cs ss tgt L st σ) (kf : ¬ x = y → AW G κ cs ss (pc + 3) L st σ) : AW G κ cs ss pc L (.int y :: .int x :: st) σ := aw_of2 hΓ (fun hx hb kt kf => lv_icmp_eq hx hb hd ht kt kf) kt kf
theorem aw_if_eq (hΓ : Ok G κ M d Q X) {x : Int32} {off : Int} {tgt : Nat} (hd : decode (mB M) pc = .ok (.ifCond .eq off, 3)) (ht : (pc : Int) + off = (tgt : Int)) (kt : x = 0 → AW G κ cs ss tgt L st σ) (kf : ¬ x = 0 → AW G κ cs ss (pc + 3) L st σ) : AW G κ cs ss pc L (.int x :: st) σ := aw_of2 hΓ (fun hx hb kt kf => lv_if_eq hx hb hd ht kt kf) kt kf
theorem aw_icmp_ne (hΓ : Ok G κ M d Q X) {x y : Int32} {off : Int} {tgt : Nat} (hd : decode (mB M) pc = .ok (.if_icmp .ne off, 3)) (ht : (pc : Int) + off = (tgt : Int)) (kt : ¬ x = y → AW G κ cs ss tgt L st σ) (kf : x = y → AW G κ cs ss (pc + 3) L st σ) : AW G κ cs ss pc L (.int y :: .int x :: st) σ := aw_of2 hΓ (cond := x = y) (fun hx hb kf kt => lv_icmp_ne hx hb hd ht kt kf) kf kt
theorem aw_if_ne (hΓ : Ok G κ M d Q X) {x : Int32} {off : Int} {tgt : Nat} (hd : decode (mB M) pc = .ok (.ifCond .ne off, 3)) (ht : (pc : Int) + off = (tgt : Int)) (kt : ¬ x = 0 → AW G κ cs ss tgt L st σ) (kf : x = 0 → AW G κ cs ss (pc + 3) L st σ) : AW G κ cs ss pc L (.int x :: st) σ := aw_of2 hΓ (cond := x = 0) (fun hx hb kf kt => lv_if_ne hx hb hd ht kt kf) kf kt
theorem aw_icmp_lt (hΓ : Ok G κ M d Q X) {x y : Int32} {off : Int} {tgt : Nat} (hd : decode (mB M) pc = .ok (.if_icmp .lt off, 3)) (ht : (pc : Int) + off = (tgt : Int)) (kt : x < y → AW G κ cs ss tgt L st σ) (kf : ¬ x < y → AW G κ cs ss (pc + 3) L st σ) : AW G κ cs ss pc L (.int y :: .int x :: st) σ := aw_of2 hΓ (fun hx hb kt kf => lv_icmp_lt hx hb hd ht kt kf) kt kf
theorem aw_if_lt (hΓ : Ok G κ M d Q X) {x : Int32} {off : Int} {tgt : Nat} (hd : decode (mB M) pc = .ok (.ifCond .lt off, 3)) (ht : (pc : Int) + off = (tgt : Int)) (kt : x < 0 → AW G κ cs ss tgt L st σ) (kf : ¬ x < 0 → AW G κ cs ss (pc + 3) L st σ) : AW G κ cs ss pc L (.int x :: st) σ := aw_of2 hΓ (fun hx hb kt kf => lv_if_lt hx hb hd ht kt kf) kt kf
theorem aw_icmp_ge (hΓ : Ok G κ M d Q X) {x y : Int32} {off : Int} {tgt : Nat} (hd : decode (mB M) pc = .ok (.if_icmp .ge off, 3)) (ht : (pc : Int) + off = (tgt : Int)) (kt : y ≤ x → AW G κ cs ss tgt L st σ) (kf : ¬ y ≤ x → AW G κ cs ss (pc + 3) L st σ) : AW G κ cs ss pc L (.int y :: .int x :: st) σ := aw_of2 hΓ (fun hx hb kt kf => lv_icmp_ge hx hb hd ht kt kf) kt kf
theorem aw_if_ge (hΓ : Ok G κ M d Q X) {x : Int32} {off : Int} {tgt : Nat} (hd : decode (mB M) pc = .ok (.ifCond .ge off, 3)) (ht : (pc : Int) + off = (tgt : Int)) (kt : 0 ≤ x → AW G κ cs ss tgt L st σ) (kf : ¬ 0 ≤ x → AW G κ cs ss (pc + 3) L st σ) : AW G κ cs ss pc L (.int x :: st) σ := aw_of2 hΓ (fun hx hb kt kf => lv_if_ge hx hb hd ht kt kf) kt kf
theorem aw_icmp_gt (hΓ : Ok G κ M d Q X) {x y : Int32} {off : Int} {tgt : Nat} (hd : decode (mB M) pc = .ok (.if_icmp .gt off, 3)) (ht : (pc : Int) + off = (tgt : Int)) (kt : y < x → AW G κ cs ss tgt L st σ) (kf : ¬ y < x → AW G κ cs ss (pc + 3) L st σ) : AW G κ cs ss pc L (.int y :: .int x :: st) σ := aw_of2 hΓ (fun hx hb kt kf => lv_icmp_gt hx hb hd ht kt kf) kt kf
theorem aw_if_gt (hΓ : Ok G κ M d Q X) {x : Int32} {off : Int} {tgt : Nat} (hd : decode (mB M) pc = .ok (.ifCond .gt off, 3)) (ht : (pc : Int) + off = (tgt : Int)) (kt : 0 < x → AW G κ cs ss tgt L st σ) (kf : ¬ 0 < x → AW G κ cs ss (pc + 3) L st σ) : AW G κ cs ss pc L (.int x :: st) σ := aw_of2 hΓ (fun hx hb kt kf => lv_if_gt hx hb hd ht kt kf) kt kf
theorem aw_icmp_le (hΓ : Ok G κ M d Q X) {x y : Int32} {off : Int} {tgt : Nat} (hd : decode (mB M) pc = .ok (.if_icmp .le off, 3)) (ht : (pc : Int) + off = (tgt : Int)) (kt : x ≤ y → AW G κ cs ss tgt L st σ) (kf : ¬ x ≤ y → AW G κ cs ss (pc + 3) L st σ) : AW G κ cs ss pc L (.int y :: .int x :: st) σ := aw_of2 hΓ (fun hx hb kt kf => lv_icmp_le hx hb hd ht kt kf) kt kf
theorem aw_if_le (hΓ : Ok G κ M d Q X) {x : Int32} {off : Int} {tgt : Nat} (hd : decode (mB M) pc = .ok (.ifCond .le off, 3)) (ht : (pc : Int) + off = (tgt : Int)) (kt : x ≤ 0 → AW G κ cs ss tgt L st σ) (kf : ¬ x ≤ 0 → AW G κ cs ss (pc + 3) L st σ) : AW G κ cs ss pc L (.int x :: st) σ := aw_of2 hΓ (fun hx hb kt kf => lv_if_le hx hb hd ht kt kf) kt kf
theorem aw_acmp_ne (hΓ : Ok G κ M d Q X) {rx ry : Option Nat} {off : Int} {tgt : Nat} (hd : decode (mB M) pc = .ok (.if_acmp .ne off, 3)) (ht : (pc : Int) + off = (tgt : Int)) (kt : ¬ rx = ry → AW G κ cs ss tgt L st σ) (kf : rx = ry → AW G κ cs ss (pc + 3) L st σ) : AW G κ cs ss pc L (va_rf ry :: va_rf rx :: st) σ := aw_of2 hΓ (cond := rx = ry) (fun hx hb kf kt => lv_acmp_ne hx hb hd ht kt kf) kf kt
theorem aw_acmp_eq (hΓ : Ok G κ M d Q X) {rx ry : Option Nat} {off : Int} {tgt : Nat} (hd : decode (mB M) pc = .ok (.if_acmp .eq off, 3)) (ht : (pc : Int) + off = (tgt : Int)) (kt : rx = ry → AW G κ cs ss tgt L st σ) (kf : ¬ rx = ry → AW G κ cs ss (pc + 3) L st σ) : AW G κ cs ss pc L (va_rf ry :: va_rf rx :: st) σ := aw_of2 hΓ (fun hx hb kt kf => lv_acmp_eq hx hb hd ht kt kf) kt kf
theorem aw_ifnonnull (hΓ : Ok G κ M d Q X) {r : Option Nat} {off : Int} {tgt : Nat} (hd : decode (mB M) pc = .ok (.ifnonnull off, 3)) (ht : (pc : Int) + off = (tgt : Int)) (kt : ∀ a : Nat, r = some a → AW G κ cs ss tgt L st σ) (kf : r = none → AW G κ cs ss (pc + 3) L st σ) : AW G κ cs ss pc L (va_rf r :: st) σ := by
  cases r with
  | none => exact aw_of hΓ (fun hx hb k => lv_ifnonnullN hx hb hd k) (kf rfl)
  | some a => exact aw_of hΓ (fun hx hb k => lv_ifnonnull hx hb hd ht k) (kt a rfl)
theorem aw_ifnull (hΓ : Ok G κ M d Q X) {r : Option Nat} {off : Int} {tgt : Nat} (hd : decode (mB M) pc = .ok (.ifnull off, 3)) (ht : (pc : Int) + off = (tgt : Int)) (kt : r = none → AW G κ cs ss tgt L st σ) (kf : ∀ a : Nat, r = some a → AW G κ cs ss (pc + 3) L st σ) : AW G κ cs ss pc L (va_rf r :: st) σ := by
  cases r with
  | none => exact aw_of hΓ (fun hx hb k => lv_ifnullN hx hb hd ht k) (kt rfl)
  | some a => exact aw_of hΓ (fun hx hb k => lv_ifnull hx hb hd k) (kf a rfl)
theorem aw_tableIn (hΓ : Ok G κ M d Q X) {dflt lo hi : Int} {offs : Array Int} {len : Nat} {x : Int32} {off : Int} {tgt : Nat} (hd : decode (mB M) pc = .ok (.tableswitch dflt lo hi offs, len)) (h1 : ¬ x.toInt < lo) (h2 : ¬ hi < x.toInt) (ho : offs[(x.toInt - lo).toNat]? = some off) (ht : (pc : Int) + off = (tgt : Int)) (k : AW G κ cs ss tgt L st σ) : AW G κ cs ss pc L (.int x :: st) σ := aw_of hΓ (fun hx hb k => lv_tableIn hx hb hd h1 h2 ho ht k) k
theorem aw_tableOut (hΓ : Ok G κ M d Q X) {dflt lo hi : Int} {offs : Array Int} {len : Nat} {x : Int32} {tgt : Nat} (hd : decode (mB M) pc = .ok (.tableswitch dflt lo hi offs, len)) (h : x.toInt < lo ∨ hi < x.toInt) (ht : (pc : Int) + dflt = (tgt : Int)) (k : AW G κ cs ss tgt L st σ) : AW G κ cs ss pc L (.int x :: st) σ := aw_of hΓ (fun hx hb k => lv_tableOut hx hb hd h ht k) k
theorem aw_lookup (hΓ : Ok G κ M d Q X) {dflt : Int} {ps : Array (Int × Int)} {len : Nat} {x : Int32} {off : Int} {tgt : Nat} (hd : decode (mB M) pc = .ok (.lookupswitch dflt ps, len)) (hp : (ps.toList.zip (ps.toList.drop 1)).all (fun (a, next) => a.1 < next.1) = true) (ho : Op.lookupswitch.offset ps.toList dflt x.toInt = off) (ht : (pc : Int) + off = (tgt : Int)) (k : AW G κ cs ss tgt L st σ) : AW G κ cs ss pc L (.int x :: st) σ := aw_of hΓ (fun hx hb k => lv_lookup hx hb hd hp ho ht k) k
theorem aw_iload (hΓ : Ok G κ M d Q X) {i : Nat} {x : Int32} (hd : decode (mB M) pc = .ok (.iload i, 2)) (hl : lget L i = some (.inl x)) (k : AW G κ cs ss (pc + 2) L (.int x :: st) σ) : AW G κ cs ss pc L st σ := by
  obtain ⟨p, l, e, R, s, m, args, below, meth, c, Z⟩ := κ
  intro H locs cells slots ls hH hc hs hL
  exact lv_iload hΓ.exec hΓ.code hd (hL.get hl) (k H locs cells slots ls hH hc hs hL)
theorem aw_iload_n (hΓ : Ok G κ M d Q X) {kk : Fin 4} {i : Nat} {x : Int32} (hd : decode (mB M) pc = .ok (.iload_n kk, 1)) (hi : (kk : Nat) = i) (hl : lget L i = some (.inl x)) (k : AW G κ cs ss (pc + 1) L (.int x :: st) σ) : AW G κ cs ss pc L st σ := by
  obtain ⟨p, l, e, R, s, m, args, below, meth, c, Z⟩ := κ
  intro H locs cells slots ls hH hc hs hL
  exact lv_iload_n hΓ.exec hΓ.code hd hi (hL.get hl) (k H locs cells slots ls hH hc hs hL)
theorem aw_aload (hΓ : Ok G κ M d Q X) {i : Nat} {r : Option Nat} (hd : decode (mB M) pc = .ok (.aload i, 2)) (hl : lget L i = some (.inr r)) (k : AW G κ cs ss (pc + 2) L (va_rf r :: st) σ) : AW G κ cs ss pc L st σ := by
  obtain ⟨p, l, e, R, s, m, args, below, meth, c, Z⟩ := κ
  intro H locs cells slots ls hH hc hs hL
  cases r with
  | none => exact lv_aloadN hΓ.exec hΓ.code hd (hL.get hl) (k H locs cells slots ls hH hc hs hL)
  | some a => exact lv_aload hΓ.exec hΓ.code hd (hL.get hl) (k H locs cells slots ls hH hc hs hL)
theorem aw_aload_n (hΓ : Ok G κ M d Q X) {kk : Fin 4} {i : Nat} {r : Option Nat} (hd : decode (mB M) pc = .ok (.aload_n kk, 1)) (hi : (kk : Nat) = i) (hl : lget L i = some (.inr r)) (k : AW G κ cs ss (pc + 1) L (va_rf r :: st) σ) : AW G κ cs ss pc L st σ := by
  obtain ⟨p, l, e, R, s, m, args, below, meth, c, Z⟩ := κ
  intro H locs cells slots ls hH hc hs hL
  cases r with
  | none => exact lv_aload_nN hΓ.exec hΓ.code hd hi (hL.get hl) (k H locs cells slots ls hH hc hs hL)
  | some a => exact lv_aload_n hΓ.exec hΓ.code hd hi (hL.get hl) (k H locs cells slots ls hH hc hs hL)
theorem aw_istore (hΓ : Ok G κ M d Q X) {i : Nat} {x : Int32} (hd : decode (mB M) pc = .ok (.istore i, 2)) (hn : i < mL M) (k : AW G κ cs ss (pc + 2) (lset L i (.inl x)) st σ) : AW G κ cs ss pc L (.int x :: st) σ := by
  obtain ⟨p, l, e, R, s, m, args, below, meth, c, Z⟩ := κ
  intro H locs cells slots ls hH hc hs hL
  exact lv_istore hΓ.exec hΓ.code hd hL (by rw [hΓ.maxL]; exact hn) rfl (fun ls1 h1 => k H locs cells slots ls1 hH hc hs (LR.stored (v := .inl x) h1))
theorem aw_istore_n (hΓ : Ok G κ M d Q X) {kk : Fin 4} {i : Nat} {x : Int32} (hd : decode (mB M) pc = .ok (.istore_n kk, 1)) (hi : (kk : Nat) = i) (hn : i < mL M) (k : AW G κ cs ss (pc + 1) (lset L i (.inl x)) st σ) : AW G κ cs ss pc L (.int x :: st) σ := by
  obtain ⟨p, l, e, R, s, m, args, below, meth, c, Z⟩ := κ
  intro H locs cells slots ls hH hc hs hL
  exact lv_istore_n hΓ.exec hΓ.code hd hi hL (by rw [hΓ.maxL]; exact hn) rfl (fun ls1 h1 => k H locs cells slots ls1 hH hc hs (LR.stored (v := .inl x) h1))
theorem aw_astore (hΓ : Ok G κ M d Q X) {i : Nat} {r : Option Nat} (hd : decode (mB M) pc = .ok (.astore i, 2)) (hn : i < mL M) (k : AW G κ cs ss (pc + 2) (lset L i (.inr r)) st σ) : AW G κ cs ss pc L (va_rf r :: st) σ := by
  obtain ⟨p, l, e, R, s, m, args, below, meth, c, Z⟩ := κ
  intro H locs cells slots ls hH hc hs hL
  cases r with
  | none => exact lv_astoreN hΓ.exec hΓ.code hd hL (by rw [hΓ.maxL]; exact hn) rfl (fun ls1 h1 => k H locs cells slots ls1 hH hc hs (LR.stored (v := .inr none) h1))
  | some a => exact lv_astore hΓ.exec hΓ.code hd hL (by rw [hΓ.maxL]; exact hn) rfl (fun ls1 h1 => k H locs cells slots ls1 hH hc hs (LR.stored (v := .inr (some a)) h1))
theorem aw_astore_n (hΓ : Ok G κ M d Q X) {kk : Fin 4} {i : Nat} {r : Option Nat} (hd : decode (mB M) pc = .ok (.astore_n kk, 1)) (hi : (kk : Nat) = i) (hn : i < mL M) (k : AW G κ cs ss (pc + 1) (lset L i (.inr r)) st σ) : AW G κ cs ss pc L (va_rf r :: st) σ := by
  obtain ⟨p, l, e, R, s, m, args, below, meth, c, Z⟩ := κ
  intro H locs cells slots ls hH hc hs hL
  cases r with
  | none => exact lv_astore_nN hΓ.exec hΓ.code hd hi hL (by rw [hΓ.maxL]; exact hn) rfl (fun ls1 h1 => k H locs cells slots ls1 hH hc hs (LR.stored (v := .inr none) h1))
  | some a => exact lv_astore_n hΓ.exec hΓ.code hd hi hL (by rw [hΓ.maxL]; exact hn) rfl (fun ls1 h1 => k H locs cells slots ls1 hH hc hs (LR.stored (v := .inr (some a)) h1))
theorem aw_iinc (hΓ : Ok G κ M d Q X) {i : Nat} {n : Int} {x v : Int32} (hd : decode (mB M) pc = .ok (.iinc i n, 3)) (hl : lget L i = some (.inl x)) (hv : x + Int32.ofInt n = v) (hn : i < mL M) (k : AW G κ cs ss (pc + 3) (lset L i (.inl v)) st σ) : AW G κ cs ss pc L st σ := by
  obtain ⟨p, l, e, R, s, m, args, below, meth, c, Z⟩ := κ
  intro H locs cells slots ls hH hc hs hL
  have hin := lal_in L 0 i _ hl
  rw [Nat.zero_add] at hin
  obtain ⟨k0, hk0⟩ := List.getElem?_of_mem hin
  exact lv_iinc hΓ.exec hΓ.code hd hL hk0 hv (by rw [hΓ.maxL]; exact hn) rfl (fun ls1 h1 => k H locs cells slots ls1 hH hc hs (LR.stored (v := .inl v) h1))
/-- the end of a method -/
theorem aw_ireturn (hΓ : Ok G κ M d Q X) {x : Int32} {ty : FieldType} (hd : decode (mB M) pc = .ok (.ireturn, 1)) (hr : mR M = some ty) (hn : narrow ty (.int x) = .int x) (hq : Q (some (.int x)) σ) : AW G κ cs ss pc L [.int x] σ := by
  obtain ⟨p, l, e, R, s, m, args, below, meth, c, Z⟩ := κ
  intro H locs cells slots ls hH hc hs hL
  exact hΓ.2.2.2.1 _ _ _ _ _ _ _ _ hq hH (by omega) (by omega) (Or.inl ⟨x, ty, rfl, hd, hr, hn⟩)
theorem aw_vreturn (hΓ : Ok G κ M d Q X) (hd : decode (mB M) pc = .ok (.return_, 1)) (hr : mR M = none) (hq : Q none σ) : AW G κ cs ss pc L [] σ := by
  obtain ⟨p, l, e, R, s, m, args, below, meth, c, Z⟩ := κ
  intro H locs cells slots ls hH hc hs hL
  exact hΓ.2.2.2.1 _ _ _ _ _ _ _ _ hq hH (by omega) (by omega) (Or.inr (Or.inl ⟨rfl, hd, hr⟩))
theorem aw_areturn (hΓ : Ok G κ M d Q X) {r : Option Nat} {ty : FieldType} (hd : decode (mB M) pc = .ok (.areturn, 1)) (hr : mR M = some ty) (ho : (∃ n, ty = .object n) ∨ ∃ t, ty = .array t) (hq : Q (some (va_rf r)) σ) : AW G κ cs ss pc L [va_rf r] σ := by
  obtain ⟨p, l, e, R, s, m, args, below, meth, c, Z⟩ := κ
  intro H locs cells slots ls hH hc hs hL
  exact hΓ.2.2.2.1 _ _ _ _ _ _ _ _ hq hH (by omega) (by omega) (Or.inr (Or.inr (Or.inl ⟨r, ty, rfl, hd, hr, ho⟩)))
end FrameRules
