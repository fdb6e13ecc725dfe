/-! the text read: tokens -/
/-- from p on the text is l, to its end -/
def sfx (b : Nat → Int32) (L p : Nat) (l : List Nat) : Prop := p + l.length = L ∧ ∀ j, j < l.length → b (p + j) = nI (gl l j)
theorem gl_0 {c : Nat} {l : List Nat} : gl (c :: l) 0 = c := rfl
theorem gl_s {c j : Nat} {l : List Nat} : gl (c :: l) (j + 1) = gl l j := by
  unfold gl
  rw [List.getD_cons_succ]
theorem sfx.tl {b : Nat → Int32} {L p c : Nat} {l : List Nat} (h : sfx b L p (c :: l)) : p < L ∧ b p = nI c ∧ sfx b L (p + 1) l := by
  obtain ⟨h1, h2⟩ := h
  rw [List.length_cons] at h1
  refine ⟨by omega, ?_, by omega, fun j hj => ?_⟩
  · have := h2 0 (by rw [List.length_cons]; omega)
    rw [Nat.add_zero, gl_0] at this
    exact this
  · have := h2 (j + 1) (by rw [List.length_cons]; omega)
    rw [gl_s, show p + (j + 1) = p + 1 + j by omega] at this
    exact this
theorem sfx.drop {b : Nat → Int32} {L : Nat} : ∀ {w : List Nat} {p : Nat} {l : List Nat}, sfx b L p (w ++ l) → sfx b L (p + w.length) l
  | [], p, l, h => h
  | c :: w, p, l, h => by
    have h1 := sfx.drop (w := w) (p := p + 1) (l := l) h.tl.2.2
    rw [List.length_cons, show p + (w.length + 1) = p + 1 + w.length by omega]
    exact h1
theorem sfx.in_ {b : Nat → Int32} {L : Nat} : ∀ {w : List Nat} {p : Nat} {l : List Nat}, sfx b L p (w ++ l) → ∀ j, j < w.length → b (p + j) = nI (gl w j)
  | [], p, l, h, j, hj => absurd hj (Nat.not_lt_zero j)
  | c :: w, p, l, h, 0, _ => h.tl.2.1
  | c :: w, p, l, h, j + 1, hj => by
    have h1 := sfx.in_ (w := w) (p := p + 1) (l := l) h.tl.2.2 j (by rw [List.length_cons] at hj; omega)
    rw [gl_s, ← h1, show p + (j + 1) = p + 1 + j by omega]
/-- a run of letters of one kind, and what is behind it is of another -/
def stopL (q : Int32 → Bool) (r : List Nat) : Prop := match r with
  | [] => True
  | c :: _ => q (nI c) = false
theorem wh_run {q : Int32 → Bool} (hq : q (-1) = false) {b : Nat → Int32} {L : Nat} : ∀ {w : List Nat} {p : Nat} {r : List Nat} {f : Nat}, sfx b L p (w ++ r) → w.length < f → (∀ c, c ∈ w → q (nI c) = true) → stopL q r → wh q b L f p = p + w.length
  | [], p, [], f, h, hf, _, _ => wh_f (by
      have := h.1
      unfold bAt
      rw [if_neg (by show ¬ p < L; have h9 : p + 0 = L := this; omega)]
      exact hq)
  | [], p, c :: r, f, h, hf, _, hr => wh_f (by
      unfold bAt
      rw [if_pos h.tl.1, h.tl.2.1]
      exact hr)
  | c :: w, p, r, f, h, hf, hw, hr => by
    obtain ⟨f, rfl⟩ : ∃ g, f = g + 1 := ⟨f - 1, by omega⟩
    have h1 : sfx b L p (c :: (w ++ r)) := h
    rw [wh_t (by unfold bAt; rw [if_pos h1.tl.1, h1.tl.2.1]; exact hw c List.mem_cons_self), wh_run hq (w := w) h1.tl.2.2 (by rw [List.length_cons] at hf; omega) (fun c hc => hw c (List.mem_cons_of_mem _ hc)) hr, List.length_cons]
    omega
def Tk (b : Nat → Int32) (L a p : Nat) : Pt := (tS b L p, tE b L p, tK b L p, 0, a)
/-- blanks, then a letter that is no blank -/
theorem tk_S {b : Nat → Int32} {L p : Nat} {pre r : List Nat} (h : sfx b L p (pre ++ r)) (hp : ∀ c, c ∈ pre → c = 32) (hl : pre.length < 500) (hr : stopL isSep r) : tS b L p = p + pre.length := wh_run (by decide) h hl (fun c hc => by rw [hp c hc]; decide) hr
theorem tk_word {b : Nat → Int32} {L a p : Nat} {pre w r : List Nat} {c0 : Nat} {w0 : List Nat} (h : sfx b L p (pre ++ (w ++ r))) (hp : ∀ c, c ∈ pre → c = 32) (hl : pre.length < 500) (hw0 : w = c0 :: w0) (hw : ∀ c, c ∈ w → isLet (nI c) = true ∧ isSep (nI c) = false) (hwl : w.length < 500) (hr : stopL isLet r) : Tk b L a p = (p + pre.length, p + pre.length + w.length, 1, 0, a) := by
  subst hw0
  have e1 := tk_S h hp hl (show stopL isSep (c0 :: w0 ++ r) from (hw c0 List.mem_cons_self).2)
  have h2 := h.drop
  obtain ⟨g1, g2, -⟩ := sfx.tl (c := c0) (l := w0 ++ r) h2
  have e2 : bAt b L (p + pre.length) = nI c0 := by unfold bAt; rw [if_pos g1, g2]
  have e3 : isLet (bAt b L (tS b L p)) = true := by rw [e1, e2]; exact (hw c0 List.mem_cons_self).1
  have e4 : tE b L p = p + pre.length + (c0 :: w0).length := by
    unfold tE
    rw [e1] at e3 ⊢
    rw [if_neg (by omega), if_pos e3]
    exact wh_run (by decide) h2 hwl (fun c hc => (hw c hc).1) hr
  have e5 : tK b L p = 1 := by
    unfold tK
    rw [e1] at e3 ⊢
    rw [if_neg (by omega), if_pos e3]
  unfold Tk
  rw [e1, e4, e5]
theorem tk_num {b : Nat → Int32} {L a p : Nat} {pre w r : List Nat} {c0 : Nat} {w0 : List Nat} (h : sfx b L p (pre ++ (w ++ r))) (hp : ∀ c, c ∈ pre → c = 32) (hl : pre.length < 500) (hw0 : w = c0 :: w0) (hw : ∀ c, c ∈ w → isDig (nI c) = true ∧ isSep (nI c) = false ∧ isLet (nI c) = false) (hwl : w.length < 500) (hr : stopL isDig r) : Tk b L a p = (p + pre.length, p + pre.length + w.length, 2, 0, a) := by
  subst hw0
  have e1 := tk_S h hp hl (show stopL isSep (c0 :: w0 ++ r) from (hw c0 List.mem_cons_self).2.1)
  have h2 := h.drop
  obtain ⟨g1, g2, -⟩ := sfx.tl (c := c0) (l := w0 ++ r) h2
  have e2 : bAt b L (p + pre.length) = nI c0 := by unfold bAt; rw [if_pos g1, g2]
  have e3 : isDig (bAt b L (tS b L p)) = true := by rw [e1, e2]; exact (hw c0 List.mem_cons_self).1
  have e6 : ¬ isLet (bAt b L (tS b L p)) = true := by rw [e1, e2, (hw c0 List.mem_cons_self).2.2]; decide
  have e4 : tE b L p = p + pre.length + (c0 :: w0).length := by
    unfold tE
    rw [e1] at e3 e6 ⊢
    rw [if_neg (by omega), if_neg e6, if_pos e3]
    exact wh_run (by decide) h2 hwl (fun c hc => (hw c hc).1) hr
  have e5 : tK b L p = 2 := by
    unfold tK
    rw [e1] at e3 e6 ⊢
    rw [if_neg (by omega), if_neg e6, if_pos e3]
  unfold Tk
  rw [e1, e4, e5]
theorem tk_sym {b : Nat → Int32} {L a p : Nat} {r : List Nat} (h : sfx b L p (59 :: r)) : Tk b L a p = (p, p + 1, 3, 0, a) := by
  have e1 : tS b L p = p := tk_S (pre := []) h (fun c hc => by cases hc) (by decide) (show isSep (nI 59) = false by decide)
  have e2 : bAt b L p = nI 59 := by unfold bAt; rw [if_pos h.tl.1, h.tl.2.1]
  have hlt := h.tl.1
  unfold Tk tE tK
  rw [e1, e2, if_neg (by omega), if_neg (by decide), if_neg (by decide), if_neg (by omega), if_neg (by decide), if_neg (by decide)]
theorem tk_end {b : Nat → Int32} {L a p : Nat} (h : sfx b L p []) : pK (Tk b L a p) = 0 := by
  have e1 : tS b L p = p := tk_S (pre := []) h (fun c hc => by cases hc) (by decide) trivial
  have e2 : p = L := h.1
  show tK b L p = 0
  unfold tK
  rw [e1, if_pos (by omega)]
theorem pGo_tk {b : Nat → Int32} {L s e k a : Nat} : pGo b L (s, e, k, 0, a) = Tk b L a e := pGo_0 (P := (s, e, k, 0, a)) rfl
theorem pCk_t {x : Nat} {P : Pt} {c : Bool} (h : c = true) : pCk c x P = P := pCk_id (Or.inl h)
/-- digits -/
def Dg (k : Nat) : List Nat := (List.range (dgN k)).map (dgC k)
theorem Dg_len (k : Nat) : (Dg k).length = dgN k := by unfold Dg; rw [List.length_map, List.length_range]
theorem gl_map {f : Nat → Nat} {n j : Nat} (h : j < n) : gl ((List.range n).map f) j = f j := by
  unfold gl
  rw [List.getD_eq_getElem?_getD, List.getElem?_map, List.getElem?_range h]
  rfl
theorem Dg_gl {k j : Nat} (h : j < dgN k) : gl (Dg k) j = dgC k j := gl_map h
theorem dgC_d {k i : Nat} (hk : k < 1000) : 48 ≤ dgC k i ∧ dgC k i ≤ 57 := by
  unfold dgC
  repeat' split
  all_goals omega
theorem Dg_cons (k : Nat) : Dg k = dgC k 0 :: (List.range (dgN k - 1)).map (fun i => dgC k (i + 1)) := by
  have h := dgN_b k
  obtain ⟨m, hm⟩ : ∃ m, dgN k = m + 1 := ⟨dgN k - 1, by omega⟩
  unfold Dg
  rw [hm, List.range_succ_eq_map, List.map_cons, List.map_map]
  rfl
theorem dig_f : ∀ c : Fin 128, (48 ≤ c.1 → c.1 ≤ 57 → isDig (nI c.1) = true ∧ isSep (nI c.1) = false ∧ isLet (nI c.1) = false ∧ dg (nI c.1) = c.1 - 48) := by decide +kernel
theorem Dg_all {k : Nat} (hk : k < 1000) : ∀ c, c ∈ Dg k → isDig (nI c) = true ∧ isSep (nI c) = false ∧ isLet (nI c) = false := fun c hc => by
  obtain ⟨i, -, rfl⟩ := List.mem_map.mp hc
  obtain ⟨h1, h2⟩ := dgC_d (i := i) hk
  obtain ⟨a, b, c, -⟩ := dig_f ⟨dgC k i, by omega⟩ h1 h2
  exact ⟨a, b, c⟩
theorem Dg_val {b : Nat → Int32} {s k : Nat} (hk : k < 1000) (h : ∀ j, j < dgN k → b (s + j) = nI (gl (Dg k) j)) : rV b s (dgN k) = k := by
  have hd : ∀ j, j < dgN k → dg (b (s + j)) = dgC k j - 48 := fun j hj => by
    rw [h j hj, Dg_gl hj]
    obtain ⟨h1, h2⟩ := dgC_d (i := j) hk
    exact (dig_f ⟨dgC k j, by omega⟩ h1 h2).2.2.2
  have st : ∀ m, rV b s m ≤ 9999999 → rV b s (m + 1) = 10 * rV b s m + dg (b (s + m)) := fun m hm => by
    show (if 9999999 < rV b s m then rV b s m else 10 * rV b s m + dg (b (s + m))) = _
    rw [if_neg (by omega)]
  have z : rV b s 0 = 0 := rfl
  by_cases c1 : k < 10
  · have e : dgN k = 1 := by unfold dgN; rw [if_pos c1]
    rw [e] at hd ⊢
    rw [st 0 (by rw [z]; omega), z, hd 0 (by decide)]
    unfold dgC
    rw [if_pos c1]
    omega
  by_cases c2 : k < 100
  · have e : dgN k = 2 := by unfold dgN; rw [if_neg c1, if_pos c2]
    rw [e] at hd ⊢
    have e1 : rV b s 1 = k / 10 := by
      rw [st 0 (by rw [z]; omega), z, hd 0 (by decide)]
      unfold dgC
      rw [if_neg c1, if_pos c2, if_pos rfl]
      omega
    rw [st 1 (by rw [e1]; omega), e1, hd 1 (by decide)]
    unfold dgC
    rw [if_neg c1, if_pos c2, if_neg (by decide)]
    omega
  · have e : dgN k = 3 := by unfold dgN; rw [if_neg c1, if_neg c2]
    rw [e] at hd ⊢
    have e1 : rV b s 1 = k / 100 := by
      rw [st 0 (by rw [z]; omega), z, hd 0 (by decide)]
      unfold dgC
      rw [if_neg c1, if_neg c2, if_pos rfl]
      omega
    have e2 : rV b s 2 = k / 10 := by
      rw [st 1 (by rw [e1]; omega), e1, hd 1 (by decide)]
      unfold dgC
      rw [if_neg c1, if_neg c2, if_neg (by decide), if_pos rfl]
      omega
    rw [st 2 (by rw [e2]; omega), e2, hd 2 (by decide)]
    unfold dgC
    rw [if_neg c1, if_neg c2, if_neg (by decide), if_neg (by decide)]
    omega
/-- a number read -/
theorem rd_num {b : Nat → Int32} {L a p lo hi k : Nat} {pre r : List Nat} (h : sfx b L p (pre ++ (Dg k ++ r))) (hp : ∀ c, c ∈ pre → c = 32) (hl : pre.length < 500) (hk : k < 1000) (h1 : lo ≤ k) (h2 : k ≤ hi) (hr : stopL isDig r) : pLook b lo hi (Tk b L a p) = Tk b L a p ∧ pVl b lo hi (Tk b L a p) = k ∧ pRead b L lo hi (Tk b L a p) = Tk b L a (p + pre.length + dgN k) ∧ sfx b L (p + pre.length + dgN k) r := by
  have hb := dgN_b k
  have e := tk_num (a := a) h hp hl (Dg_cons k) (Dg_all hk) (by rw [Dg_len]; omega) hr
  rw [Dg_len] at e
  have h3 := h.drop.drop
  rw [Dg_len] at h3
  have ev : pVal b (Tk b L a p) = k := by
    rw [e]
    show (if (2 : Nat) = 2 then rV b (p + pre.length) (p + pre.length + dgN k - (p + pre.length)) else 0) = k
    rw [if_pos rfl, Nat.add_sub_cancel_left]
    exact Dg_val hk (fun j hj => h.drop.in_ j (by rw [Dg_len]; exact hj))
  have eK : pK (Tk b L a p) = 2 := by rw [e]; rfl
  have el : pLook b lo hi (Tk b L a p) = Tk b L a p := by
    unfold pLook
    rw [pCk_t (c := pK (Tk b L a p) == 2) (by rw [eK]; rfl), ev, pCk_t (decide_eq_true ⟨h1, h2⟩)]
  refine ⟨el, ?_, ?_, h3⟩
  · unfold pVl
    rw [el, if_pos (show pR (Tk b L a p) = 0 from rfl), ev]
  · unfold pRead
    rw [el, e]
    exact pGo_tk
theorem ex_semi {b : Nat → Int32} {L a p : Nat} {r : List Nat} (h : sfx b L p (59 :: r)) : pExp b L 59 (Tk b L a p) = Tk b L a (p + 1) ∧ sfx b L (p + 1) r := by
  refine ⟨?_, h.tl.2.2⟩
  unfold pExp
  have e := tk_sym (a := a) h
  rw [pCk_t (c := pSym b (Tk b L a p) 59) ?_, e]
  · exact pGo_tk
  · rw [e]
    show (true && ((3 : Nat) == 3 && b p == 59)) = true
    rw [h.tl.2.1]
    rfl
theorem wEq_t {b : Nat → Int32} {s t : Nat} : ∀ {m : Nat}, (∀ j, j < m → (txB t).getD j 0 = b (s + j)) → wEq b s t m = true
  | 0, _ => rfl
  | m + 1, h => by
    show (wEq b s t m && ((txB t).getD m 0 == b (s + m))) = true
    rw [wEq_t (fun j hj => h j (by omega)), h m (Nat.lt_succ_self m), beq_self_eq_true]
    rfl
theorem let_f : ∀ c : Fin 128, (97 ≤ c.1 → c.1 ≤ 122 → isLet (nI c.1) = true ∧ isSep (nI c.1) = false) := by decide +kernel
def Lt (w : List Nat) : Prop := ∀ c, c ∈ w → 97 ≤ c ∧ c ≤ 122
/-- a word read -/
theorem rd_word {b : Nat → Int32} {L a p t : Nat} {w r : List Nat} {c0 : Nat} {w0 : List Nat} (h : sfx b L p (w ++ r)) (hw0 : w = c0 :: w0) (hw : Lt w) (hl : w.length < 20) (hr : stopL isLet r) : pWrd b (Tk b L a p) t = (decide ((txB t).length = w.length) && wEq b p t (txB t).length) ∧ pGo b L (Tk b L a p) = Tk b L a (p + w.length) ∧ sfx b L (p + w.length) r ∧ pR (Tk b L a p) = 0 := by
  have e := tk_word (a := a) (pre := []) h (fun c hc => by cases hc) (by decide) hw0 (fun c hc => by obtain ⟨q1, q2⟩ := hw c hc; exact let_f ⟨c, by omega⟩ q1 q2) (by omega) hr
  refine ⟨?_, ?_, h.drop, rfl⟩
  · rw [e]
    show (true && (true && ((txB t).length == p + 0 + w.length - (p + 0))) && wEq b (p + 0) t (txB t).length) = _
    rw [Nat.add_zero, Nat.add_sub_cancel_left]
    rfl
  · rw [e]
    exact pGo_tk
