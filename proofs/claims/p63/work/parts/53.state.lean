/-! the class whole: its state -/
/-- an object of class i stands at a -/
def OB (σ : Hp) (a i : Nat) : Prop := ∃ vs, σ a = some (.inr (i, vs))
theorem OB.ne {σ : Hp} {a b i j : Nat} (h1 : OB σ a i) (h2 : OB σ b j) (h : i ≠ j) : a ≠ b := by
  obtain ⟨v1, e1⟩ := h1
  obtain ⟨v2, e2⟩ := h2
  exact obj_ne e1 e2 h
theorem RY.ob {G : Gl} {σ : Hp} {c : Nat → Nat} {a n : Nat} {C : Ct} (h : RY G σ c a n C) : OB σ a 6 := by
  obtain ⟨t, q, o⟩ := h.o
  exact ⟨_, o⟩
/-- the history: its object, what it holds -/
def HH (G : Gl) (σ : Hp) (c A : Nat → Nat) (am : Nat) (Nh : Nat → Nat) (Ch : Nat → Ct) (u : Int32) : Prop :=
  ∃ ra, HG G σ c (A 4) ra u ∧ (∀ i, i < 8 → RY G σ c (ra i) (Nh i) (Ch i) ∧ ra i ≠ A 0 ∧ ra i ≠ A 1 ∧ ra i ≠ A 2 ∧ ra i ≠ am) ∧ ∀ i j, i < 8 → j < 8 → ra i = ra j → i = j
def TD (G : Gl) (σ : Hp) (c : Nat → Nat) (x : Nat) (A : Nat → Nat) (am n : Nat) (C : Ct) (n2 : Nat) (C2 : Ct) (Nh : Nat → Nat) (Ch : Nat → Ct) (u : Int32) (b : Nat → Int32) (l cd og hs : Int32) (out : Nat → Int32) (ol : Int32) : Prop :=
  (σ x = some (.inr (10, tdV A hs ol)) ∧ c x = x ∧ σ (A 8) = some (eI G 24 out) ∧ c (A 8) = x) ∧
  (RY G σ c (A 0) n C ∧ (∃ n1 C1, RY G σ c (A 1) n1 C1) ∧ RY G σ c (A 2) n2 C2) ∧
  HH G σ c A am Nh Ch u ∧ (IG G σ c (A 5) l b ∧ ∃ tk cc, PZ G σ c (A 6) tk (A 5) b cd og cc) ∧
  (∃ ex, σ (A 7) = some (.inr (7, [.ref (A 0), .int ex])) ∧ c (A 7) = A 7) ∧
  (A 0 ≠ A 1 ∧ A 0 ≠ A 2 ∧ A 1 ≠ A 2) ∧ (x ≠ am ∧ ∀ i, i < 8 → A i ≠ am)
def hNn (n : Nat) (Nh : Nat → Nat) : Nat → Nat := fun i => if i = 0 then n else Nh (i - 1)
def hCc (C : Ct) (Ch : Nat → Ct) : Nat → Ct := fun i => if i = 0 then cCpy (Ch 7) C else Ch (i - 1)
def bNn (Nh : Nat → Nat) : Nat → Nat := fun i => if i = 7 then Nh 0 else Nh (i + 1)
def bCc (Ch : Nat → Ct) : Nat → Ct := fun i => if i = 7 then Ch 0 else Ch (i + 1)
section ClassState
variable {G : Gl} {κ : Kx} {d : Nat} {Q : Option Value → Hp → Prop} {X : String → Hp → Prop} {cs ss pc : Nat} {M : List (Option LV)} {st : List Value} {σ σ1 : Hp} {c c1 A : Nat → Nat} {x am n n' n2 n2' : Nat} {C C' C2 C2' : Ct} {Nh Nh' : Nat → Nat} {Ch Ch' : Nat → Ct} {u u' l l' cd cd' og og' hs hs' ol ol' : Int32} {b b' out out' : Nat → Int32} {W : Nat → Prop}
abbrev NA (am : Nat) : Nat → Prop := fun y => y ≠ am
theorem TD.o (h : TD G σ c x A am n C n2 C2 Nh Ch u b l cd og hs out ol) : σ x = some (.inr (10, tdV A hs ol)) := h.1.1
theorem TD.m (h : TD G σ c x A am n C n2 C2 Nh Ch u b l cd og hs out ol) : RY G σ c (A 0) n C := h.2.1.1
theorem TD.ob (h : TD G σ c x A am n C n2 C2 Nh Ch u b l cd og hs out ol) : OB σ x 10 ∧ OB σ (A 0) 6 ∧ OB σ (A 1) 6 ∧ OB σ (A 2) 6 ∧ OB σ (A 4) 2 ∧ OB σ (A 5) 3 ∧ OB σ (A 6) 5 ∧ OB σ (A 7) 7 := by
  obtain ⟨⟨h1, -⟩, ⟨h2, ⟨_, _, h3⟩, h4⟩, ⟨_, ⟨_, h5, -⟩, -⟩, ⟨⟨_, h6, -⟩, _, _, h7⟩, ⟨_, h8, -⟩, -⟩ := h
  exact ⟨⟨_, h1⟩, h2.ob, h3.ob, h4.ob, ⟨_, h5⟩, ⟨_, h6⟩, ⟨_, h7.1.1⟩, ⟨_, h8⟩⟩
theorem TD.up (h : TD G σ c x A am n C n2 C2 Nh Ch u b l cd og hs out ol) (f : KF W σ c σ1 c1) (hx : ¬ W x) (h0 : RY G σ1 c1 (A 0) n' C') (h1 : ∃ n1 C1, RY G σ1 c1 (A 1) n1 C1) (h2 : RY G σ1 c1 (A 2) n2' C2') (hh : HH G σ1 c1 A am Nh' Ch' u') (hi : IG G σ1 c1 (A 5) l' b' ∧ ∃ tk cc, PZ G σ1 c1 (A 6) tk (A 5) b' cd' og' cc) (hr : ∃ ex, σ1 (A 7) = some (.inr (7, [.ref (A 0), .int ex])) ∧ c1 (A 7) = A 7) : TD G σ1 c1 x A am n' C' n2' C2' Nh' Ch' u' b' l' cd' og' hs out ol := by
  obtain ⟨⟨a1, a2, a3, a4⟩, -, -, -, -, a5, a6⟩ := h
  obtain ⟨b1, b2, -⟩ := f x _ a1
  obtain ⟨b3, b4, -⟩ := f (A 8) _ a3
  exact ⟨⟨b2 (by rw [a2]; exact hx), b1.trans a2, b4 (by rw [a4]; exact hx), b3.trans a4⟩, ⟨h0, h1, h2⟩, hh, hi, hr, a5, a6⟩
theorem TD.k1 (h : TD G σ c x A am n C n2 C2 Nh Ch u b l cd og hs out ol) (f : KF W σ c σ1 c1) (hw : ¬ W (A 1)) : ∃ n1 C1, RY G σ1 c1 (A 1) n1 C1 := by
  obtain ⟨n1, C1, h1⟩ := h.2.1.2.1
  exact ⟨n1, C1, h1.keep f hw⟩
theorem TD.kh (h : TD G σ c x A am n C n2 C2 Nh Ch u b l cd og hs out ol) (f : KF W σ c σ1 c1) (h4 : ¬ W (A 4)) (hr : ∀ y, OB σ y 6 → y ≠ A 0 → y ≠ A 1 → y ≠ A 2 → ¬ W y) : HH G σ1 c1 A am Nh Ch u := by
  obtain ⟨ra, a1, a2, a3⟩ := h.2.2.1
  exact ⟨ra, a1.keep f h4, fun i hi => ⟨(a2 i hi).1.keep f (hr _ (a2 i hi).1.ob (a2 i hi).2.1 (a2 i hi).2.2.1 (a2 i hi).2.2.2.1), (a2 i hi).2⟩, a3⟩
theorem TD.ki (h : TD G σ c x A am n C n2 C2 Nh Ch u b l cd og hs out ol) (f : KF W σ c σ1 c1) (h5 : ¬ W (A 5)) (h6 : ¬ W (A 6)) : IG G σ1 c1 (A 5) l b ∧ ∃ tk cc, PZ G σ1 c1 (A 6) tk (A 5) b cd og cc := by
  obtain ⟨a1, tk, cc, a2⟩ := h.2.2.2.1
  exact ⟨a1.keep f h5, tk, cc, a2.keep f h6 h5⟩
theorem TD.kr (h : TD G σ c x A am n C n2 C2 Nh Ch u b l cd og hs out ol) (f : KF W σ c σ1 c1) (h7 : ¬ W (A 7)) : ∃ ex, σ1 (A 7) = some (.inr (7, [.ref (A 0), .int ex])) ∧ c1 (A 7) = A 7 := by
  obtain ⟨ex, a1, a2⟩ := h.2.2.2.2.1
  obtain ⟨b1, b2, -⟩ := f _ _ a1
  exact ⟨ex, b2 (by rw [a2]; exact h7), b1.trans a2⟩
theorem TD.ea (h : TD G σ c x A am n C n2 C2 Nh Ch u b l cd og hs out ol) {i : Nat} (hi : i < 8) (f : KF (fun y => y = A i) σ c σ1 c1) : KF (NA am) σ c σ1 c1 := f.mo (fun y e => by rw [e]; exact h.2.2.2.2.2.2.2 i hi)
theorem TD.setMain (h : TD G σ c x A am n C n2 C2 Nh Ch u b l cd og hs out ol) (f : KF (fun y => y = A 0) σ c σ1 c1) (h0 : RY G σ1 c1 (A 0) n' C') : TD G σ1 c1 x A am n' C' n2 C2 Nh Ch u b l cd og hs out ol := by
  obtain ⟨o, o0, o1, o2, o4, o5, o6, o7⟩ := h.ob
  obtain ⟨d1, d2, d3⟩ := h.2.2.2.2.2.1
  exact h.up f (o.ne o0 (by decide)) h0 (h.k1 f (Ne.symm d1)) (h.2.1.2.2.keep f (Ne.symm d2)) (h.kh f (o4.ne o0 (by decide)) (fun y _ e _ _ => e)) (h.ki f (o5.ne o0 (by decide)) (o6.ne o0 (by decide))) (h.kr f (o7.ne o0 (by decide)))
theorem TD.setScr (h : TD G σ c x A am n C n2 C2 Nh Ch u b l cd og hs out ol) (f : KF (fun y => y = A 1) σ c σ1 c1) (h1 : ∃ n1 C1, RY G σ1 c1 (A 1) n1 C1) : TD G σ1 c1 x A am n C n2 C2 Nh Ch u b l cd og hs out ol := by
  obtain ⟨o, o0, o1, o2, o4, o5, o6, o7⟩ := h.ob
  obtain ⟨d1, d2, d3⟩ := h.2.2.2.2.2.1
  exact h.up f (o.ne o1 (by decide)) (h.m.keep f d1) h1 (h.2.1.2.2.keep f (Ne.symm d3)) (h.kh f (o4.ne o1 (by decide)) (fun y _ _ e _ => e)) (h.ki f (o5.ne o1 (by decide)) (o6.ne o1 (by decide))) (h.kr f (o7.ne o1 (by decide)))
theorem TD.setSnap (h : TD G σ c x A am n C n2 C2 Nh Ch u b l cd og hs out ol) (f : KF (fun y => y = A 2) σ c σ1 c1) (h2 : RY G σ1 c1 (A 2) n2' C2') : TD G σ1 c1 x A am n C n2' C2' Nh Ch u b l cd og hs out ol := by
  obtain ⟨o, o0, o1, o2, o4, o5, o6, o7⟩ := h.ob
  obtain ⟨d1, d2, d3⟩ := h.2.2.2.2.2.1
  exact h.up f (o.ne o2 (by decide)) (h.m.keep f d2) (h.k1 f d3) h2 (h.kh f (o4.ne o2 (by decide)) (fun y _ _ _ e => e)) (h.ki f (o5.ne o2 (by decide)) (o6.ne o2 (by decide))) (h.kr f (o7.ne o2 (by decide)))
theorem TD.setIn (h : TD G σ c x A am n C n2 C2 Nh Ch u b l cd og hs out ol) (f : KF (fun y => y = A 5) σ c σ1 c1) (hi : IG G σ1 c1 (A 5) l' b') : TD G σ1 c1 x A am n C n2 C2 Nh Ch u b' l' cd og hs out ol := by
  obtain ⟨o, o0, o1, o2, o4, o5, o6, o7⟩ := h.ob
  refine h.up f (o.ne o5 (by decide)) (h.m.keep f (o0.ne o5 (by decide))) (h.k1 f (o1.ne o5 (by decide))) (h.2.1.2.2.keep f (o2.ne o5 (by decide))) (h.kh f (o4.ne o5 (by decide)) (fun y e _ _ _ => e.ne o5 (by decide))) ⟨hi, ?_⟩ (h.kr f (o7.ne o5 (by decide)))
  obtain ⟨-, tk, cc, ⟨g1, ⟨l9, k9, s9, e9, w9, g2⟩, -⟩, g3, g4⟩ := h.2.2.2.1
  obtain ⟨v, i1, i2, i3, i4⟩ := hi
  have hw : ¬ A 6 = A 5 := o6.ne o5 (by decide)
  obtain ⟨a1, a2, -⟩ := f _ _ g1
  obtain ⟨a3, a4, -⟩ := f _ _ g2
  exact ⟨tk, cc, ⟨a2 (by rw [g3]; exact hw), ⟨l9, k9, s9, e9, w9, a4 (by rw [g4]; exact hw)⟩, v, l', ⟨i1, i2⟩, i3, i4⟩, a1.trans g3, a3.trans g4⟩
theorem TD.setLd (h : TD G σ c x A am n C n2 C2 Nh Ch u b l cd og hs out ol) (f : KF (WA (A 6) (A 1)) σ c σ1 c1) {tk : Nat} {cc : Int32} (hp : PZ G σ1 c1 (A 6) tk (A 5) b cd' og' cc) (h1 : ∃ n1 C1, RY G σ1 c1 (A 1) n1 C1) : TD G σ1 c1 x A am n C n2 C2 Nh Ch u b l cd' og' hs out ol := by
  obtain ⟨o, o0, o1, o2, o4, o5, o6, o7⟩ := h.ob
  obtain ⟨d1, d2, d3⟩ := h.2.2.2.2.2.1
  have two : ∀ {y}, y ≠ A 6 → y ≠ A 1 → ¬ WA (A 6) (A 1) y := fun e1 e2 e => e.elim e1 e2
  exact h.up f (two (o.ne o6 (by decide)) (o.ne o1 (by decide))) (h.m.keep f (two (o0.ne o6 (by decide)) d1)) h1 (h.2.1.2.2.keep f (two (o2.ne o6 (by decide)) (Ne.symm d3))) (h.kh f (two (o4.ne o6 (by decide)) (o4.ne o1 (by decide))) (fun y e _ e1 _ => two (e.ne o6 (by decide)) e1)) ⟨h.2.2.2.1.1.keep f (two (o5.ne o6 (by decide)) (o5.ne o1 (by decide))), tk, cc, hp⟩ (h.kr f (two (o7.ne o6 (by decide)) (o7.ne o1 (by decide))))
theorem TD.setO (h : TD G σ c x A am n C n2 C2 Nh Ch u b l cd og hs out ol) (hs' ol' : Int32) : TD G (hset σ x (.inr (10, tdV A hs' ol'))) c x A am n C n2 C2 Nh Ch u b l cd og hs' out ol' ∧ KF (fun y => y = x) σ c (hset σ x (.inr (10, tdV A hs' ol'))) c := by
  have f : KF (fun y => y = x) σ c (hset σ x (.inr (10, tdV A hs' ol'))) c := KF.set h.o h.1.2.1
  obtain ⟨o, o0, o1, o2, o4, o5, o6, o7⟩ := h.ob
  refine ⟨⟨⟨hset_same _ _ _, h.1.2.1, ?_, h.1.2.2.2⟩, ⟨h.m.keep f (o0.ne o (by decide)), h.k1 f (o1.ne o (by decide)), h.2.1.2.2.keep f (o2.ne o (by decide))⟩, h.kh f (o4.ne o (by decide)) (fun y e _ _ _ => e.ne o (by decide)), h.ki f (o5.ne o (by decide)) (o6.ne o (by decide)), h.kr f (o7.ne o (by decide)), h.2.2.2.2.2⟩, f⟩
  rw [hset_ne (Ne.symm (oa_ne h.o h.1.2.2.1))]
  exact h.1.2.2.1
theorem TD.setOut (h : TD G σ c x A am n C n2 C2 Nh Ch u b l cd og hs out ol) (out' : Nat → Int32) : TD G (hset σ (A 8) (eI G 24 out')) c x A am n C n2 C2 Nh Ch u b l cd og hs out' ol ∧ KF (fun y => y = x) σ c (hset σ (A 8) (eI G 24 out')) c := by
  have f : KF (fun y => y = x) σ c (hset σ (A 8) (eI G 24 out')) c := KF.set h.1.2.2.1 h.1.2.2.2
  obtain ⟨o, o0, o1, o2, o4, o5, o6, o7⟩ := h.ob
  refine ⟨⟨⟨?_, h.1.2.1, hset_same _ _ _, h.1.2.2.2⟩, ⟨h.m.keep f (o0.ne o (by decide)), h.k1 f (o1.ne o (by decide)), h.2.1.2.2.keep f (o2.ne o (by decide))⟩, h.kh f (o4.ne o (by decide)) (fun y e _ _ _ => e.ne o (by decide)), h.ki f (o5.ne o (by decide)) (o6.ne o (by decide)), h.kr f (o7.ne o (by decide)), h.2.2.2.2.2⟩, f⟩
  rw [hset_ne (oa_ne h.o h.1.2.2.1)]
  exact h.o
theorem TD.ex (h : TD G σ c x A am n C n2 C2 Nh Ch u b l cd og hs out ol) (f : KF (fun y => y = x) σ c σ1 c1) : KF (NA am) σ c σ1 c1 := f.mo (fun y e => by rw [e]; exact h.2.2.2.2.2.2.1)
/-- foreign cells changed alone -/
theorem TD.keep (h : TD G σ c x A am n C n2 C2 Nh Ch u b l cd og hs out ol) (f : KF (fun y => y = am) σ c σ1 c1) : TD G σ1 c1 x A am n C n2 C2 Nh Ch u b l cd og hs out ol := by
  obtain ⟨e1, e2⟩ := h.2.2.2.2.2.2
  obtain ⟨ra, a1, a2, a3⟩ := h.2.2.1
  exact h.up f e1 (h.m.keep f (e2 0 (by decide))) (h.k1 f (e2 1 (by decide))) (h.2.1.2.2.keep f (e2 2 (by decide))) ⟨ra, a1.keep f (e2 4 (by decide)), fun i hi => ⟨(a2 i hi).1.keep f (a2 i hi).2.2.2.2, (a2 i hi).2⟩, a3⟩ (h.ki f (e2 5 (by decide)) (e2 6 (by decide))) (h.kr f (e2 7 (by decide)))
theorem td_remember (hΓ : Ok G κ mX3_remember (d + 4) Q X) {k : Nat} (h : TD G σ c x A am n C n2 C2 Nh Ch (nI k) b l cd og hs out ol) (hk : k ≤ 8) (hq : ∀ (σ1 : Hp) (c1 : Nat → Nat), TD G σ1 c1 x A am n C n2 C2 (hNn n Nh) (hCc C Ch) (nI (hCnt k)) b l cd og hs out ol → KF (NA am) σ c σ1 c1 → KF (fun y => y ≠ A 0 ∧ (OB σ y 2 ∨ OB σ y 6)) σ c σ1 c1 → Q none σ1) : AW G κ (cs + 7) (ss + 96) 0 [lR (A 4), lR (A 0), none, none] [] σ := by
  obtain ⟨o, o0, o1, o2, o4, o5, o6, o7⟩ := h.ob
  obtain ⟨ra, a1, a2, a3⟩ := h.2.2.1
  obtain ⟨b1, b2, b3, b4, b5⟩ := a2 7 (by decide)
  refine sh_remember hΓ a1 hk (fun j hj => (a2 j hj).1.ob) b1 h.m (Ne.symm b2) (fun σ1 c1 h1 h2 f => ?_)
  have two : ∀ {y}, y ≠ A 4 → y ≠ ra 7 → ¬ (y = A 4 ∨ y = ra 7) := fun e1 e2 e => e.elim e1 e2
  have ob7 := b1.ob
  refine hq σ1 c1 (h.up f (two (o.ne o4 (by decide)) (o.ne ob7 (by decide))) (h.m.keep f (two (o0.ne o4 (by decide)) (Ne.symm b2))) (h.k1 f (two (o1.ne o4 (by decide)) (Ne.symm b3))) (h.2.1.2.2.keep f (two (o2.ne o4 (by decide)) (Ne.symm b4))) ⟨rotI ra, h1, fun i hi => ?_, fun i j hi hj e => ?_⟩ (h.ki f (two (o5.ne o4 (by decide)) (o5.ne ob7 (by decide))) (two (o6.ne o4 (by decide)) (o6.ne ob7 (by decide)))) (h.kr f (two (o7.ne o4 (by decide)) (o7.ne ob7 (by decide))))) (f.mo (fun y e => by rcases e with e | e <;> rw [e]; exact h.2.2.2.2.2.2.2 4 (by decide); exact b5)) (f.mo (fun y e => by rcases e with e | e <;> rw [e]; exact ⟨o4.ne o0 (by decide), Or.inl o4⟩; exact ⟨b2, Or.inr ob7⟩))
  · unfold rotI hNn hCc
    by_cases e : i = 0
    · rw [if_pos e, if_pos e, if_pos e]; exact ⟨h2, b2, b3, b4, b5⟩
    · rw [if_neg e, if_neg e, if_neg e]
      obtain ⟨g1, g2⟩ := a2 (i - 1) (by omega)
      exact ⟨g1.keep f (two (g1.ob.ne o4 (by decide)) (fun e9 => by have := a3 _ _ (by omega) (by decide) e9; omega)), g2⟩
  · unfold rotI at e
    by_cases ei : i = 0
    · rw [if_pos ei] at e
      by_cases ej : j = 0
      · omega
      · rw [if_neg ej] at e; have := a3 _ _ (by decide) (by omega) e; omega
    · rw [if_neg ei] at e
      by_cases ej : j = 0
      · rw [if_pos ej] at e; have := a3 _ _ (by omega) (by decide) e; omega
      · rw [if_neg ej] at e; have := a3 _ _ (by omega) (by omega) e; omega
theorem td_takeBack (hΓ : Ok G κ mX3_takeBack (d + 4) Q X) {k : Nat} (h : TD G σ c x A am n C n2 C2 Nh Ch (nI (k + 1)) b l cd og hs out ol) (hk : k < 8) (hq : ∀ (σ1 : Hp) (c1 : Nat → Nat), TD G σ1 c1 x A am (Nh 0) (cCpy C (Ch 0)) n2 C2 (bNn Nh) (bCc Ch) (nI k) b l cd og hs out ol → KF (NA am) σ c σ1 c1 → Q none σ1) : AW G κ (cs + 7) (ss + 96) 0 [lR (A 4), lR (A 0), none, none] [] σ := by
  obtain ⟨o, o0, o1, o2, o4, o5, o6, o7⟩ := h.ob
  obtain ⟨d1, d2, d3⟩ := h.2.2.2.2.2.1
  obtain ⟨ra, a1, a2, a3⟩ := h.2.2.1
  obtain ⟨b1, b2, b3, b4, b5⟩ := a2 0 (by decide)
  refine sh_takeBack hΓ a1 hk (fun j hj => ⟨_, _, (a2 j hj).1⟩) b1 h.m b2 (fun σ1 c1 h1 h2 f => ?_)
  have two : ∀ {y}, y ≠ A 4 → y ≠ A 0 → ¬ (y = A 4 ∨ y = A 0) := fun e1 e2 e => e.elim e1 e2
  refine hq σ1 c1 (h.up f (two (o.ne o4 (by decide)) (o.ne o0 (by decide))) h2 (h.k1 f (two (o1.ne o4 (by decide)) (Ne.symm d1))) (h.2.1.2.2.keep f (two (o2.ne o4 (by decide)) (Ne.symm d2))) ⟨rotO ra, h1, fun i hi => ?_, fun i j hi hj e => ?_⟩ (h.ki f (two (o5.ne o4 (by decide)) (o5.ne o0 (by decide))) (two (o6.ne o4 (by decide)) (o6.ne o0 (by decide)))) (h.kr f (two (o7.ne o4 (by decide)) (o7.ne o0 (by decide))))) (f.mo (fun y e => by rcases e with e | e <;> rw [e]; exact h.2.2.2.2.2.2.2 4 (by decide); exact h.2.2.2.2.2.2.2 0 (by decide)))
  · have kp : ∀ j, j < 8 → RY G σ1 c1 (ra j) (Nh j) (Ch j) ∧ ra j ≠ A 0 ∧ ra j ≠ A 1 ∧ ra j ≠ A 2 ∧ ra j ≠ am := fun j hj => by
      obtain ⟨g1, g2⟩ := a2 j hj
      exact ⟨g1.keep f (two (g1.ob.ne o4 (by decide)) g2.1), g2⟩
    unfold rotO bNn bCc
    by_cases e : i = 7
    · rw [if_pos e, if_pos e, if_pos e]; exact kp 0 (by decide)
    · rw [if_neg e, if_neg e, if_neg e]; exact kp (i + 1) (by omega)
  · unfold rotO at e
    by_cases ei : i = 7
    · rw [if_pos ei] at e
      by_cases ej : j = 7
      · omega
      · rw [if_neg ej] at e; have := a3 _ _ (by decide) (by omega) e; omega
    · rw [if_neg ei] at e
      by_cases ej : j = 7
      · rw [if_pos ej] at e; have := a3 _ _ (by omega) (by decide) e; omega
      · rw [if_neg ej] at e; have := a3 _ _ (by omega) (by omega) e; omega
theorem td_clear (hΓ : Ok G κ mX3_clear (d + 0) Q X) (h : TD G σ c x A am n C n2 C2 Nh Ch u b l cd og hs out ol) (hq : ∀ σ1 : Hp, TD G σ1 c x A am n C n2 C2 Nh Ch 0 b l cd og hs out ol → KF (NA am) σ c σ1 c → Q none σ1) : AW G κ cs ss 0 [lR (A 4)] [] σ := by
  obtain ⟨o, o0, o1, o2, o4, o5, o6, o7⟩ := h.ob
  obtain ⟨ra, a1, a2, a3⟩ := h.2.2.1
  refine sh_clear hΓ a1 (fun σ1 h1 f => hq σ1 (h.up f (o.ne o4 (by decide)) (h.m.keep f (o0.ne o4 (by decide))) (h.k1 f (o1.ne o4 (by decide))) (h.2.1.2.2.keep f (o2.ne o4 (by decide))) ⟨ra, h1, fun i hi => ⟨(a2 i hi).1.keep f ((a2 i hi).1.ob.ne o4 (by decide)), (a2 i hi).2⟩, a3⟩ (h.ki f (o5.ne o4 (by decide)) (o6.ne o4 (by decide))) (h.kr f (o7.ne o4 (by decide)))) (h.ea (i := 4) (by decide) f))
end ClassState
