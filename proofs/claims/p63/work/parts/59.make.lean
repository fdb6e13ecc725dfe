/-! the class whole: made -/
/-- x alone and what was not there change -/
def NF (σ : Hp) (x : Nat) : Nat → Prop := fun y => y = x ∨ σ y = none
section Make
variable {G : Gl} {κ : Kx} {d : Nat} {Q : Option Value → Hp → Prop} {X : String → Hp → Prop} {cs ss pc : Nat} {σ σ1 σ2 : Hp} {c c1 c2 : Nat → Nat} {x q n a : Nat} {C : Ct} {e : va_E} {b : Nat → Int32} {l : Int32} {pr tk inp : Nat} {cd og cc : Int32}
theorem NF.tr (f : KF (NF σ x) σ c σ1 c1) (f1 : KF (NF σ1 x) σ1 c1 σ2 c2) : KF (NF σ x) σ c σ2 c2 := f.tr (f1.mo (fun y h => h.elim Or.inl (fun h => Or.inr (f.nn h))))
theorem NF.new (hq : σ q = none) : KF (NF σ x) σ c (hset σ q e) (colN c q q) := KF.new hq
/-- a new object's own changes -/
theorem NF.in (hq : σ q = none) (f : KF (fun y => y = q) (hset σ q e) (colN c q q) σ1 c1) : KF (NF σ x) σ c σ1 c1 := (KF.new hq).tr (f.mo (fun y h => Or.inr (by rw [h]; exact hq)))
theorem NF.ox (f : KF (fun y => y = x) σ c σ1 c1) : KF (NF σ x) σ c σ1 c1 := f.mo (fun y h => Or.inl h)
theorem OB.nn {i : Nat} (h : OB σ a i) : σ a ≠ none := fun e => by
  obtain ⟨vs, h⟩ := h
  rw [e] at h
  cases h
theorem OB.nf {i j : Nat} (h : OB σ a i) (hx : OB σ x j) (hij : i ≠ j) : ¬ NF σ x a := fun e => e.elim (h.ne hx hij) h.nn
theorem NF.in2 (hq : σ q = none) (f : KF (NF (hset σ q e) q) (hset σ q e) (colN c q q) σ1 c1) : KF (NF σ x) σ c σ1 c1 := (KF.new hq).tr (f.mo (fun y h => h.elim (fun h => Or.inr (by rw [h]; exact hq)) (fun h => Or.inr ((KF.new (W := fun _ => False) (c := c) (o := q) (e := e) hq).nn h))))
theorem sk_init (hΓ : Ok G κ mX10_init (d + 1) Q X) {fs : List Value} (h : σ q = some (.inr (8, fs))) (hl : 0 < fs.length) (hq : Q none (hset σ q (.inr (8, fs.set 0 (.ref inp))))) : AW G κ cs ss 0 [lR q, lR inp] [] σ := by
  refine sX10_init_0 hΓ rfl ?_
  refine sX10_init_1 hΓ (Nat.le_of_ble_eq_true rfl) ?_
  refine sX10_init_4 hΓ rfl ?_
  refine sX10_init_5 hΓ rfl ?_
  refine sX10_init_6 hΓ h hl ?_
  exact sX10_init_9 hΓ hq
theorem sq_init (hΓ : Ok G κ mX7_init (d + 2) Q X) (h : σ pr = some (.inr (5, [.null, .int 0, .int 0, .int 0]))) (hc : c pr = pr) (hI : IG G σ c inp l b) (hq : ∀ (σ1 : Hp) (c1 : Nat → Nat) (tk : Nat), PZ G σ1 c1 pr tk inp b 0 (-1) 0 → KF (NF σ pr) σ c σ1 c1 → Q none σ1) : AW G κ (cs + 1) (ss + 6) 0 [lR pr, lR inp] [] σ := by
  refine sX7_init_0 hΓ rfl ?_
  refine sX7_init_1 hΓ (Nat.le_of_ble_eq_true rfl) ?_
  refine sX7_init_4 hΓ rfl ?_
  refine sX7_init_5 hΓ ?_
  refine sX7_init_6 hΓ h (Nat.le_of_ble_eq_true rfl) ?_
  refine sX7_init_9 hΓ rfl ?_
  refine sX7_init_10 hΓ ?_
  refine sX7_init_11 hΓ (hset_same _ _ _) (Nat.le_of_ble_eq_true rfl) ?_
  rw [hset_hset]
  show AW G κ _ _ 14 _ _ (hset σ pr (.inr (5, [.null, .int 0, .int (-1), .int 0])))
  have f1 : KF (NF σ pr) σ c (hset σ pr (.inr (5, [.null, .int 0, .int (-1), .int 0]))) c := NF.ox (KF.set h hc)
  refine sX7_init_14 hΓ rfl ?_
  refine sX7_init_15 hΓ (fun q hqn _ => ?_)
  have qp : q ≠ pr := fun e9 => by rw [e9, hset_same] at hqn; cases hqn
  refine sX7_init_18 hΓ ?_
  refine sX7_init_19 hΓ rfl ?_
  refine sX7_init_20 hΓ 0 0 (Nat.le_of_ble_eq_true rfl) (fun κ_20 hΓ_20 => sk_init hΓ_20 (hset_same _ _ _) (by decide) ?_)
  show AW G κ _ _ 23 _ _ _
  rw [hset_hset]
  have f2 : KF (NF σ pr) σ c (hset (hset σ pr (.inr (5, [.null, .int 0, .int (-1), .int 0]))) q (.inr (8, [.ref inp, .int 0, .int 0, .int 0, .int 0, .int 0]))) (colN c q pr) := NF.tr f1 (KF.new hqn)
  have hp2 : hset (hset σ pr (.inr (5, [.null, .int 0, .int (-1), .int 0]))) q (.inr (8, [.ref inp, .int 0, .int 0, .int 0, .int 0, .int 0])) pr = some (.inr (5, [.null, .int 0, .int (-1), .int 0])) := by rw [hset_ne (Ne.symm qp), hset_same]
  have cp2 : colN c q pr pr = pr := colN_o hc
  have f3 := NF.tr f2 (NF.ox (x := pr) (KF.set (e := .inr (5, [.ref q, .int 0, .int (-1), .int 0])) hp2 cp2))
  refine sX7_init_23 hΓ hp2 (Nat.le_of_ble_eq_true rfl) ?_
  obtain ⟨v, i1, i2, i3, i4⟩ := hI
  have ni : ¬ NF σ pr inp := fun e9 => e9.elim (obj_ne i1 h (by decide)) (fun e8 => by rw [e8] at i1; cases i1)
  obtain ⟨g1, g2, -⟩ := f3 _ _ i1
  obtain ⟨g3, g4, -⟩ := f3 _ _ i2
  refine sX7_init_26 hΓ (hq _ _ q ⟨⟨hset_same _ _ _, ⟨0, 0, 0, 0, 0, by rw [hset_ne qp, hset_same]; rfl⟩, v, l, ⟨g2 (by rw [i3]; exact ni), g4 (by rw [i4]; exact ni)⟩, g1.trans i3, g3.trans i4⟩, cp2, colN_s⟩ f3)
/-- x's object, its own colour -/
def XO (σ : Hp) (c : Nat → Nat) (x : Nat) (fs : List Value) : Prop := σ x = some (.inr (10, fs)) ∧ c x = x
theorem XO.put {fs fs1 : List Value} (h : XO σ c x fs) : XO (hset σ x (.inr (10, fs1))) c x fs1 ∧ KF (NF σ x) σ c (hset σ x (.inr (10, fs1))) c := ⟨⟨hset_same _ _ _, h.2⟩, NF.ox (KF.set h.1 h.2)⟩
theorem XO.ne {fs : List Value} (h : XO σ c x fs) (hq : σ q = none) : x ≠ q := fun e9 => by
  have := h.1
  rw [e9, hq] at this
  cases this
/-- an object made; x's stays -/
theorem XO.mk {fs : List Value} (h : XO σ c x fs) (hq : σ q = none) (f : KA q (hset σ q e) (colN c q q) σ1 c1) : XO σ1 c1 x fs ∧ KF (NF σ x) σ c σ1 c1 := by
  have f2 : KF (NF σ x) σ c σ1 c1 := NF.in hq (f.kf (W := fun y => y = q) colN_s)
  have hn := h.ne hq
  have hx2 : hset σ q e x = some (.inr (10, fs)) := by rw [hset_ne hn]; exact h.1
  obtain ⟨a1, a2, -⟩ := f x _ hx2
  exact ⟨⟨a2 hn, a1.trans ((colN_n hn).trans h.2)⟩, f2⟩
theorem XO.mk2 {fs : List Value} (h : XO σ c x fs) (hq : σ q = none) (f : KF (NF (hset σ q e) q) (hset σ q e) (colN c q q) σ1 c1) : XO σ1 c1 x fs ∧ KF (NF σ x) σ c σ1 c1 := by
  have f2 : KF (NF σ x) σ c σ1 c1 := NF.in2 hq f
  have hn := h.ne hq
  have hx2 : hset σ q e x = some (.inr (10, fs)) := by rw [hset_ne hn]; exact h.1
  obtain ⟨a1, a2, -⟩ := f x _ hx2
  have hc2 : colN c q q x = x := (colN_n hn).trans h.2
  exact ⟨⟨a2 (by rw [hc2]; exact fun e9 => e9.elim hn (fun e8 => by rw [hx2] at e8; cases e8)), a1.trans hc2⟩, f2⟩
theorem XO.nw {fs : List Value} {o : Nat} (h : XO σ c x fs) (hq : σ q = none) : XO (hset σ q e) (colN c q o) x fs ∧ KF (NF σ x) σ c (hset σ q e) (colN c q o) :=
  ⟨⟨by rw [hset_ne (h.ne hq)]; exact h.1, (colN_n (h.ne hq)).trans h.2⟩, KF.new hq⟩
theorem XO.ob {fs : List Value} (h : XO σ c x fs) : OB σ x 10 := ⟨_, h.1⟩
theorem tq_init (hΓ : Ok G κ mX12_init (d + 5) Q X) (h0 : σ x = some (.inr (10, [.null, .null, .null, .int 0, .null, .null, .null, .null, .null, .int 0]))) (hcx : c x = x) (hq : ∀ (σ1 : Hp) (c1 A : Nat → Nat) (C C2 : Ct) (Nh : Nat → Nat) (Ch : Nat → Ct), (∀ am, σ1 am = none → TD G σ1 c1 x A am 2 C 0 C2 Nh Ch (nI 0) (fun _ => 0) (nI 0) 0 (-1) 0 (fun _ => 0) 0) → CR mRow0 2 8 C → KF (NF σ x) σ c σ1 c1 → Q none σ1) : AW G κ (cs + 57) (ss + 867) 0 [lR x] [] σ := by
  have y : XO σ c x [.null, .null, .null, .int 0, .null, .null, .null, .null, .null, .int 0] := ⟨h0, hcx⟩
  refine sX12_init_0 hΓ rfl ?_
  refine sX12_init_1 hΓ (Nat.le_of_ble_eq_true rfl) ?_
  refine sX12_init_4 hΓ rfl ?_
  refine sX12_init_5 hΓ (fun q0 n0 _ => ?_)
  refine sX12_init_8 hΓ ?_
  refine sX12_init_9 hΓ 3 17 (Nat.le_of_ble_eq_true rfl) (fun κ_0 hΓ_0 => sy_init (cs := 0) (ss := 0) (c := colN c q0 q0) hΓ_0 (hset_same _ _ _) colN_s (fun σ0 c0 r0 k0 => ?_))
  show AW G κ _ _ 12 _ _ _
  obtain ⟨x0, f0⟩ := y.mk n0 k0
  have y0 := (x0.put (fs1 := [.ref q0, .null, .null, .int 0, .null, .null, .null, .null, .null, .int 0])).1
  have g0 := (x0.put (fs1 := [.ref q0, .null, .null, .int 0, .null, .null, .null, .null, .null, .int 0])).2
  refine sX12_init_12 hΓ x0.1 (Nat.le_of_ble_eq_true rfl) ?_
  obtain ⟨s0, hs0⟩ : ∃ s, s = hset σ0 x (.inr (10, [.ref q0, .null, .null, .int 0, .null, .null, .null, .null, .null, .int 0])) := ⟨_, rfl⟩
  rw [← hs0] at y0 g0
  show AW G κ _ _ 15 _ _ (hset σ0 x (.inr (10, [.ref q0, .null, .null, .int 0, .null, .null, .null, .null, .null, .int 0])))
  rw [← hs0]
  have r0_g0 := r0.keep g0 (r0.ob.nf x0.ob (by decide))
  have F0 := NF.tr f0 g0
  refine sX12_init_15 hΓ rfl ?_
  refine sX12_init_16 hΓ (fun q1 n1 _ => ?_)
  refine sX12_init_19 hΓ ?_
  refine sX12_init_20 hΓ 3 17 (Nat.le_of_ble_eq_true rfl) (fun κ_1 hΓ_1 => sy_init (cs := 0) (ss := 0) (c := colN c0 q1 q1) hΓ_1 (hset_same _ _ _) colN_s (fun σ1 c1 r1 k1 => ?_))
  show AW G κ _ _ 23 _ _ _
  obtain ⟨x1, f1⟩ := y0.mk n1 k1
  have y1 := (x1.put (fs1 := [.ref q0, .ref q1, .null, .int 0, .null, .null, .null, .null, .null, .int 0])).1
  have g1 := (x1.put (fs1 := [.ref q0, .ref q1, .null, .int 0, .null, .null, .null, .null, .null, .int 0])).2
  refine sX12_init_23 hΓ x1.1 (Nat.le_of_ble_eq_true rfl) ?_
  obtain ⟨s1, hs1⟩ : ∃ s, s = hset σ1 x (.inr (10, [.ref q0, .ref q1, .null, .int 0, .null, .null, .null, .null, .null, .int 0])) := ⟨_, rfl⟩
  rw [← hs1] at y1 g1
  show AW G κ _ _ 26 _ _ (hset σ1 x (.inr (10, [.ref q0, .ref q1, .null, .int 0, .null, .null, .null, .null, .null, .int 0])))
  rw [← hs1]
  have ne01 : q0 ≠ q1 := fun e => r0_g0.ob.nn (by rw [e]; exact n1)
  have r0_f1 := r0_g0.keep f1 (r0_g0.ob.nf y0.ob (by decide))
  have r0_g1 := r0_f1.keep g1 (r0_f1.ob.nf x1.ob (by decide))
  have r1_g1 := r1.keep g1 (r1.ob.nf x1.ob (by decide))
  have F1 := NF.tr F0 (NF.tr f1 g1)
  refine sX12_init_26 hΓ rfl ?_
  refine sX12_init_27 hΓ (fun q2 n2 _ => ?_)
  refine sX12_init_30 hΓ ?_
  refine sX12_init_31 hΓ 3 17 (Nat.le_of_ble_eq_true rfl) (fun κ_2 hΓ_2 => sy_init (cs := 0) (ss := 0) (c := colN c1 q2 q2) hΓ_2 (hset_same _ _ _) colN_s (fun σ2 c2 r2 k2 => ?_))
  show AW G κ _ _ 34 _ _ _
  obtain ⟨x2, f2⟩ := y1.mk n2 k2
  have y2 := (x2.put (fs1 := [.ref q0, .ref q1, .ref q2, .int 0, .null, .null, .null, .null, .null, .int 0])).1
  have g2 := (x2.put (fs1 := [.ref q0, .ref q1, .ref q2, .int 0, .null, .null, .null, .null, .null, .int 0])).2
  refine sX12_init_34 hΓ x2.1 (Nat.le_of_ble_eq_true rfl) ?_
  obtain ⟨s2, hs2⟩ : ∃ s, s = hset σ2 x (.inr (10, [.ref q0, .ref q1, .ref q2, .int 0, .null, .null, .null, .null, .null, .int 0])) := ⟨_, rfl⟩
  rw [← hs2] at y2 g2
  show AW G κ _ _ 37 _ _ (hset σ2 x (.inr (10, [.ref q0, .ref q1, .ref q2, .int 0, .null, .null, .null, .null, .null, .int 0])))
  rw [← hs2]
  have ne02 : q0 ≠ q2 := fun e => r0_g1.ob.nn (by rw [e]; exact n2)
  have ne12 : q1 ≠ q2 := fun e => r1_g1.ob.nn (by rw [e]; exact n2)
  have r0_f2 := r0_g1.keep f2 (r0_g1.ob.nf y1.ob (by decide))
  have r1_f2 := r1_g1.keep f2 (r1_g1.ob.nf y1.ob (by decide))
  have r0_g2 := r0_f2.keep g2 (r0_f2.ob.nf x2.ob (by decide))
  have r1_g2 := r1_f2.keep g2 (r1_f2.ob.nf x2.ob (by decide))
  have r2_g2 := r2.keep g2 (r2.ob.nf x2.ob (by decide))
  have F2 := NF.tr F1 (NF.tr f2 g2)
  refine sX12_init_37 hΓ rfl ?_
  refine sX12_init_38 hΓ (fun q4 n4 _ => ?_)
  refine sX12_init_41 hΓ ?_
  refine sX12_init_42 hΓ 33 216 (Nat.le_of_ble_eq_true rfl) (fun κ_4 hΓ_4 => sh_init (cs := 0) (ss := 0) (c := colN c2 q4 q4) hΓ_4 (hset_same _ _ _) colN_s (fun σ4 c4 ra h4 a4 i4 z4 k4 => ?_))
  show AW G κ _ _ 45 _ _ _
  obtain ⟨x4, f4⟩ := y2.mk n4 k4
  have y4 := (x4.put (fs1 := [.ref q0, .ref q1, .ref q2, .int 0, .ref q4, .null, .null, .null, .null, .int 0])).1
  have g4 := (x4.put (fs1 := [.ref q0, .ref q1, .ref q2, .int 0, .ref q4, .null, .null, .null, .null, .int 0])).2
  refine sX12_init_45 hΓ x4.1 (Nat.le_of_ble_eq_true rfl) ?_
  obtain ⟨s4, hs4⟩ : ∃ s, s = hset σ4 x (.inr (10, [.ref q0, .ref q1, .ref q2, .int 0, .ref q4, .null, .null, .null, .null, .int 0])) := ⟨_, rfl⟩
  rw [← hs4] at y4 g4
  show AW G κ _ _ 48 _ _ (hset σ4 x (.inr (10, [.ref q0, .ref q1, .ref q2, .int 0, .ref q4, .null, .null, .null, .null, .int 0])))
  rw [← hs4]
  have na0 : ∀ j, j < 8 → ra j ≠ q0 := fun j hj e => by
    have e9 := z4 j hj
    rw [e] at e9
    exact r0_g2.ob.nn ((KF.new (W := fun _ => False) (c := id) (o := 0) n4).nn e9)
  have na1 : ∀ j, j < 8 → ra j ≠ q1 := fun j hj e => by
    have e9 := z4 j hj
    rw [e] at e9
    exact r1_g2.ob.nn ((KF.new (W := fun _ => False) (c := id) (o := 0) n4).nn e9)
  have na2 : ∀ j, j < 8 → ra j ≠ q2 := fun j hj e => by
    have e9 := z4 j hj
    rw [e] at e9
    exact r2_g2.ob.nn ((KF.new (W := fun _ => False) (c := id) (o := 0) n4).nn e9)
  have r0_f4 := r0_g2.keep f4 (r0_g2.ob.nf y2.ob (by decide))
  have r1_f4 := r1_g2.keep f4 (r1_g2.ob.nf y2.ob (by decide))
  have r2_f4 := r2_g2.keep f4 (r2_g2.ob.nf y2.ob (by decide))
  have r0_g4 := r0_f4.keep g4 (r0_f4.ob.nf x4.ob (by decide))
  have r1_g4 := r1_f4.keep g4 (r1_f4.ob.nf x4.ob (by decide))
  have r2_g4 := r2_f4.keep g4 (r2_f4.ob.nf x4.ob (by decide))
  have h4_g4 := h4.keep g4 (OB.nf (by obtain ⟨v9, h9, -⟩ := h4; exact ⟨_, h9⟩) x4.ob (by decide) : ¬ _)
  have a4_g4 := fun j (hj : j < 8) => (a4 j hj).keep g4 ((a4 j hj).ob.nf x4.ob (by decide))
  have F4 := NF.tr F2 (NF.tr f4 g4)
  refine sX12_init_48 hΓ rfl ?_
  refine sX12_init_49 hΓ (fun q5 n5 _ => ?_)
  refine sX12_init_52 hΓ ?_
  refine sX12_init_53 hΓ 1 500 (Nat.le_of_ble_eq_true rfl) (fun κ_5 hΓ_5 => si_init (cs := 0) (ss := 0) (c := colN c4 q5 q5) hΓ_5 (hset_same _ _ _) colN_s (fun σ5 c5 i5 k5 => ?_))
  show AW G κ _ _ 56 _ _ _
  obtain ⟨x5, f5⟩ := y4.mk n5 k5
  have y5 := (x5.put (fs1 := [.ref q0, .ref q1, .ref q2, .int 0, .ref q4, .ref q5, .null, .null, .null, .int 0])).1
  have g5 := (x5.put (fs1 := [.ref q0, .ref q1, .ref q2, .int 0, .ref q4, .ref q5, .null, .null, .null, .int 0])).2
  refine sX12_init_56 hΓ x5.1 (Nat.le_of_ble_eq_true rfl) ?_
  obtain ⟨s5, hs5⟩ : ∃ s, s = hset σ5 x (.inr (10, [.ref q0, .ref q1, .ref q2, .int 0, .ref q4, .ref q5, .null, .null, .null, .int 0])) := ⟨_, rfl⟩
  rw [← hs5] at y5 g5
  show AW G κ _ _ 59 _ _ (hset σ5 x (.inr (10, [.ref q0, .ref q1, .ref q2, .int 0, .ref q4, .ref q5, .null, .null, .null, .int 0])))
  rw [← hs5]
  have r0_f5 := r0_g4.keep f5 (r0_g4.ob.nf y4.ob (by decide))
  have r1_f5 := r1_g4.keep f5 (r1_g4.ob.nf y4.ob (by decide))
  have r2_f5 := r2_g4.keep f5 (r2_g4.ob.nf y4.ob (by decide))
  have h4_f5 := h4_g4.keep f5 (OB.nf (by obtain ⟨v9, h9, -⟩ := h4_g4; exact ⟨_, h9⟩) y4.ob (by decide) : ¬ _)
  have a4_f5 := fun j (hj : j < 8) => (a4_g4 j hj).keep f5 ((a4_g4 j hj).ob.nf y4.ob (by decide))
  have r0_g5 := r0_f5.keep g5 (r0_f5.ob.nf x5.ob (by decide))
  have r1_g5 := r1_f5.keep g5 (r1_f5.ob.nf x5.ob (by decide))
  have r2_g5 := r2_f5.keep g5 (r2_f5.ob.nf x5.ob (by decide))
  have h4_g5 := h4_f5.keep g5 (OB.nf (by obtain ⟨v9, h9, -⟩ := h4_f5; exact ⟨_, h9⟩) x5.ob (by decide) : ¬ _)
  have a4_g5 := fun j (hj : j < 8) => (a4_f5 j hj).keep g5 ((a4_f5 j hj).ob.nf x5.ob (by decide))
  have i5_g5 := i5.keep g5 (OB.nf (by obtain ⟨v9, h9, -⟩ := i5; exact ⟨_, h9⟩) x5.ob (by decide) : ¬ _)
  have F5 := NF.tr F4 (NF.tr f5 g5)
  refine sX12_init_59 hΓ rfl ?_
  refine sX12_init_60 hΓ (fun q6 n6 _ => ?_)
  refine sX12_init_63 hΓ ?_
  refine sX12_init_64 hΓ rfl ?_
  refine sX12_init_65 hΓ (by rw [hset_ne (y5.ne n6)]; exact y5.1) rfl ?_
  refine sX12_init_68 hΓ 1 6 (Nat.le_of_ble_eq_true rfl) (fun κ_6 hΓ_6 => sq_init (cs := 0) (ss := 0) (c := colN c5 q6 q6) hΓ_6 (hset_same _ _ _) colN_s (i5_g5.keep (KF.new (W := fun _ => False) n6) id) (fun σ6 c6 tk p6 k6 => ?_))
  show AW G κ _ _ 71 _ _ _
  obtain ⟨x6, f6⟩ := y5.mk2 n6 k6
  have y6 := (x6.put (fs1 := [.ref q0, .ref q1, .ref q2, .int 0, .ref q4, .ref q5, .ref q6, .null, .null, .int 0])).1
  have g6 := (x6.put (fs1 := [.ref q0, .ref q1, .ref q2, .int 0, .ref q4, .ref q5, .ref q6, .null, .null, .int 0])).2
  refine sX12_init_71 hΓ x6.1 (Nat.le_of_ble_eq_true rfl) ?_
  obtain ⟨s6, hs6⟩ : ∃ s, s = hset σ6 x (.inr (10, [.ref q0, .ref q1, .ref q2, .int 0, .ref q4, .ref q5, .ref q6, .null, .null, .int 0])) := ⟨_, rfl⟩
  rw [← hs6] at y6 g6
  show AW G κ _ _ 74 _ _ (hset σ6 x (.inr (10, [.ref q0, .ref q1, .ref q2, .int 0, .ref q4, .ref q5, .ref q6, .null, .null, .int 0])))
  rw [← hs6]
  have r0_f6 := r0_g5.keep f6 (r0_g5.ob.nf y5.ob (by decide))
  have r1_f6 := r1_g5.keep f6 (r1_g5.ob.nf y5.ob (by decide))
  have r2_f6 := r2_g5.keep f6 (r2_g5.ob.nf y5.ob (by decide))
  have h4_f6 := h4_g5.keep f6 (OB.nf (by obtain ⟨v9, h9, -⟩ := h4_g5; exact ⟨_, h9⟩) y5.ob (by decide) : ¬ _)
  have a4_f6 := fun j (hj : j < 8) => (a4_g5 j hj).keep f6 ((a4_g5 j hj).ob.nf y5.ob (by decide))
  have i5_f6 := i5_g5.keep f6 (OB.nf (by obtain ⟨v9, h9, -⟩ := i5_g5; exact ⟨_, h9⟩) y5.ob (by decide) : ¬ _)
  have r0_g6 := r0_f6.keep g6 (r0_f6.ob.nf x6.ob (by decide))
  have r1_g6 := r1_f6.keep g6 (r1_f6.ob.nf x6.ob (by decide))
  have r2_g6 := r2_f6.keep g6 (r2_f6.ob.nf x6.ob (by decide))
  have h4_g6 := h4_f6.keep g6 (OB.nf (by obtain ⟨v9, h9, -⟩ := h4_f6; exact ⟨_, h9⟩) x6.ob (by decide) : ¬ _)
  have a4_g6 := fun j (hj : j < 8) => (a4_f6 j hj).keep g6 ((a4_f6 j hj).ob.nf x6.ob (by decide))
  have i5_g6 := i5_f6.keep g6 (OB.nf (by obtain ⟨v9, h9, -⟩ := i5_f6; exact ⟨_, h9⟩) x6.ob (by decide) : ¬ _)
  have p6_g6 := p6.keep g6 (OB.nf ⟨_, p6.1.1⟩ x6.ob (by decide)) (OB.nf (by obtain ⟨⟨-, -, v9, n9, ⟨h9, -⟩, -⟩, -⟩ := p6; exact ⟨_, h9⟩) x6.ob (by decide))
  have F6 := NF.tr F5 (NF.tr f6 g6)
  refine sX12_init_74 hΓ rfl ?_
  refine sX12_init_75 hΓ (fun q7 n7 _ => ?_)
  refine sX12_init_78 hΓ ?_
  refine sX12_init_79 hΓ rfl ?_
  refine sX12_init_80 hΓ (by rw [hset_ne (y6.ne n7)]; exact y6.1) rfl ?_
  refine sX12_init_83 hΓ 0 0 (Nat.le_of_ble_eq_true rfl) (fun κ_7 hΓ_7 => sx_init hΓ_7 (hset_same _ _ _) (by decide) ?_)
  show AW G κ _ _ 86 _ _ _
  rw [hset_hset]
  obtain ⟨σ7, hσ7⟩ : ∃ s, s = hset s6 q7 (.inr (7, [.ref q0, .int 0])) := ⟨_, rfl⟩
  have w7 : σ7 q7 = some (.inr (7, [.ref q0, .int 0])) ∧ colN c6 q7 q7 q7 = q7 := by rw [hσ7]; exact ⟨hset_same _ _ _, colN_s⟩
  obtain ⟨x7, f7⟩ := y6.nw (e := .inr (7, [.ref q0, .int 0])) (o := q7) n7
  show AW G κ _ _ 86 _ _ (hset s6 q7 (.inr (7, [.ref q0, .int 0])))
  rw [← hσ7] at x7 f7 ⊢
  obtain ⟨c7, hc7⟩ : ∃ k, k = colN c6 q7 q7 := ⟨_, rfl⟩
  rw [← hc7] at x7 f7 w7
  have y7 := (x7.put (fs1 := [.ref q0, .ref q1, .ref q2, .int 0, .ref q4, .ref q5, .ref q6, .ref q7, .null, .int 0])).1
  have g7 := (x7.put (fs1 := [.ref q0, .ref q1, .ref q2, .int 0, .ref q4, .ref q5, .ref q6, .ref q7, .null, .int 0])).2
  refine sX12_init_86 hΓ x7.1 (Nat.le_of_ble_eq_true rfl) ?_
  obtain ⟨s7, hs7⟩ : ∃ s, s = hset σ7 x (.inr (10, [.ref q0, .ref q1, .ref q2, .int 0, .ref q4, .ref q5, .ref q6, .ref q7, .null, .int 0])) := ⟨_, rfl⟩
  rw [← hs7] at y7 g7
  show AW G κ _ _ 89 _ _ (hset σ7 x (.inr (10, [.ref q0, .ref q1, .ref q2, .int 0, .ref q4, .ref q5, .ref q6, .ref q7, .null, .int 0])))
  rw [← hs7]
  have r0_f7 := r0_g6.keep f7 (r0_g6.ob.nf y6.ob (by decide))
  have r1_f7 := r1_g6.keep f7 (r1_g6.ob.nf y6.ob (by decide))
  have r2_f7 := r2_g6.keep f7 (r2_g6.ob.nf y6.ob (by decide))
  have h4_f7 := h4_g6.keep f7 (OB.nf (by obtain ⟨v9, h9, -⟩ := h4_g6; exact ⟨_, h9⟩) y6.ob (by decide) : ¬ _)
  have a4_f7 := fun j (hj : j < 8) => (a4_g6 j hj).keep f7 ((a4_g6 j hj).ob.nf y6.ob (by decide))
  have i5_f7 := i5_g6.keep f7 (OB.nf (by obtain ⟨v9, h9, -⟩ := i5_g6; exact ⟨_, h9⟩) y6.ob (by decide) : ¬ _)
  have p6_f7 := p6_g6.keep f7 (OB.nf ⟨_, p6_g6.1.1⟩ y6.ob (by decide)) (OB.nf (by obtain ⟨⟨-, -, v9, n9, ⟨h9, -⟩, -⟩, -⟩ := p6_g6; exact ⟨_, h9⟩) y6.ob (by decide))
  have r0_g7 := r0_f7.keep g7 (r0_f7.ob.nf x7.ob (by decide))
  have r1_g7 := r1_f7.keep g7 (r1_f7.ob.nf x7.ob (by decide))
  have r2_g7 := r2_f7.keep g7 (r2_f7.ob.nf x7.ob (by decide))
  have h4_g7 := h4_f7.keep g7 (OB.nf (by obtain ⟨v9, h9, -⟩ := h4_f7; exact ⟨_, h9⟩) x7.ob (by decide) : ¬ _)
  have a4_g7 := fun j (hj : j < 8) => (a4_f7 j hj).keep g7 ((a4_f7 j hj).ob.nf x7.ob (by decide))
  have i5_g7 := i5_f7.keep g7 (OB.nf (by obtain ⟨v9, h9, -⟩ := i5_f7; exact ⟨_, h9⟩) x7.ob (by decide) : ¬ _)
  have p6_g7 := p6_f7.keep g7 (OB.nf ⟨_, p6_f7.1.1⟩ x7.ob (by decide)) (OB.nf (by obtain ⟨⟨-, -, v9, n9, ⟨h9, -⟩, -⟩, -⟩ := p6_f7; exact ⟨_, h9⟩) x7.ob (by decide))
  have w7_g7a := (g7 _ _ w7.1).2.1 (by rw [w7.2]; exact OB.nf ⟨_, w7.1⟩ x7.ob (by decide))
  have w7_g7c := (g7 _ _ w7.1).1.trans w7.2
  have w7_g7 : _ ∧ _ := ⟨w7_g7a, w7_g7c⟩
  have F7 := NF.tr F6 (NF.tr f7 g7)
  refine sX12_init_89 hΓ rfl ?_
  refine sX12_init_90 hΓ ?_
  refine sX12_init_92 hΓ (n := 24) rfl (by decide) (fun q8 n8 _ => ?_)
  obtain ⟨σ8, hσ8⟩ : ∃ s, s = hset s7 q8 (eI G 24 (fun _ => 0)) := ⟨_, rfl⟩
  have o8 : σ8 q8 = some (eI G 24 (fun _ => 0)) ∧ colN c7 q8 x q8 = x := by rw [hσ8]; exact ⟨hset_same _ _ _, colN_s⟩
  obtain ⟨x8, f8⟩ := y7.nw (e := eI G 24 (fun _ => 0)) (o := x) n8
  rw [← hσ8] at x8 f8 ⊢
  obtain ⟨c8, hc8⟩ : ∃ k, k = colN c7 q8 x := ⟨_, rfl⟩
  rw [← hc8] at x8 f8 o8
  have y8 := (x8.put (fs1 := [.ref q0, .ref q1, .ref q2, .int 0, .ref q4, .ref q5, .ref q6, .ref q7, .ref q8, .int 0])).1
  have g8 := (x8.put (fs1 := [.ref q0, .ref q1, .ref q2, .int 0, .ref q4, .ref q5, .ref q6, .ref q7, .ref q8, .int 0])).2
  refine sX12_init_94 hΓ x8.1 (Nat.le_of_ble_eq_true rfl) ?_
  obtain ⟨s8, hs8⟩ : ∃ s, s = hset σ8 x (.inr (10, [.ref q0, .ref q1, .ref q2, .int 0, .ref q4, .ref q5, .ref q6, .ref q7, .ref q8, .int 0])) := ⟨_, rfl⟩
  rw [← hs8] at y8 g8
  show AW G κ _ _ 97 _ _ (hset σ8 x (.inr (10, [.ref q0, .ref q1, .ref q2, .int 0, .ref q4, .ref q5, .ref q6, .ref q7, .ref q8, .int 0])))
  rw [← hs8]
  have r0_f8 := r0_g7.keep f8 (r0_g7.ob.nf y7.ob (by decide))
  have r1_f8 := r1_g7.keep f8 (r1_g7.ob.nf y7.ob (by decide))
  have r2_f8 := r2_g7.keep f8 (r2_g7.ob.nf y7.ob (by decide))
  have h4_f8 := h4_g7.keep f8 (OB.nf (by obtain ⟨v9, h9, -⟩ := h4_g7; exact ⟨_, h9⟩) y7.ob (by decide) : ¬ _)
  have a4_f8 := fun j (hj : j < 8) => (a4_g7 j hj).keep f8 ((a4_g7 j hj).ob.nf y7.ob (by decide))
  have i5_f8 := i5_g7.keep f8 (OB.nf (by obtain ⟨v9, h9, -⟩ := i5_g7; exact ⟨_, h9⟩) y7.ob (by decide) : ¬ _)
  have p6_f8 := p6_g7.keep f8 (OB.nf ⟨_, p6_g7.1.1⟩ y7.ob (by decide)) (OB.nf (by obtain ⟨⟨-, -, v9, n9, ⟨h9, -⟩, -⟩, -⟩ := p6_g7; exact ⟨_, h9⟩) y7.ob (by decide))
  have w7_f8a := (f8 _ _ w7_g7.1).2.1 (by rw [w7_g7.2]; exact OB.nf ⟨_, w7_g7.1⟩ y7.ob (by decide))
  have w7_f8c := (f8 _ _ w7_g7.1).1.trans w7_g7.2
  have w7_f8 : _ ∧ _ := ⟨w7_f8a, w7_f8c⟩
  have o9 : s8 q8 = some (eI G 24 (fun _ => 0)) := by rw [hs8, hset_ne (Ne.symm (oa_ne x8.1 o8.1))]; exact o8.1
  have r0_g8 := r0_f8.keep g8 (r0_f8.ob.nf x8.ob (by decide))
  have r1_g8 := r1_f8.keep g8 (r1_f8.ob.nf x8.ob (by decide))
  have r2_g8 := r2_f8.keep g8 (r2_f8.ob.nf x8.ob (by decide))
  have h4_g8 := h4_f8.keep g8 (OB.nf (by obtain ⟨v9, h9, -⟩ := h4_f8; exact ⟨_, h9⟩) x8.ob (by decide) : ¬ _)
  have a4_g8 := fun j (hj : j < 8) => (a4_f8 j hj).keep g8 ((a4_f8 j hj).ob.nf x8.ob (by decide))
  have i5_g8 := i5_f8.keep g8 (OB.nf (by obtain ⟨v9, h9, -⟩ := i5_f8; exact ⟨_, h9⟩) x8.ob (by decide) : ¬ _)
  have p6_g8 := p6_f8.keep g8 (OB.nf ⟨_, p6_f8.1.1⟩ x8.ob (by decide)) (OB.nf (by obtain ⟨⟨-, -, v9, n9, ⟨h9, -⟩, -⟩, -⟩ := p6_f8; exact ⟨_, h9⟩) x8.ob (by decide))
  have w7_g8a := (g8 _ _ w7_f8.1).2.1 (by rw [w7_f8.2]; exact OB.nf ⟨_, w7_f8.1⟩ x8.ob (by decide))
  have w7_g8c := (g8 _ _ w7_f8.1).1.trans w7_f8.2
  have w7_g8 : _ ∧ _ := ⟨w7_g8a, w7_g8c⟩
  have F8 := NF.tr F7 (NF.tr f8 g8)
  obtain ⟨A, hA⟩ : ∃ A : Nat → Nat, A = fun i => if i = 0 then q0 else if i = 1 then q1 else if i = 2 then q2 else if i = 4 then q4 else if i = 5 then q5 else if i = 6 then q6 else if i = 7 then q7 else if i = 8 then q8 else x := ⟨_, rfl⟩
  have A0 : A 0 = q0 := by rw [hA]; rfl
  have A1 : A 1 = q1 := by rw [hA]; rfl
  have A2 : A 2 = q2 := by rw [hA]; rfl
  have A3 : A 3 = x := by rw [hA]; rfl
  have A4 : A 4 = q4 := by rw [hA]; rfl
  have A5 : A 5 = q5 := by rw [hA]; rfl
  have A6 : A 6 = q6 := by rw [hA]; rfl
  have A7 : A 7 = q7 := by rw [hA]; rfl
  have A8 : A 8 = q8 := by rw [hA]; rfl
  have T0 : ∀ am, s8 am = none → TD G s8 c8 x A am 0 cZero 0 cZero (fun _ => 0) (fun _ => cZero) (nI 0) (fun _ => 0) (nI 0) 0 (-1) 0 (fun _ => 0) 0 := fun am ham => by
    have nam : ∀ {y i : Nat}, OB s8 y i → y ≠ am := fun h e => h.nn (by rw [e]; exact ham)
    unfold TD HH tdV
    rw [A0, A1, A2, A4, A5, A6, A7, A8]
    refine ⟨⟨y8.1, y8.2, o9, o8.2⟩, ⟨r0_g8, ⟨0, cZero, r1_g8⟩, r2_g8⟩, ⟨ra, h4_g8, fun j hj => ⟨a4_g8 j hj, na0 j hj, na1 j hj, na2 j hj, nam (a4_g8 j hj).ob⟩, fun i j hi hj e => i4 i j hi hj e⟩, ⟨i5_g8, tk, 0, p6_g8⟩, ⟨0, w7_g8⟩, ⟨ne01, ne02, ne12⟩, nam y8.ob, fun i hi => ?_⟩
    have hi8 : i = 0 ∨ i = 1 ∨ i = 2 ∨ i = 3 ∨ i = 4 ∨ i = 5 ∨ i = 6 ∨ i = 7 := by omega
    rcases hi8 with e | e | e | e | e | e | e | e <;> subst e
    · rw [A0]; exact nam r0_g8.ob
    · rw [A1]; exact nam r1_g8.ob
    · rw [A2]; exact nam r2_g8.ob
    · rw [A3]; exact nam y8.ob
    · rw [A4]; obtain ⟨v9, h9, -⟩ := h4_g8; exact nam ⟨_, h9⟩
    · rw [A5]; obtain ⟨v9, h9, -⟩ := i5_g8; exact nam ⟨_, h9⟩
    · rw [A6]; exact nam ⟨_, p6_g8.1.1⟩
    · rw [A7]; exact nam ⟨_, w7_g8.1⟩
  have r := r0_g8
  rw [← A0] at r
  have ox0 : s8 x = some (.inr (10, tdV A 0 0)) := by
    unfold tdV
    rw [A0, A1, A2, A4, A5, A6, A7, A8]
    exact y8.1
  have xk : ∀ (sa sb : Hp) (ca cb : Nat → Nat), (sa x = some (.inr (10, tdV A 0 0)) ∧ ca x = x) → RY G sa ca (A 0) 0 cZero ∨ OB sa (A 0) 6 → KF (fun y => y = A 0) sa ca sb cb → sb x = some (.inr (10, tdV A 0 0)) ∧ cb x = x := fun sa sb ca cb h1 h2 f => by
    obtain ⟨a1, a2, -⟩ := f x _ h1.1
    have hob : OB sa (A 0) 6 := h2.elim (fun h => h.ob) id
    exact ⟨a2 (by rw [h1.2]; exact OB.ne ⟨_, h1.1⟩ hob (by decide)), a1.trans h1.2⟩
  refine sX12_init_97 hΓ rfl ?_
  refine sX12_init_98 hΓ ox0 rfl ?_
  refine sX12_init_101 hΓ ?_
  refine sX12_init_103 hΓ ?_
  refine sX12_init_104 hΓ 1 0 (Nat.le_of_ble_eq_true rfl) r.o.choose_spec.choose_spec (fun κ_a hΓ_a => sy_lay (cs := 0) (ss := 0) hΓ_a r (fun t1 d1 r1 m1 => ?_))
  show AW G κ _ _ 107 _ _ _
  have ox1 := xk _ _ _ _ ⟨ox0, y8.2⟩ (Or.inr r.ob) m1
  obtain ⟨ta, qa, pa, tra, ga, hca⟩ := r1
  refine sX12_init_107 hΓ rfl ?_
  refine sX12_init_108 hΓ ox1.1 rfl ?_
  refine sX12_init_111 hΓ ?_
  refine sX12_init_112 hΓ 0 0 (Nat.le_of_ble_eq_true rfl) ga.o (fun κ_b hΓ_b => sr_digTunnel hΓ_b ga (fun t2 gb fb => ?_))
  show AW G κ _ _ 115 _ _ _
  have m2 := fb.kf hca gb
  have ox2 := xk _ _ _ _ ox1 (Or.inr ⟨_, ga.o⟩) m2
  refine sX12_init_115 hΓ rfl ?_
  refine sX12_init_116 hΓ ox2.1 rfl ?_
  refine sX12_init_119 hΓ ?_
  refine sX12_init_120 hΓ 0 0 (Nat.le_of_ble_eq_true rfl) gb.o (fun κ_c hΓ_c => sr_digTunnel hΓ_c gb (fun t3 gc fc => ?_))
  show AW G κ _ _ 123 _ _ _
  have m3 := fc.kf hca gc
  have ox3 := xk _ _ _ _ ox2 (Or.inr ⟨_, gb.o⟩) m3
  refine sX12_init_123 hΓ rfl ?_
  refine sX12_init_124 hΓ ox3.1 rfl ?_
  refine sX12_init_127 hΓ ?_
  refine sX12_init_129 hΓ ?_
  refine sX12_init_130 hΓ 0 0 (Nat.le_of_ble_eq_true rfl) gc.o (fun κ_d hΓ_d => sr_changeShort hΓ_d gc (b := true) rfl ⟨8, rfl, by decide, by decide⟩ (fun e => absurd (show rIn 6 0 ((8 : Int32) - 1) = false from e) (by decide)) (fun _ t4 gd fd => ?_))
  show AW G κ _ _ 133 _ _ _
  have m4 := fd.kf hca gd
  have ox4 := xk _ _ _ _ ox3 (Or.inr ⟨_, gc.o⟩) m4
  have r4 : RY G t4 d1 (A 0) 0 (sShort (sDig (sDig (cLay cZero 8 4).1 3) 4) 6 true, (cLay cZero 8 4).2) := ⟨ta, qa, pa, tra, gd, hca⟩
  refine sX12_init_133i hΓ ?_
  refine sX12_init_134 hΓ rfl ?_
  refine sX12_init_135 hΓ ox4.1 rfl ?_
  refine sX12_init_138 hΓ ?_
  refine sX12_init_139 hΓ ?_
  refine sX12_init_140 hΓ ?_
  refine sX12_init_141 hΓ ?_
  refine sX12_init_142 hΓ 2 16 (Nat.le_of_ble_eq_true rfl) r4.o.choose_spec.choose_spec (fun κ_e hΓ_e => sy_addTrain (cs := 0) (ss := 0) hΓ_e r4 (by decide) (fun t5 d5 r5 m5 => ?_))
  show AW G κ _ _ 145 _ _ _
  have ox5 := xk _ _ _ _ ox4 (Or.inr r4.ob) m5
  refine sX12_init_145 hΓ rfl ?_
  refine sX12_init_146 hΓ ox5.1 rfl ?_
  refine sX12_init_149 hΓ ?_
  refine sX12_init_150 hΓ ?_
  refine sX12_init_151 hΓ ?_
  refine sX12_init_152 hΓ ?_
  refine sX12_init_153 hΓ 2 17 (Nat.le_of_ble_eq_true rfl) r5.o.choose_spec.choose_spec (fun κ_f hΓ_f => sy_addTrain (cs := 0) (ss := 0) hΓ_f r5 (by decide) (fun t6 d6 r6 m6 => ?_))
  show AW G κ _ _ 156 _ _ _
  have M : KF (fun y => y = A 0) s8 c8 t6 d6 := ((((m1.tr m2).tr m3).tr m4).tr m5).tr m6
  refine sX12_init_156 hΓ (hq t6 d6 A _ cZero (fun _ => 0) (fun _ => cZero) (fun am ham => (T0 am (M.nn ham)).setMain M r6) ?_ ?_)
  · have k0 : CR (rBeg (nI 8) (nI 4)) 0 8 (cLay cZero (nI 8) (nI 4)) := lay_cr (by decide)
    have k1 := dig_cr (k := 3) k0 (by decide) (by decide) (by decide)
    have k2 := dig_cr (k := 4) k1 (by decide) (by decide) (by decide)
    have k3 := short_cr (k := 6) (b := true) k2 (by decide) (by decide) (by decide)
    have k4 := add_cr (x := 3) (y := 2) (v := 4) (w := 0) k3 (by decide) (by decide +kernel)
    have k5 := add_cr (x := 5) (y := 1) (v := 2) (w := 2) k4 (by decide) (by decide +kernel)
    exact k5
  · refine F8.tr (M.mo (fun y e => ?_))
    rw [e, A0]
    right
    exact n0
end Make
