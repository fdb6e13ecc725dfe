/-! the class's runner: chains -/
section ClassRun
variable {G : Gl} {κ : Kx} {d : Nat} {Q : Option Value → Hp → Prop} {X : String → Hp → Prop} {cs ss pc : Nat} {M : List (Option LV)} {st : List Value} {σ σ1 : Hp} {c c1 : Nat → Nat} {w a n s oc : Nat} {nd : Nat → Nat} {D : Nat → Dt} {O : Nat → Int32} {C C1 : Ct} {R R1 : Rt}
/-- the state while a script runs -/
def SR (G : Gl) (σ : Hp) (c : Nat → Nat) (w a n s : Nat) (nd : Nat → Nat) (D : Nat → Dt) (oc : Nat) (R : Rt) (C : Ct) : Prop :=
  (σ w = some (.inr (7, [.ref a, .int (nI R.2)])) ∧ c w = w) ∧ RY G σ c a n C ∧ (CR R.1 n s C ∧ RV R.1 n s) ∧ CM G σ c nd D oc
theorem SR.o (h : SR G σ c w a n s nd D oc R C) : σ w = some (.inr (7, [.ref a, .int (nI R.2)])) := h.1.1
theorem SR.wa (h : SR G σ c w a n s nd D oc R C) : w ≠ a := by
  obtain ⟨t, q, o⟩ := h.2.1.o
  exact obj_ne h.o o (by decide)
theorem SR.up (h : SR G σ c w a n s nd D oc R C) : SR G (hset σ w (.inr (7, [.ref a, .int (nI (R.2 + 1))]))) c w a n s nd D oc (R.1, R.2 + 1) C ∧ KF (fun x => x = w) σ c (hset σ w (.inr (7, [.ref a, .int (nI (R.2 + 1))]))) c := by
  have f : KF (fun x => x = w) σ c (hset σ w (.inr (7, [.ref a, .int (nI (R.2 + 1))]))) c := KF.set h.o h.1.2
  exact ⟨⟨⟨hset_same _ _ _, h.1.2⟩, h.2.1.keep f (Ne.symm h.wa), h.2.2.1, h.2.2.2.keep f (h.2.2.2.ne h.o (by decide))⟩, f⟩
theorem sx_init (hΓ : Ok G κ mX9_init (d + 1) Q X) {fs : List Value} (h : σ w = some (.inr (7, fs))) (hl : 0 < fs.length) (hq : Q none (hset σ w (.inr (7, fs.set 0 (.ref a))))) : AW G κ cs ss 0 [lR w, lR a] [] σ := by
  refine sX9_init_0 hΓ rfl ?_
  refine sX9_init_1 hΓ (Nat.le_of_ble_eq_true rfl) ?_
  refine sX9_init_4 hΓ rfl ?_
  refine sX9_init_5 hΓ rfl ?_
  refine sX9_init_6 hΓ h hl ?_
  exact sX9_init_9 hΓ hq
end ClassRun
