/-! the law's state; the plain tellings -/
section LawState
variable {G : Gl} {κ : Kx} {d : Nat} {Q : Option Value → Hp → Prop} {X : String → Hp → Prop} {cs ss pc : Nat} {σ σ1 : Hp} {c c1 A r : Nat → Nat} {x am o : Nat} {z z1 : Nat → Int32} {B B1 : Nat → Nat → Int32} {f : Nat → Int64}
/-- the class's object, the reference, what they share, the law's own array -/
def LSt (G : Gl) (σ : Hp) (c : Nat → Nat) (x am o : Nat) (A r : Nat → Nat) (z : Nat → Int32) (B : Nat → Nat → Int32) (f : Nat → Int64) : Prop :=
  RLx G σ c x A am z B ∧ MP G σ am r z B ∧ (c am = am ∧ ∀ k, (mArr k ∨ k = 26) → c (r k) = am) ∧ σ o = some (eL G 1 f) ∧ c o = am
theorem MV.kp {a rw : Nat} {A' : Nat → Nat → Int32} {ρ η : Nat → Int32} (h : MV G σ a r z A' rw ρ η) (hc : c a = a ∧ ∀ k, (mArr k ∨ k = 26) → c (r k) = a) (f1 : KF (NA a) σ c σ1 c1) : MV G σ1 a r z A' rw ρ η := by
  obtain ⟨h1, h2, h3, ⟨g, h4, h5⟩, h6⟩ := h
  have k : ∀ y e, c y = a → σ y = some e → σ1 y = some e := fun y e hy he => (f1 y e he).2.1 (fun e9 => e9 hy)
  exact ⟨k _ _ hc.1 h1, h2, fun j hj => k _ _ (hc.2 j (Or.inl hj)) (h3 j hj), ⟨g, k _ _ (hc.2 26 (Or.inr rfl)) h4, h5⟩, h6⟩
theorem MP.kp {a : Nat} (h : MP G σ a r z B) (hc : c a = a ∧ ∀ k, (mArr k ∨ k = 26) → c (r k) = a) (f1 : KF (NA a) σ c σ1 c1) : MP G σ1 a r z B := by
  obtain ⟨A', h1, h2⟩ := h
  exact ⟨A', h1.kp hc f1, h2⟩
theorem MP.ob {a : Nat} (h : MP G σ a r z B) : OB σ a 10 := by
  obtain ⟨A', h1, h2⟩ := h
  exact ⟨_, h1.o⟩
theorem MP.ex {a : Nat} (h : MP G σ a r z B) : (∃ e, σ a = some e) ∧ ∀ k, mArr k → ∃ n g, σ (r k) = some (eI G n g) := by
  obtain ⟨A', ⟨h1, h2, h3, h4⟩, -⟩ := h
  exact ⟨⟨_, h1⟩, fun k hk => ⟨_, _, h3 k hk⟩⟩
theorem MF.kf {a : Nat} (f1 : MF a r σ σ1) (hc : c a = a ∧ ∀ k, (mArr k ∨ k = 26) → c (r k) = a) (h1 : MP G σ1 a r z1 B1) : KF (fun y => y = a) σ c σ1 c := fun y e hy => by
  by_cases e1 : y = a
  · exact ⟨rfl, fun hw => absurd (by rw [e1]; exact hc.1) hw, by rw [e1]; exact h1.ex.1⟩
  · by_cases e2 : ∃ k, mArr k ∧ y = r k
    · obtain ⟨k, hk, e3⟩ := e2
      refine ⟨rfl, fun hw => absurd (by rw [e3]; exact hc.2 k (Or.inl hk)) hw, ?_⟩
      obtain ⟨n, g, h2⟩ := h1.ex.2 k hk
      rw [e3]
      exact ⟨_, h2⟩
    · rw [f1 y e1 (fun k hk e3 => e2 ⟨k, hk, e3⟩)]
      exact ⟨rfl, fun _ => hy, e, hy⟩
def isLa (e : va_E) : Bool := match e with
  | .inl q => (match q.2.2 with
    | .inr (.inl _) => true
    | _ => false)
  | _ => false
theorem eL_ne {G : Gl} {x y n m : Nat} {f : Nat → Int64} {g : Nat → Int32} (h1 : σ x = some (eL G n f)) (h2 : σ y = some (eI G m g)) : x ≠ y := fun e => by
  rw [e, h2] at h1
  have h3 := congrArg isLa (Option.some.inj h1)
  exact Bool.noConfusion (show false = true from h3)
theorem LSt.mod (hS : LSt G σ c x am o A r z B f) (hM : MP G σ1 am r z1 B1) (fM : MF am r σ σ1) (hR : RLx G σ c x A am z1 B1) : LSt G σ1 c x am o A r z1 B1 f := by
  obtain ⟨h1, h2, h3, h4, h5⟩ := hS
  refine ⟨hR.keep (fM.kf h3 hM), hM, h3, ?_, h5⟩
  rw [fM o (fun e => by obtain ⟨vs, hv⟩ := h2.ob; rw [e, hv] at h4; cases h4) (fun k hk e => by obtain ⟨n, g, h6⟩ := h2.ex.2 k hk; exact eL_ne h4 h6 e)]
  exact h4
theorem LSt.cls (hS : LSt G σ c x am o A r z B f) (hR : RLx G σ1 c1 x A am z1 B1) (f1 : KF (NA am) σ c σ1 c1) : MP G σ1 am r z B ∧ (c1 am = am ∧ ∀ k, (mArr k ∨ k = 26) → c1 (r k) = am) ∧ σ1 o = some (eL G 1 f) ∧ c1 o = am := by
  obtain ⟨h1, h2, h3, h4, h5⟩ := hS
  obtain ⟨g1, g2, -⟩ := f1 o _ h4
  refine ⟨h2.kp h3 f1, ⟨?_, fun k hk => ?_⟩, g2 (fun e => e h5), g1.trans h5⟩
  · obtain ⟨vs, hv⟩ := h2.ob
    exact (f1 _ _ hv).1.trans h3.1
  · obtain ⟨A', ⟨m1, m2, m3, ⟨g, m4, m5⟩, m6⟩, -⟩ := h2
    rcases hk with hk | hk
    · exact (f1 _ _ (m3 k hk)).1.trans (h3.2 k (Or.inl hk))
    · subst hk
      exact (f1 _ _ m4).1.trans (h3.2 26 (Or.inr rfl))
theorem LSt.out (hS : LSt G σ c x am o A r z B f) (f' : Nat → Int64) : LSt G (hset σ o (eL G 1 f')) c x am o A r z B f' := by
  obtain ⟨h1, h2, h3, h4, h5⟩ := hS
  have g : KF (fun y => y = am) σ c (hset σ o (eL G 1 f')) c := KF.set h4 h5
  refine ⟨h1.keep g, ?_, h3, hset_same _ _ _, h5⟩
  obtain ⟨A', ⟨m1, m2, m3, ⟨gg, m4, m5⟩, m6⟩, m7⟩ := h2
  have no : ∀ y e, σ y = some e → (∀ ff, e ≠ eL G 1 ff) → hset σ o (eL G 1 f') y = some e := fun y e hy hne => by
    rw [hset_ne (fun e9 => by rw [e9, h4] at hy; exact hne f (Option.some.inj hy).symm)]
    exact hy
  refine ⟨A', ⟨no _ _ m1 (fun ff e => by cases e), m2, fun k hk => no _ _ (m3 k hk) (fun ff e => ?_), ⟨gg, no _ _ m4 (fun ff e => ?_), m5⟩, m6⟩, m7⟩
  · have h3 := congrArg isLa e
    exact Bool.noConfusion (show false = true from h3)
  · have h3 := congrArg isLa e
    exact Bool.noConfusion (show false = true from h3)
end LawState
