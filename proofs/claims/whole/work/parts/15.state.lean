/-! the reference's object, in the layer's words -/
theorem fa_lit (n : Nat) : (OfNat.ofNat n : Int32) = nI n := rfl
def updA (A : Nat → Nat → Int32) (k : Nat) (f : Nat → Int32) : Nat → Nat → Int32 := fun j => if j = k then f else A j
theorem updA_same (A : Nat → Nat → Int32) (k : Nat) (f : Nat → Int32) : updA A k f k = f := if_pos rfl
theorem updA_ne {A : Nat → Nat → Int32} {k j : Nat} {f : Nat → Int32} (h : j ≠ k) : updA A k f j = A j := if_neg h
theorem updA_updA (A : Nat → Nat → Int32) (k : Nat) (f g : Nat → Int32) : updA (updA A k f) k g = updA A k g := by
  funext x
  by_cases h : x = k <;> simp [updA, h]
theorem updA_comm (A : Nat → Nat → Int32) {k j : Nat} (f g : Nat → Int32) (h : k ≠ j) : updA (updA A k f) j g = updA (updA A j g) k f := by
  funext x
  by_cases h1 : x = k
  · subst h1; simp [updA, h]
  · simp [updA, h1]
theorem updA_id (A : Nat → Nat → Int32) (k : Nat) : updA A k (A k) = A := by
  funext x
  by_cases h1 : x = k
  · subst h1; simp [updA]
  · simp [updA, h1]
/-- the lengths of the reference's arrays, by the field's number -/
def mLen (k : Nat) : Nat := if k < 5 then 184 else if k = 5 then 1472 else if k = 6 then 6 else if k = 13 then 24 else if k = 15 then 500 else 80
def mArr (k : Nat) : Prop := k < 7 ∨ k = 13 ∨ k = 15 ∨ k = 25
abbrev mFs (r : Nat → Nat) (z : Nat → Int32) (rw : Nat) : List Value := [.ref (r 0), .ref (r 1), .ref (r 2), .ref (r 3), .ref (r 4), .ref (r 5), .ref (r 6), .ref rw, .int (z 8), .int (z 9), .int (z 10), .int (z 11), .int (z 12), .ref (r 13), .int (z 14), .ref (r 15), .int (z 16), .int (z 17), .int (z 18), .int (z 19), .int (z 20), .int (z 21), .int (z 22), .int (z 23), .int (z 24), .ref (r 25), .ref (r 26), .int (z 27), .int (z 28)]
/-- the reference's object at a: its arrays' addresses r, its numbers z, its arrays' contents A, which array 'row' is -/
def MS (G : Gl) (σ : Hp) (a : Nat) (r : Nat → Nat) (z : Nat → Int32) (A : Nat → Nat → Int32) (rw : Nat) : Prop :=
  σ a = some (.inr (10, mFs r z (r rw))) ∧ (rw = 0 ∨ rw = 1) ∧ (∀ k, mArr k → σ (r k) = some (eI G (mLen k) (A k))) ∧ (∃ g : Nat → Option Nat, σ (r 26) = some (eR G 3 8 g) ∧ ∀ j, j < 8 → g j = some (gK G (kwT j))) ∧
  (∀ i j, (mArr i ∨ i = 26) → (mArr j ∨ j = 26) → r i = r j → i = j) ∧ ∀ i, (mArr i ∨ i = 26) → r i ≠ a
/-- what isn't the reference's own stays -/
def MF (a : Nat) (r : Nat → Nat) (σ σ1 : Hp) : Prop := ∀ x, x ≠ a → (∀ k, mArr k → x ≠ r k) → σ1 x = σ x
theorem MF.rf {a : Nat} {r : Nat → Nat} {σ : Hp} : MF a r σ σ := fun _ _ _ => rfl
theorem MF.tr {a : Nat} {r : Nat → Nat} {σ σ1 σ2 : Hp} (h1 : MF a r σ σ1) (h2 : MF a r σ1 σ2) : MF a r σ σ2 := fun x hx hk => (h2 x hx hk).trans (h1 x hx hk)
section ModelState
variable {G : Gl} {κ : Kx} {cs ss pc : Nat} {L : List (Option LV)} {st : List Value} {σ : Hp} {a : Nat} {r : Nat → Nat} {z : Nat → Int32} {A : Nat → Nat → Int32} {rw : Nat}
theorem MS.o (h : MS G σ a r z A rw) : σ a = some (.inr (10, mFs r z (r rw))) := h.1
theorem MS.arr (h : MS G σ a r z A rw) (k : Nat) (hk : mArr k) : σ (r k) = some (eI G (mLen k) (A k)) := h.2.2.1 k hk
theorem MS.rwA (h : MS G σ a r z A rw) : mArr rw := by rcases h.2.1 with h | h <;> (rw [h]; exact Or.inl (by decide))
theorem MS.rwL (h : MS G σ a r z A rw) : mLen rw = 184 := by rcases h.2.1 with h | h <;> (rw [h]; rfl)
theorem MS.setz (h : MS G σ a r z A rw) (z1 : Nat → Int32) (rw1 : Nat) (hrw : rw1 = 0 ∨ rw1 = 1) : MS G (hset σ a (.inr (10, mFs r z1 (r rw1)))) a r z1 A rw1 ∧ MF a r σ (hset σ a (.inr (10, mFs r z1 (r rw1)))) := by
  obtain ⟨h1, h2, h3, ⟨g, h4, h5⟩, h6, h7⟩ := h
  refine ⟨⟨hset_same _ _ _, hrw, fun k hk => ?_, ⟨g, ?_, h5⟩, h6, h7⟩, fun x hx _ => hset_ne hx⟩
  · rw [hset_ne (h7 k (Or.inl hk))]; exact h3 k hk
  · rw [hset_ne (h7 26 (Or.inr rfl))]; exact h4
theorem MS.setA (h : MS G σ a r z A rw) (k : Nat) (hk : mArr k) (f : Nat → Int32) : MS G (hset σ (r k) (eI G (mLen k) f)) a r z (updA A k f) rw ∧ MF a r σ (hset σ (r k) (eI G (mLen k) f)) := by
  obtain ⟨h1, h2, h3, ⟨g, h4, h5⟩, h6, h7⟩ := h
  have hn : mArr k → k ≠ 26 := fun h e => by subst e; rcases h with h | h | h | h <;> omega
  refine ⟨⟨?_, h2, fun j hj => ?_, ⟨g, ?_, h5⟩, h6, h7⟩, fun x _ hx => hset_ne (hx k hk)⟩
  · rw [hset_ne (Ne.symm (h7 k (Or.inl hk)))]; exact h1
  · by_cases e : j = k
    · subst e; rw [hset_same, updA_same]
    · rw [hset_ne (fun c => e (h6 j k (Or.inl hj) (Or.inl hk) c)), updA_ne e]; exact h3 j hj
  · rw [hset_ne (fun c => hn hk (h6 k 26 (Or.inl hk) (Or.inr rfl) c.symm))]; exact h4
/-- a number of the object is written -/
theorem ms_z (h : MS G σ a r z A rw) {fs : List Value} (z1 : Nat → Int32) (hfs : fs = mFs r z1 (r rw)) (kk : ∀ σ1 : Hp, MS G σ1 a r z1 A rw → MF a r σ σ1 → AW G κ cs ss pc L st σ1) : AW G κ cs ss pc L st (hset σ a (.inr (10, fs))) := by
  subst hfs
  exact kk _ (h.setz z1 rw h.2.1).1 (h.setz z1 rw h.2.1).2
theorem ms_A (h : MS G σ a r z A rw) (k : Nat) (hk : mArr k) {n : Nat} {f : Nat → Int32} (hn : n = mLen k) (kk : ∀ σ1 : Hp, MS G σ1 a r z (updA A k f) rw → MF a r σ σ1 → AW G κ cs ss pc L st σ1) : AW G κ cs ss pc L st (hset σ (r k) (eI G n f)) := by
  subst hn
  exact kk _ (h.setA k hk f).1 (h.setA k hk f).2
/-- the view of the row and of 'heard' -/
def MV (G : Gl) (σ : Hp) (a : Nat) (r : Nat → Nat) (z : Nat → Int32) (A : Nat → Nat → Int32) (rw : Nat) (ρ η : Nat → Int32) : Prop := MS G σ a r z (updA (updA A rw ρ) 6 η) rw
variable {ρ η : Nat → Int32}
theorem MV.ne (h : MV G σ a r z A rw ρ η) : rw ≠ 6 := by rcases h.2.1 with h | h <;> (rw [h]; decide)
theorem MV.o (h : MV G σ a r z A rw ρ η) : σ a = some (.inr (10, mFs r z (r rw))) := h.1
theorem MV.row (h : MV G σ a r z A rw ρ η) : σ (r rw) = some (eI G 184 ρ) := by
  have h1 := MS.arr h rw (MS.rwA h)
  rw [MS.rwL h, updA_ne h.ne, updA_same] at h1
  exact h1
theorem MV.heard (h : MV G σ a r z A rw ρ η) : σ (r 6) = some (eI G 6 η) := by
  have h1 := MS.arr h 6 (Or.inl (by decide))
  rw [updA_same] at h1
  exact h1
theorem MV.of (h : MS G σ a r z A rw) : MV G σ a r z A rw (A rw) (A 6) := by
  unfold MV
  rw [updA_id, updA_id]
  exact h
theorem mv_row (h : MV G σ a r z A rw ρ η) {f : Nat → Int32} (kk : ∀ σ1 : Hp, MV G σ1 a r z A rw f η → MF a r σ σ1 → AW G κ cs ss pc L st σ1) : AW G κ cs ss pc L st (hset σ (r rw) (eI G 184 f)) := by
  refine ms_A h rw (MS.rwA h) (MS.rwL h).symm (fun σ1 h1 h2 => kk σ1 ?_ h2)
  unfold MV
  rw [updA_comm _ _ _ (Ne.symm h.ne), updA_updA] at h1
  exact h1
theorem mv_heard (h : MV G σ a r z A rw ρ η) {f : Nat → Int32} (kk : ∀ σ1 : Hp, MV G σ1 a r z A rw ρ f → MF a r σ σ1 → AW G κ cs ss pc L st σ1) : AW G κ cs ss pc L st (hset σ (r 6) (eI G 6 f)) := by
  refine ms_A h 6 (Or.inl (by decide)) rfl (fun σ1 h1 h2 => kk σ1 ?_ h2)
  unfold MV
  rw [updA_updA] at h1
  exact h1
theorem mv_z (h : MV G σ a r z A rw ρ η) {fs : List Value} (z1 : Nat → Int32) (hfs : fs = mFs r z1 (r rw)) (kk : ∀ σ1 : Hp, MV G σ1 a r z1 A rw ρ η → MF a r σ σ1 → AW G κ cs ss pc L st σ1) : AW G κ cs ss pc L st (hset σ a (.inr (10, fs))) := ms_z h z1 hfs kk
end ModelState
