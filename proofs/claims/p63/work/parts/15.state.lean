/-! the reference's object, in the layer's words -/
def updA (A : Nat → Nat → Int32) (k : Nat) (f : Nat → Int32) : Nat → Nat → Int32 := fun j => if j = k then f else A j
theorem updA_same (A : Nat → Nat → Int32) (k : Nat) (f : Nat → Int32) : updA A k f k = f := if_pos rfl
theorem updA_ne {A : Nat → Nat → Int32} {k j : Nat} {f : Nat → Int32} (h : j ≠ k) : updA A k f j = A j := if_neg h
/-- the lengths of the reference's arrays, by the field's number -/
def mLen (k : Nat) : Nat := if k < 5 then 184 else if k = 5 then 1472 else if k = 6 then 6 else if k = 13 then 24 else if k = 15 then 500 else 80
def mArr (k : Nat) : Prop := k < 7 ∨ k = 13 ∨ k = 15 ∨ k = 25
/-- what isn't the reference's own stays -/
def MF (a : Nat) (r : Nat → Nat) (σ σ1 : Hp) : Prop := ∀ x, x ≠ a → (∀ k, mArr k → x ≠ r k) → σ1 x = σ x
theorem MF.rf {a : Nat} {r : Nat → Nat} {σ : Hp} : MF a r σ σ := fun _ _ _ => rfl
theorem MF.tr {a : Nat} {r : Nat → Nat} {σ σ1 σ2 : Hp} (h1 : MF a r σ σ1) (h2 : MF a r σ1 σ2) : MF a r σ σ2 := fun x hx hk => (h2 x hx hk).trans (h1 x hx hk)
section ModelState
variable {G : Gl} {κ : Kx} {cs ss pc : Nat} {L : List (Option LV)} {st : List Value} {σ : Hp} {a : Nat} {r : Nat → Nat} {z : Nat → Int32} {A : Nat → Nat → Int32} {rw : Nat}
variable {ρ η : Nat → Int32}
end ModelState
