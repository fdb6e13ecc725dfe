/-! the class's parser: commands, their chains -/
/-- a command's kind, numbers, what is inside, what is next -/
abbrev Dt : Type := Nat × Int32 × Int32 × Int32 × Option Nat × Option Nat
abbrev cmV (G : Gl) (D : Dt) : List Value := [.ref (gE G D.1), .int D.2.1, .int D.2.2.1, .int D.2.2.2.1, va_rf D.2.2.2.2.1, va_rf D.2.2.2.2.2]
/-- a command tells what order i is -/
def dOk (D : Dt) (O : Nat → Int32) (i : Nat) : Prop := D.1 < 8 ∧ O (4 * i + 0) = nI D.1 ∧ O (4 * i + 1) = D.2.1 ∧ (D.1 < 7 → O (4 * i + 2) = D.2.2.1 ∧ O (4 * i + 3) = D.2.2.2.1)
theorem dOk.cg {D : Dt} {O O1 : Nat → Int32} {i : Nat} (h : dOk D O i) (e : ∀ w, w < 4 → O1 (4 * i + w) = O (4 * i + w)) : dOk D O1 i := by
  unfold dOk
  rw [e 0 (by decide), e 1 (by decide), e 2 (by decide), e 3 (by decide)]
  exact h
/-! the reading's loop, as the class has it: on while words come -/
