/-! the reference: output, undo, snapshots, text input -/
def rSign (ρ : Nat → Int32) (n j : Nat) : Int32 := match rFirst ρ n 3 (nI j) with
  | some k => 48 + nI k
  | none => if ρ (34 + j) = 1 then 33 else if ρ (10 + j) = 1 then 110 else 45
def rOut (ρ out : Nat → Int32) (n i : Nat) : Nat → Int32 := fun j => if j < i then rSign ρ n j else out j
def hRow (H : Nat → Int32) (i : Nat) : Nat → Int32 := fun j => H (184 * i + j)
section ModelRest
variable {G : Gl} {κ : Kx} {d : Nat} {Q : Option Value → Hp → Prop} {X : String → Hp → Prop} {cs ss : Nat} {σ : Hp} {a : Nat} {r : Nat → Nat} {z : Nat → Int32} {A B : Nat → Nat → Int32} {rw : Nat} {ρ η : Nat → Int32}
def wByte (x y v u w : Int32) (k : Nat) : Int32 := (if k < 4 then x else if k < 8 then y else if k < 12 then v else if k < 16 then u else w) >>> nI (24 - 8 * (k % 4)) &&& 255
def bApp (buf : Nat → Int32) (l : Nat) (x y v u w : Int32) (i : Nat) : Nat → Int32 := fun j => if l ≤ j ∧ j < l + i then wByte x y v u w (j - l) else buf j
end ModelRest
