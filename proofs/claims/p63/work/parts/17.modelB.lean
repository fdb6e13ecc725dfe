/-! the reference's tick -/
def bI (b : Bool) : Int32 := if b = true then 1 else 0
theorem bI_01 (b : Bool) : bI b = 0 ∨ bI b = 1 := by cases b <;> first | exact Or.inl rfl | exact Or.inr rfl
theorem bI_0 {b : Bool} (h : bI b = 0) : b = false := by cases b with | false => rfl | true => exact absurd h (by decide)
theorem bI_n0 {b : Bool} (h : ¬ bI b = 0) : b = true := by cases b with | true => rfl | false => exact absurd rfl h
def iMin (a b : Int32) : Int32 := if a < b then a else b
def iMax (a b : Int32) : Int32 := if b < a then a else b
theorem upd_same (f : Nat → Int32) (k : Nat) (x : Int32) : upd f k x k = x := if_pos rfl
theorem upd_ne {f : Nat → Int32} {k j : Nat} {x : Int32} (h : j ≠ k) : upd f k x j = f j := if_neg h
/-- a row whose numbers that serve as places are in their ranges: n trains, s sections -/
def RW (ρ : Nat → Int32) (n s : Nat) : Prop :=
  ρ 3 = nI n ∧ n ≤ 6 ∧ ρ 1 = nI s ∧ 4 ≤ s ∧ s ≤ 24 ∧ (∀ k, k < n → ∃ j, j < s ∧ ρ (58 + 15 * k + 3) = nI j) ∧ (∀ k, k < n → ¬ ρ (58 + 15 * k + 2) = 0)
theorem RW.put {ρ : Nat → Int32} {n s : Nat} (h : RW ρ n s) {i : Nat} {v : Int32} (h1 : i ≠ 1) (h3 : i ≠ 3) (ht : ∀ k, k < 6 → i ≠ 58 + 15 * k + 3 ∧ i ≠ 58 + 15 * k + 2) : RW (upd ρ i v) n s := by
  obtain ⟨a1, a2, a3, a4, a5, a6, a7⟩ := h
  refine ⟨by rw [upd_ne (Ne.symm h3)]; exact a1, a2, by rw [upd_ne (Ne.symm h1)]; exact a3, a4, a5, fun k hk => ?_, fun k hk => ?_⟩
  · rw [upd_ne (Ne.symm (ht k (by omega)).1)]; exact a6 k hk
  · rw [upd_ne (Ne.symm (ht k (by omega)).2)]; exact a7 k hk
theorem RW.seg {ρ : Nat → Int32} {n s : Nat} (h : RW ρ n s) {k w : Nat} {v : Int32} (hw : w < 15) (h3 : w ≠ 3) (h2 : w ≠ 2) : RW (upd ρ (58 + 15 * k + w) v) n s := h.put (by omega) (by omega) (fun j hj => by omega)
abbrev rWhole (ρ : Nat → Int32) (p : Nat) : Bool := (ρ (148 + 3 * p + 0) ^^^ ρ (148 + 3 * p + 1)) == ρ (148 + 3 * p + 2)
abbrev rFor (ρ : Nat → Int32) (p k : Nat) : Bool := (ρ (148 + 3 * p + 0) == 0) || (ρ (148 + 3 * p + 0) == ρ (58 + 15 * k + 0))
def rArg (c : Int32) : Int32 := c - c / 64 * 64
def rObey0 (ρ : Nat → Int32) (k : Nat) (c : Int32) : Nat → Int32 :=
  if c / 64 = 0 then upd ρ (58 + 15 * k + 6) (iMin 28 (rArg c))
  else if c / 64 = 1 then upd ρ (58 + 15 * k + 8) (rArg c - rArg c / 16 * 16)
  else if c / 64 = 2 then upd (upd ρ (58 + 15 * k + 5) 0) (58 + 15 * k + 6) 0
  else ρ
def rAdd (ρ : Nat → Int32) (k w : Nat) (v : Int32) : Nat → Int32 := upd ρ (58 + 15 * k + w) (ρ (58 + 15 * k + w) + v)
def rObey (ρ : Nat → Int32) (k : Nat) (c : Int32) : Nat → Int32 := rAdd (rObey0 ρ k c) k 11 1
def rSec (ρ : Nat → Int32) (k : Nat) : Nat := (ρ (58 + 15 * k + 3)).toNatClampNeg
def rRecv (ρ : Nat → Int32) (k : Nat) : Nat → Int32 :=
  if ρ (10 + rSec ρ k) = 1 then rAdd ρ k 13 1 else if rWhole ρ 0 = true then rObey ρ k (ρ 149) else rAdd ρ k 12 1
def rRecvH (ρ η : Nat → Int32) (k : Nat) : Nat → Int32 :=
  if ρ (10 + rSec ρ k) = 1 then η else if rWhole ρ 0 = true then upd η k 1 else η
def rRecvIf (p : (Nat → Int32) × (Nat → Int32)) (k : Nat) : (Nat → Int32) × (Nat → Int32) := if rFor p.1 0 k = true then (rRecv p.1 k, rRecvH p.1 p.2 k) else p
def iter {α : Type} (f : α → Nat → α) (x : α) : Nat → α
  | 0 => x
  | n + 1 => f (iter f x n) n
def rSend (p : (Nat → Int32) × (Nat → Int32)) (n : Nat) : (Nat → Int32) × (Nat → Int32) := iter rRecvIf p n
def rShift (ρ : Nat → Int32) (q : Nat) : Nat → Int32 := upd (va_cpy (upd ρ 6 (nI q)) (upd ρ 6 (nI q)) 151 148 (3 * q)) 8 (va_cpy (upd ρ 6 (nI q)) (upd ρ 6 (nI q)) 151 148 (3 * q) 8 + 1)
def rListen (ρ η : Nat → Int32) (k : Nat) : Nat → Int32 :=
  if 40 ≤ (if η k = 1 then 0 else ρ (58 + 15 * k + 9) + 1) then upd (upd ρ (58 + 15 * k + 9) (if η k = 1 then 0 else ρ (58 + 15 * k + 9) + 1)) (58 + 15 * k + 6) 0
  else upd ρ (58 + 15 * k + 9) (if η k = 1 then 0 else ρ (58 + 15 * k + 9) + 1)
def rBraked (s v : Int32) : Int32 := s - iMax 1 (s / v)
def rNewSpeed (p s t acc v : Int32) : Int32 := if ¬ p = 0 then iMax 0 (s - 5) else if s < t then iMin t (s + acc) else if t < s then iMax t (rBraked s v) else s
def rSpeed (ρ : Nat → Int32) (k : Nat) : Nat → Int32 := upd ρ (58 + 15 * k + 5) (rNewSpeed (ρ 4) (ρ (58 + 15 * k + 5)) (ρ (58 + 15 * k + 6)) (ρ (58 + 15 * k + 1)) (ρ (58 + 15 * k + 2)))
def rDimS (t : Int32) : Int32 := if 0 < t then 1 else if t < 0 then -1 else 0
def rDim (ρ : Nat → Int32) (k : Nat) : Nat → Int32 := upd ρ (58 + 15 * k + 7) (if ρ 4 = 0 then ρ (58 + 15 * k + 7) + rDimS (ρ (58 + 15 * k + 8) - ρ (58 + 15 * k + 7)) else 0)
def rFirst (ρ : Nat → Int32) (n w : Nat) (v : Int32) : Option Nat := fsB (fun k => ρ (58 + 15 * k + w) == v) n
def rMove (n s : Nat) (ρ : Nat → Int32) (k : Nat) : Nat → Int32 :=
  if ρ (58 + 15 * k + 4) + ρ (58 + 15 * k + 5) < 100 then upd ρ (58 + 15 * k + 4) (ρ (58 + 15 * k + 4) + ρ (58 + 15 * k + 5))
  else if rFirst ρ n 3 (nI ((rSec ρ k + 1) % s)) = none then rAdd (upd (upd (upd ρ (58 + 15 * k + 4) (ρ (58 + 15 * k + 4) + ρ (58 + 15 * k + 5))) (58 + 15 * k + 3) (nI ((rSec ρ k + 1) % s))) (58 + 15 * k + 4) (ρ (58 + 15 * k + 4) + ρ (58 + 15 * k + 5) - 100)) k 10 1
  else rAdd (upd (upd (upd ρ (58 + 15 * k + 4) (ρ (58 + 15 * k + 4) + ρ (58 + 15 * k + 5))) (58 + 15 * k + 4) 99) (58 + 15 * k + 5) 0) k 14 1
def rShorted (ρ : Nat → Int32) (n : Nat) : Bool := (fsB (fun k => ρ (34 + rSec ρ k) == 1) n).isSome
def rWatch (ρ : Nat → Int32) (n : Nat) : Nat → Int32 :=
  if ¬ ρ 4 = 0 then upd ρ 4 (ρ 4 - 1) else if rShorted ρ n = true then upd (upd ρ 4 (ρ 2)) 5 (ρ 5 + 1) else ρ
theorem iMax_t {a b : Int32} (h : b < a) : iMax a b = a := if_pos h
section ModelTick
variable {G : Gl} {κ : Kx} {d : Nat} {Q : Option Value → Hp → Prop} {X : String → Hp → Prop} {cs ss : Nat} {σ : Hp} {a : Nat} {r : Nat → Nat} {z : Nat → Int32} {A : Nat → Nat → Int32} {rw : Nat} {ρ η : Nat → Int32}
end ModelTick
