/-! the reference's methods that tell -/
def rIn (x lo hi : Int32) : Bool := decide (lo ≤ x) && decide (x ≤ hi)
abbrev rIsT (ρ : Nat → Int32) (x : Int32) : Bool := rIn x 0 (ρ 3 - 1)
abbrev rIsS (ρ : Nat → Int32) (x : Int32) : Bool := rIn x 0 (ρ 1 - 1)
abbrev rIsP (ρ : Nat → Int32) (x : Int32) : Bool := rIn x 0 (ρ 6 - 1)
theorem rIn_lo {x lo hi : Int32} (h : x < lo) : rIn x lo hi = false := by
  unfold rIn
  rw [decide_eq_false (Int32.not_le.mpr h), Bool.false_and]
theorem rIn_hi {x lo hi : Int32} (h : hi < x) : rIn x lo hi = false := by
  unfold rIn
  rw [decide_eq_false (Int32.not_le.mpr h), Bool.and_false]
theorem rIn_in {x lo hi : Int32} (h1 : ¬ x < lo) (h2 : ¬ hi < x) : rIn x lo hi = true := by
  unfold rIn
  rw [decide_eq_true (Int32.not_lt.mp h1), decide_eq_true (Int32.not_lt.mp h2)]
  rfl
theorem rIn_t {x lo hi : Int32} (h : rIn x lo hi = true) : lo ≤ x ∧ x ≤ hi := by
  unfold rIn at h
  rw [Bool.and_eq_true] at h
  exact ⟨of_decide_eq_true h.1, of_decide_eq_true h.2⟩
theorem rIn_nI {x : Int32} {n : Nat} (hn : n < 2 ^ 30) (h : rIn x 0 (nI n - 1) = true) : ∃ k, k < n ∧ x = nI k := by
  obtain ⟨h1, h2⟩ := rIn_t h
  rcases Nat.eq_zero_or_pos n with e | e
  · subst e
    exact absurd (Int32.le_trans h1 h2) (by decide)
  · have e1 : nI n - 1 = nI (n - 1) := pk_sub (b := 1) e
    rw [e1] at h2
    obtain ⟨j, hj, hx⟩ := nI_of2 (nI_toInt (by omega)) (Int32.not_lt.mpr h1) h2
    exact ⟨j, by omega, hx⟩
theorem rIn_ok {x : Int32} {k n : Nat} (hn : n < 2 ^ 30) (hk : k < n) (hx : x = nI k) : rIn x 0 (nI n - 1) = true := by
  have e1 : nI n - 1 = nI (n - 1) := pk_sub (b := 1) (by omega)
  rw [e1, hx]
  exact rIn_in (nI_pos (by omega)) (Int32.not_lt.mpr (nI_le (by omega) (by omega)))
theorem bN_0 {b : Bool} (h : bI (!b) = 0) : b = true := by cases b with | true => rfl | false => exact absurd h (by decide)
theorem bN_n {b : Bool} (h : ¬ bI (!b) = 0) : b = false := by cases b with | false => rfl | true => exact absurd rfl h
def rTold (ρ : Nat → Int32) (x : Int32) (w : Nat) : Int32 := if rIsT ρ x = true then ρ (58 + 15 * x.toNatClampNeg + w) else 0
def rFlag (ρ : Nat → Int32) (b : Nat) (x : Int32) : Bool := rIsS ρ x && (ρ (b + x.toNatClampNeg) == 1)
def rInS (ρ : Nat → Int32) (n : Nat) (x : Int32) : Int32 := if rIsS ρ x = true then oI (rFirst ρ n 3 x) else 0
def rCnt (ρ : Nat → Int32) (b s : Nat) : Int32 := sumN (fun j => ρ (b + j)) s
def rSum (ρ : Nat → Int32) (w n : Nat) : Int32 := sumN (fun k => ρ (58 + 15 * k + w)) n
def rFast (ρ : Nat → Int32) (m : Nat) : Nat := iter (fun b k => if ρ (58 + 15 * b + 5) < ρ (58 + 15 * (k + 1) + 5) then k + 1 else b) 0 m
def rFreeP (ρ : Nat → Int32) (n s j m : Nat) : Bool := (rFirst ρ n 3 (nI ((j + 1 + m) % s))).isSome
def rFree (ρ : Nat → Int32) (n s j : Nat) : Int32 := oI (fsB (rFreeP ρ n s j) s)
def rFreeA (ρ : Nat → Int32) (n s : Nat) (x : Int32) : Int32 := if rIsT ρ x = true then rFree ρ n s (rSec ρ x.toNatClampNeg) else 0
def rToldP (ρ : Nat → Int32) (x : Int32) (w : Nat) : Int32 := if rIsP ρ x = true then ρ (148 + 3 * x.toNatClampNeg + w) else 0
def rIntact (ρ : Nat → Int32) (x : Int32) : Bool := rIsP ρ x && rWhole ρ x.toNatClampNeg
def rForN (ρ : Nat → Int32) (q k : Nat) : Int32 := sumN (fun p => bI (rFor ρ p k)) q
def rPackets (ρ : Nat → Int32) (q : Nat) (x : Int32) : Int32 := if rIsT ρ x = true then rForN ρ q x.toNatClampNeg else 0
abbrev rByte (x : Int32) : Bool := rIn x 0 255
def rAbs (x : Int32) : Int32 := if x < 0 then -x else x
def rPairI (ρ : Nat → Int32) (i j : Nat) : Int32 := sumN (fun j => bI (ρ (58 + 15 * i + 3) == ρ (58 + 15 * j + 3))) j
def rPairs (ρ : Nat → Int32) (n : Nat) : Int32 := sumN (fun i => rPairI ρ i i) n
def rGap (ρ : Nat → Int32) (n : Nat) : Int32 := rAbs (ρ 7 - ρ 8 - ρ 9 - ρ 6) + rPairs ρ n
def rBrk (dist : Bool) (v : Int32) : Nat → Int32 → Int32 → Int32
  | 0, _, acc => acc
  | f + 1, s, acc => if 0 < s then rBrk dist v f (rBraked s v) (acc + (if dist = true then rBraked s v else 1)) else acc
def rBrake (ρ : Nat → Int32) (dist : Bool) (x : Int32) : Int32 := if rIsT ρ x = true then rBrk dist (ρ (58 + 15 * x.toNatClampNeg + 2)) 28 (ρ (58 + 15 * x.toNatClampNeg + 5)) 0 else 0
theorem rBraked_nI {m d : Nat} (hm : m < 2 ^ 30) (hm0 : 0 < m) (hd0 : 0 < d) (hd : d < 2 ^ 30) : ∃ m1, m1 < m ∧ rBraked (nI m) (nI d) = nI m1 := by
  refine ⟨m - (if m / d ≤ 1 then 1 else m / d), ?_, ?_⟩
  · split <;> omega
  · unfold rBraked iMax
    rw [pk_div (by omega) hd0 (by omega)]
    have hq : m / d ≤ m := Nat.div_le_self m d
    by_cases c : m / d ≤ 1
    · rw [if_pos c]
      by_cases c2 : m / d < 1
      · rw [if_pos (show nI (m / d) < (1 : Int32) from nI_lt (b := 1) c2 (by omega))]
        exact pk_sub (b := 1) hm0
      · rw [if_neg (show ¬ nI (m / d) < (1 : Int32) from nI_nlt (b := 1) (by omega) (by omega)), show m / d = 1 by omega]
        exact pk_sub (b := 1) hm0
    · rw [if_neg c, if_neg (show ¬ nI (m / d) < (1 : Int32) from nI_nlt (b := 1) (by omega) (by omega))]
      exact pk_sub hq
section ModelTell
variable {G : Gl} {κ : Kx} {d : Nat} {Q : Option Value → Hp → Prop} {X : String → Hp → Prop} {cs ss : Nat} {σ : Hp} {a : Nat} {r : Nat → Nat} {z : Nat → Int32} {A : Nat → Nat → Int32} {rw : Nat} {ρ η : Nat → Int32}
end ModelTell
