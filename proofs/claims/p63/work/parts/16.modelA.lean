/-! the reference's smallest methods -/
def sumN (f : Nat → Int32) : Nat → Int32
  | 0 => 0
  | n + 1 => sumN f n + f n
def fsB (p : Nat → Bool) : Nat → Option Nat
  | 0 => none
  | n + 1 => match fsB p n with
    | some k => some k
    | none => if p n = true then some n else none
def oI : Option Nat → Int32
  | none => -1
  | some k => nI k
theorem fsB_none (p : Nat → Bool) : ∀ {n : Nat}, (∀ k, k < n → p k = false) → fsB p n = none
  | 0, _ => rfl
  | n + 1, h => by
    rw [fsB, fsB_none p (fun k hk => h k (Nat.lt_succ_of_lt hk))]
    simp [h n (Nat.lt_succ_self n)]
theorem fsB_some (p : Nat → Bool) {i : Nat} (hi : p i = true) (hj : ∀ j, j < i → p j = false) : ∀ {n : Nat}, i < n → fsB p n = some i
  | 0, h => absurd h (Nat.not_lt_zero i)
  | n + 1, h => by
    rw [fsB]
    rcases Nat.lt_or_ge i n with c | c
    · rw [fsB_some p hi hj c]
    · have e : i = n := by omega
      subst e
      rw [fsB_none p hj]
      simp [hi]
theorem fsB_ne (p : Nat → Bool) : ∀ {n : Nat}, fsB p n = none → ∀ j, j < n → p j = false
  | 0, _, j, hj => absurd hj (Nat.not_lt_zero j)
  | n + 1, h, j, hj => by
    rw [fsB] at h
    cases e : fsB p n with
    | some k => rw [e] at h; cases h
    | none =>
      rw [e] at h
      by_cases hp : p n = true
      · simp [hp] at h
      · rcases Nat.lt_or_ge j n with c | c
        · exact fsB_ne p e j c
        · have : j = n := by omega
          subst this
          cases hpj : p j with
          | false => rfl
          | true => exact absurd hpj hp
theorem fsB_lt (p : Nat → Bool) : ∀ {n i : Nat}, fsB p n = some i → i < n ∧ p i = true ∧ ∀ j, j < i → p j = false
  | 0, i, h => by cases h
  | n + 1, i, h => by
    rw [fsB] at h
    cases e : fsB p n with
    | some k =>
      rw [e] at h
      cases h
      obtain ⟨h1, h2, h3⟩ := fsB_lt p e
      exact ⟨Nat.lt_succ_of_lt h1, h2, h3⟩
    | none =>
      rw [e] at h
      by_cases hp : p n = true
      · simp only [hp, if_true, Option.some.injEq] at h
        subst h
        exact ⟨Nat.lt_succ_self _, hp, fsB_ne p e⟩
      · simp [hp] at h
theorem lp_in {x y : Int32} {i n : Nat} (hx : x = nI i) (hy : y = nI n) (hi : i < n) (hn : n < 2 ^ 31) : ¬ y ≤ x := by subst hx; subst hy; exact nI_ge hi hn
theorem lp_out {x y : Int32} {i n : Nat} (hx : x = nI i) (hy : y = nI n) (hi : n ≤ i) (hn : i < 2 ^ 31) : y ≤ x := by subst hx; subst hy; exact nI_le hi hn
theorem lp_1 {x : Int32} {i : Nat} (hx : x = nI i) : x + 1 = nI (i + 1) := by subst hx; exact nI_1 i
section ModelSmall
variable {G : Gl} {κ : Kx} {d : Nat} {Q : Option Value → Hp → Prop} {X : String → Hp → Prop} {cs ss : Nat} {σ : Hp} {a : Nat} {r : Nat → Nat} {z : Nat → Int32} {A : Nat → Nat → Int32} {rw : Nat} {ρ η : Nat → Int32}
end ModelSmall
