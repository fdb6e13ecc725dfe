/-! the reference's smallest methods -/
def sumN (f : Nat → Int32) : Nat → Int32
  | 0 => 0
  | n + 1 => sumN f n + f n
def fsB (p : Nat → Bool) : Nat → Option Nat
  | 0 => none
  | n + 1 => match fsB p n with
    | some k => some k
    | none => if p n = true then some n else none
def oI : Option Nat → Int32
  | none => -1
  | some k => nI k
theorem fsB_none (p : Nat → Bool) : ∀ {n : Nat}, (∀ k, k < n → p k = false) → fsB p n = none
  | 0, _ => rfl
  | n + 1, h => by
    rw [fsB, fsB_none p (fun k hk => h k (Nat.lt_succ_of_lt hk))]
    simp [h n (Nat.lt_succ_self n)]
theorem fsB_some (p : Nat → Bool) {i : Nat} (hi : p i = true) (hj : ∀ j, j < i → p j = false) : ∀ {n : Nat}, i < n → fsB p n = some i
  | 0, h => absurd h (Nat.not_lt_zero i)
  | n + 1, h => by
    rw [fsB]
    rcases Nat.lt_or_ge i n with c | c
    · rw [fsB_some p hi hj c]
    · have e : i = n := by omega
      subst e
      rw [fsB_none p hj]
      simp [hi]
theorem fsB_ne (p : Nat → Bool) : ∀ {n : Nat}, fsB p n = none → ∀ j, j < n → p j = false
  | 0, _, j, hj => absurd hj (Nat.not_lt_zero j)
  | n + 1, h, j, hj => by
    rw [fsB] at h
    cases e : fsB p n with
    | some k => rw [e] at h; cases h
    | none =>
      rw [e] at h
      by_cases hp : p n = true
      · simp [hp] at h
      · rcases Nat.lt_or_ge j n with c | c
        · exact fsB_ne p e j c
        · have : j = n := by omega
          subst this
          cases hpj : p j with
          | false => rfl
          | true => exact absurd hpj hp
theorem fsB_lt (p : Nat → Bool) : ∀ {n i : Nat}, fsB p n = some i → i < n ∧ p i = true ∧ ∀ j, j < i → p j = false
  | 0, i, h => by cases h
  | n + 1, i, h => by
    rw [fsB] at h
    cases e : fsB p n with
    | some k =>
      rw [e] at h
      cases h
      obtain ⟨h1, h2, h3⟩ := fsB_lt p e
      exact ⟨Nat.lt_succ_of_lt h1, h2, h3⟩
    | none =>
      rw [e] at h
      by_cases hp : p n = true
      · simp only [hp, if_true, Option.some.injEq] at h
        subst h
        exact ⟨Nat.lt_succ_self _, hp, fsB_ne p e⟩
      · simp [hp] at h
theorem lp_in {x y : Int32} {i n : Nat} (hx : x = nI i) (hy : y = nI n) (hi : i < n) (hn : n < 2 ^ 31) : ¬ y ≤ x := by subst hx; subst hy; exact nI_ge hi hn
theorem lp_out {x y : Int32} {i n : Nat} (hx : x = nI i) (hy : y = nI n) (hi : n ≤ i) (hn : i < 2 ^ 31) : y ≤ x := by subst hx; subst hy; exact nI_le hi hn
theorem lp_1 {x : Int32} {i : Nat} (hx : x = nI i) : x + 1 = nI (i + 1) := by subst hx; exact nI_1 i
theorem ixT {x y : Int32} {k w : Nat} (hx : x = nI k) (hy : y = nI w) : (58 : Int32) + 15 * x + y = nI (58 + 15 * k + w) := by
  subst hx; subst hy
  simp only [fa_lit, pk_mul, nI_add]
theorem ixP {x y : Int32} {k w : Nat} (hx : x = nI k) (hy : y = nI w) : (148 : Int32) + 3 * x + y = nI (148 + 3 * k + w) := by
  subst hx; subst hy
  simp only [fa_lit, pk_mul, nI_add]
theorem ixS {x y : Int32} {k w : Nat} (hx : x = nI k) (hy : y = nI w) : x + y = nI (k + w) := by
  subst hx; subst hy
  exact nI_add k w
section ModelSmall
variable {G : Gl} {κ : Kx} {d : Nat} {Q : Option Value → Hp → Prop} {X : String → Hp → Prop} {cs ss : Nat} {σ : Hp} {a : Nat} {r : Nat → Nat} {z : Nat → Int32} {A : Nat → Nat → Int32} {rw : Nat} {ρ η : Nat → Int32}
theorem sp_of (hΓ : Ok G κ mX13_of (d + 0) Q X) (h : MV G σ a r z A rw ρ η) {x y : Int32} {k w : Nat} (hx : x = nI k) (hy : y = nI w) (hk : k < 6) (hw : w < 15) (hq : Q (some (.int (ρ (58 + 15 * k + w)))) σ) : AW G κ cs ss 0 [lR a, lI x, lI y] [] σ := by
  refine sX13_of_0 hΓ rfl ?_
  refine sX13_of_1 hΓ h.o rfl ?_
  refine sX13_of_4 hΓ ?_
  refine sX13_of_6 hΓ ?_
  refine sX13_of_8 hΓ rfl ?_
  refine sX13_of_9 hΓ ?_
  refine sX13_of_10 hΓ ?_
  refine sX13_of_11 hΓ rfl ?_
  refine sX13_of_12 hΓ ?_
  refine sX13_of_13 hΓ h.row (ixT hx hy) (by omega) (by decide) ?_
  exact sX13_of_14 hΓ hq
theorem sp_lay (hΓ : Ok G κ mX13_lay (d + 0) Q X) (h : MV G σ a r z A rw ρ η) {x y v : Int32} {k w : Nat} (hx : x = nI k) (hy : y = nI w) (hk : k < 6) (hw : w < 15) (hq : ∀ σ1 : Hp, MV G σ1 a r z A rw (upd ρ (58 + 15 * k + w) v) η → MF a r σ σ1 → Q none σ1) : AW G κ cs ss 0 [lR a, lI x, lI y, lI v] [] σ := by
  refine sX13_lay_0 hΓ rfl ?_
  refine sX13_lay_1 hΓ h.o rfl ?_
  refine sX13_lay_4 hΓ ?_
  refine sX13_lay_6 hΓ ?_
  refine sX13_lay_8 hΓ rfl ?_
  refine sX13_lay_9 hΓ ?_
  refine sX13_lay_10 hΓ ?_
  refine sX13_lay_11 hΓ rfl ?_
  refine sX13_lay_12 hΓ ?_
  refine sX13_lay_13 hΓ rfl ?_
  refine sX13_lay_14 hΓ h.row (ixT hx hy) (by omega) (by decide) (mv_row h (fun σ1 h1 f1 => ?_))
  exact sX13_lay_15 hΓ (hq _ h1 f1)
theorem sp_add (hΓ : Ok G κ mX13_add (d + 1) Q X) (h : MV G σ a r z A rw ρ η) {x y v : Int32} {k w : Nat} (hx : x = nI k) (hy : y = nI w) (hk : k < 6) (hw : w < 15) (hq : ∀ σ1 : Hp, MV G σ1 a r z A rw (upd ρ (58 + 15 * k + w) (ρ (58 + 15 * k + w) + v)) η → MF a r σ σ1 → Q none σ1) : AW G κ cs ss 0 [lR a, lI x, lI y, lI v] [] σ := by
  refine sX13_add_0 hΓ rfl ?_
  refine sX13_add_1 hΓ rfl ?_
  refine sX13_add_2 hΓ rfl ?_
  refine sX13_add_3 hΓ rfl ?_
  refine sX13_add_4 hΓ rfl ?_
  refine sX13_add_5 hΓ rfl ?_
  refine sX13_add_6 hΓ 0 0 (Nat.le_of_ble_eq_true rfl) h.o (fun κ_6 hΓ_6 => sp_of hΓ_6 h hx hy hk hw ?_)
  show AW G κ _ _ 9 _ _ _
  refine sX13_add_9 hΓ rfl ?_
  refine sX13_add_10 hΓ ?_
  refine sX13_add_11 hΓ 0 0 (Nat.le_of_ble_eq_true rfl) h.o (fun κ_11 hΓ_11 => sp_lay hΓ_11 h hx hy hk hw (fun σ1 h1 f1 => ?_))
  show AW G κ _ _ 14 _ _ _
  exact sX13_add_14 hΓ (hq _ h1 f1)
theorem sp_ofPacket (hΓ : Ok G κ mX13_ofPacket (d + 0) Q X) (h : MV G σ a r z A rw ρ η) {x y : Int32} {k w : Nat} (hx : x = nI k) (hy : y = nI w) (hk : k < 12) (hw : w < 3) (hq : Q (some (.int (ρ (148 + 3 * k + w)))) σ) : AW G κ cs ss 0 [lR a, lI x, lI y] [] σ := by
  refine sX13_ofPacket_0 hΓ rfl ?_
  refine sX13_ofPacket_1 hΓ h.o rfl ?_
  refine sX13_ofPacket_4 hΓ ?_
  refine sX13_ofPacket_7 hΓ ?_
  refine sX13_ofPacket_8 hΓ rfl ?_
  refine sX13_ofPacket_9 hΓ ?_
  refine sX13_ofPacket_10 hΓ ?_
  refine sX13_ofPacket_11 hΓ rfl ?_
  refine sX13_ofPacket_12 hΓ ?_
  refine sX13_ofPacket_13 hΓ h.row (ixP hx hy) (by omega) (by decide) ?_
  exact sX13_ofPacket_14 hΓ hq
theorem sp_hasPower (hΓ : Ok G κ mX13_hasPower (d + 0) Q X) (h : MV G σ a r z A rw ρ η) (h1 : ρ 4 = 0 → Q (some (.int 1)) σ) (h0 : ¬ ρ 4 = 0 → Q (some (.int 0)) σ) : AW G κ cs ss 0 [lR a] [] σ := by
  refine sX13_hasPower_0 hΓ rfl ?_
  refine sX13_hasPower_1 hΓ h.o rfl ?_
  refine sX13_hasPower_4 hΓ ?_
  refine sX13_hasPower_5 hΓ h.row (j := 4) rfl (by decide) (by decide) ?_
  refine sX13_hasPower_6 hΓ (fun c6 => ?_) (fun c6 => ?_)
  · have hr := h0 c6
    refine sX13_hasPower_13 hΓ ?_
    exact sX13_hasPower_14 hΓ (by first | exact Or.inl rfl | exact Or.inr rfl) hr
  · have hr := h1 c6
    refine sX13_hasPower_9 hΓ ?_
    refine sX13_hasPower_10 hΓ ?_
    exact sX13_hasPower_14 hΓ (by first | exact Or.inl rfl | exact Or.inr rfl) hr
theorem sp_behind (hΓ : Ok G κ mX13_behind (d + 0) Q X) (h : MV G σ a r z A rw ρ η) {x : Int32} {s j : Nat} (hs : ρ 1 = nI s) (hs4 : 4 ≤ s) (hs24 : s ≤ 24) (hx : x = nI j) (hj : j < 24) (hq : Q (some (.int (nI ((j + 1) % s)))) σ) : AW G κ cs ss 0 [lR a, lI x] [] σ := by
  refine sX13_behind_0 hΓ rfl ?_
  refine sX13_behind_1 hΓ ?_
  refine sX13_behind_2 hΓ ?_
  refine sX13_behind_3 hΓ rfl ?_
  refine sX13_behind_4 hΓ h.o rfl ?_
  refine sX13_behind_7 hΓ ?_
  refine sX13_behind_8 hΓ h.row (j := 1) rfl (by decide) (by decide) ?_
  refine sX13_behind_9 hΓ (by rw [hs]; exact nI_ne0 (by omega) (by omega)) ?_
  exact sX13_behind_10 hΓ (by rw [hs, hx, nI_1, pk_rem (by omega) (by omega) (by omega)]; exact hq)
theorem sp_first (hΓ : Ok G κ mX13_first (d + 1) Q X) (h : MV G σ a r z A rw ρ η) {y v : Int32} {w n : Nat} (hn : ρ 3 = nI n) (hn6 : n ≤ 6) (hy : y = nI w) (hw : w < 15) (hq : Q (some (.int (oI (fsB (fun k => ρ (58 + 15 * k + w) == v) n)))) σ) : AW G κ cs ss 0 [lR a, lI y, lI v, none] [] σ := by
  suffices loop : ∀ (m i : Nat) (x : Int32), i + m = n → x = nI i → (∀ j, j < i → (ρ (58 + 15 * j + w) == v) = false) → AW G κ cs ss 2 [lR a, lI y, lI v, lI x] [] σ by
    refine sX13_first_0 hΓ ?_
    refine sX13_first_1 hΓ ?_
    exact loop n 0 _ (Nat.zero_add n) rfl (fun j hj => absurd hj (Nat.not_lt_zero j))
  intro m
  induction m with
  | zero =>
    intro i x hi hx hp
    refine sX13_first_2 hΓ rfl ?_
    refine sX13_first_3 hΓ rfl ?_
    refine sX13_first_4 hΓ h.o rfl ?_
    refine sX13_first_7 hΓ ?_
    refine sX13_first_8 hΓ h.row (j := 3) rfl (by decide) (by decide) ?_
    refine sX13_first_9 hΓ (fun c9 => ?_) (fun c9 => absurd (lp_out hx hn (by omega) (by omega)) c9)
    refine sX13_first_30 hΓ ?_
    exact sX13_first_31 hΓ (by rw [fsB_none _ (fun j hj => hp j (by omega))] at hq; exact hq)
  | succ m ih =>
    intro i x hi hx hp
    refine sX13_first_2 hΓ rfl ?_
    refine sX13_first_3 hΓ rfl ?_
    refine sX13_first_4 hΓ h.o rfl ?_
    refine sX13_first_7 hΓ ?_
    refine sX13_first_8 hΓ h.row (j := 3) rfl (by decide) (by decide) ?_
    refine sX13_first_9 hΓ (fun c9 => absurd c9 (lp_in hx hn (by omega) (by omega))) (fun c9 => ?_)
    refine sX13_first_12 hΓ rfl ?_
    refine sX13_first_13 hΓ rfl ?_
    refine sX13_first_14 hΓ rfl ?_
    refine sX13_first_15 hΓ 0 0 (Nat.le_of_ble_eq_true rfl) h.o (fun κ_15 hΓ_15 => sp_of hΓ_15 h hx hy (by omega) hw ?_)
    show AW G κ _ _ 18 _ _ _
    refine sX13_first_18 hΓ rfl ?_
    refine sX13_first_19 hΓ (fun c19 => ?_) (fun c19 => ?_)
    · refine sX13_first_24 hΓ rfl ?_
      refine sX13_first_27 hΓ ?_
      exact ih (i + 1) _ (by omega) (lp_1 hx) (fun j hj => (Nat.lt_succ_iff_lt_or_eq.mp hj).elim (hp j) (fun e => by rw [e]; exact beq_eq_false_iff_ne.mpr c19))
    · refine sX13_first_22 hΓ rfl ?_
      exact sX13_first_23 hΓ (by rw [fsB_some (i := i) _ (by rw [c19]; exact beq_self_eq_true v) hp (by omega)] at hq; rw [hx]; exact hq)
end ModelSmall
