/-! one tick, train by train (numbers alone) -/
abbrev tf (ρ : Nat → Int32) (k w : Nat) : Int32 := ρ (58 + 15 * k + w)
/-- the moves' own fields -/
def mvF (w : Nat) : Prop := w = 3 ∨ w = 4 ∨ w = 5 ∨ w = 10 ∨ w = 14
theorem mv_out {ρ : Nat → Int32} {n s k x : Nat} (h : ∀ w, mvF w → x ≠ 58 + 15 * k + w) : rMove n s ρ k x = ρ x := by
  have h3 := h 3 (Or.inl rfl)
  have h4 := h 4 (Or.inr (Or.inl rfl))
  have h5 := h 5 (Or.inr (Or.inr (Or.inl rfl)))
  have h10 := h 10 (Or.inr (Or.inr (Or.inr (Or.inl rfl))))
  have h14 := h 14 (Or.inr (Or.inr (Or.inr (Or.inr rfl))))
  unfold rMove
  split
  · exact upd_ne h4
  · split
    · unfold rAdd; rw [upd_ne h10, upd_ne h4, upd_ne h3, upd_ne h4]
    · unfold rAdd; rw [upd_ne h14, upd_ne h5, upd_ne h4, upd_ne h4]
/-- what a row of moving trains keeps -/
def MI (ρ : Nat → Int32) (n s : Nat) : Prop :=
  RW ρ n s ∧ (∀ i j, i < n → j < n → tf ρ i 3 = tf ρ j 3 → i = j) ∧ ∀ k, k < n → (∃ a, a ≤ 99 ∧ tf ρ k 4 = nI a) ∧ ∃ v, v ≤ 28 ∧ tf ρ k 5 = nI v
theorem RW.at3 {ρ : Nat → Int32} {n s k : Nat} (h : RW ρ n s) (hk : k < n) : rSec ρ k < s ∧ tf ρ k 3 = nI (rSec ρ k) := by
  obtain ⟨j, hj, e⟩ := h.2.2.2.2.2.1 k hk
  have := h.2.2.2.2.1
  have e2 : rSec ρ k = j := by unfold rSec; rw [e]; exact nI_clamp (by omega)
  rw [e2]
  exact ⟨hj, e⟩
theorem fst_none {ρ : Nat → Int32} {n w : Nat} {v : Int32} (h : rFirst ρ n w v = none) : ∀ k, k < n → ¬ tf ρ k w = v := by
  unfold rFirst at h
  have key : ∀ (p : Nat → Bool) (m : Nat), fsB p m = none → ∀ k, k < m → p k = false := by
    intro p m
    induction m with
    | zero => intro _ k hk; omega
    | succ m ih =>
      intro hm k hk
      unfold fsB at hm
      cases hp : fsB p m with
      | some q => rw [hp] at hm; cases hm
      | none =>
        rw [hp] at hm
        by_cases e : p m = true
        · simp [e] at hm
        · by_cases ek : k = m
          · rw [ek]; exact Bool.eq_false_iff.mpr e
          · exact ih hp k (by omega)
  intro k hk e
  have h1 := key _ n h k hk
  have h2 : (ρ (58 + 15 * k + w) == v) = true := by
    rw [show ρ (58 + 15 * k + w) = v from e]
    exact beq_self_eq_true v
  exact absurd (h2.symm.trans h1) (by decide)
/-- one train's move -/
theorem MI.move {ρ : Nat → Int32} {n s k : Nat} (h : MI ρ n s) (hk : k < n) : MI (rMove n s ρ k) n s ∧ ∃ δ, δ ≤ 1 ∧ tf (rMove n s ρ k) k 10 = tf ρ k 10 + nI δ ∧ rSec (rMove n s ρ k) k = (rSec ρ k + δ) % s := by
  obtain ⟨hW, hD, hT⟩ := h
  obtain ⟨hs1, hs2⟩ := hW.at3 hk
  obtain ⟨⟨a, ha, ea⟩, v, hv, ev⟩ := hT k hk
  have hW1 : RW (rMove n s ρ k) n s := hW.move
  have hne : ∀ j, j ≠ k → ∀ w, w < 15 → tf (rMove n s ρ k) j w = tf ρ j w := fun j hj w hw => by
    have h9 := congrFun (move_ne (ρ := ρ) (n := n) (s := s) hj) w
    rw [tw_at hw, tw_at hw] at h9
    exact h9
  have hsum : ρ (58 + 15 * k + 4) + ρ (58 + 15 * k + 5) = nI (a + v) := by
    rw [show ρ (58 + 15 * k + 4) = nI a from ea, show ρ (58 + 15 * k + 5) = nI v from ev]
    exact nI_add a v
  have hs4 : 0 < s := by have := hW.2.2.2.1; omega
  by_cases c1 : ρ (58 + 15 * k + 4) + ρ (58 + 15 * k + 5) < 100
  · have e0 : rMove n s ρ k = upd ρ (58 + 15 * k + 4) (ρ (58 + 15 * k + 4) + ρ (58 + 15 * k + 5)) := if_pos c1
    have c2 : a + v < 100 := by
      rw [hsum] at c1
      rcases Nat.lt_or_ge (a + v) 100 with h | h
      · exact h
      · exact absurd c1 (show ¬ nI (a + v) < nI 100 from nI_nlt h (by omega))
    have g : ∀ j w, w ≠ 4 → w < 15 → tf (rMove n s ρ k) j w = tf ρ j w := fun j w hw h15 => by
      rw [e0]; exact upd_ne (by omega)
    refine ⟨⟨hW1, fun i j hi hj e => hD i j hi hj ?_, fun j hj => ?_⟩, 0, by decide, ?_, ?_⟩
    · rw [g i 3 (by decide) (by decide), g j 3 (by decide) (by decide)] at e; exact e
    · by_cases ej : j = k
      · subst ej
        refine ⟨⟨a + v, by omega, ?_⟩, v, hv, ?_⟩
        · rw [e0]; exact (upd_same _ _ _).trans hsum
        · rw [g j 5 (by decide) (by decide)]; exact ev
      · obtain ⟨q1, q2⟩ := hT j hj
        rw [hne j ej 4 (by decide), hne j ej 5 (by decide)]
        exact ⟨q1, q2⟩
    · rw [g k 10 (by decide) (by decide)]; exact (Int32.add_zero _).symm
    · rw [Nat.add_zero, Nat.mod_eq_of_lt hs1]
      unfold rSec
      rw [show rMove n s ρ k (58 + 15 * k + 3) = ρ (58 + 15 * k + 3) from g k 3 (by decide) (by decide)]
  have c2 : 100 ≤ a + v := by
    rcases Nat.lt_or_ge (a + v) 100 with h | h
    · exact absurd (by rw [hsum]; exact nI_lt h (by decide)) c1
    · exact h
  by_cases c3 : rFirst ρ n 3 (nI ((rSec ρ k + 1) % s)) = none
  · have e0 : rMove n s ρ k = rAdd (upd (upd (upd ρ (58 + 15 * k + 4) (ρ (58 + 15 * k + 4) + ρ (58 + 15 * k + 5))) (58 + 15 * k + 3) (nI ((rSec ρ k + 1) % s))) (58 + 15 * k + 4) (ρ (58 + 15 * k + 4) + ρ (58 + 15 * k + 5) - 100)) k 10 1 := (if_neg c1).trans (if_pos c3)
    have hlt : (rSec ρ k + 1) % s < s := Nat.mod_lt _ hs4
    have hs24 := hW.2.2.2.2.1
    have n3 : tf (rMove n s ρ k) k 3 = nI ((rSec ρ k + 1) % s) := by
      rw [e0]; unfold rAdd tf; rw [upd_ne (by omega), upd_ne (by omega), upd_same]
    have n4 : tf (rMove n s ρ k) k 4 = nI (a + v - 100) := by
      rw [e0]; unfold rAdd tf; rw [upd_ne (by omega), upd_same, hsum]; exact pk_sub (b := 100) c2
    have n5 : tf (rMove n s ρ k) k 5 = nI v := by
      rw [e0]; unfold rAdd tf; rw [upd_ne (by omega), upd_ne (by omega), upd_ne (by omega), upd_ne (by omega)]; exact ev
    have n10 : tf (rMove n s ρ k) k 10 = tf ρ k 10 + nI 1 := by
      rw [e0]; unfold rAdd tf; rw [upd_same, upd_ne (by omega), upd_ne (by omega), upd_ne (by omega)]; rfl
    have hfree := fst_none c3
    refine ⟨⟨hW1, fun i j hi hj e => ?_, fun j hj => ?_⟩, 1, Nat.le_refl _, n10, ?_⟩
    · by_cases ei : i = k
      · by_cases ej : j = k
        · rw [ei, ej]
        · rw [ei, n3, hne j ej 3 (by decide)] at e
          exact absurd e.symm (hfree j hj)
      · by_cases ej : j = k
        · rw [ej, n3, hne i ei 3 (by decide)] at e
          exact absurd e (hfree i hi)
        · rw [hne i ei 3 (by decide), hne j ej 3 (by decide)] at e
          exact hD i j hi hj e
    · by_cases ej : j = k
      · subst ej; exact ⟨⟨a + v - 100, by omega, n4⟩, v, hv, n5⟩
      · obtain ⟨q1, q2⟩ := hT j hj
        rw [hne j ej 4 (by decide), hne j ej 5 (by decide)]
        exact ⟨q1, q2⟩
    · unfold rSec
      rw [show rMove n s ρ k (58 + 15 * k + 3) = _ from n3]
      exact nI_clamp (by omega)
  · have e0 : rMove n s ρ k = rAdd (upd (upd (upd ρ (58 + 15 * k + 4) (ρ (58 + 15 * k + 4) + ρ (58 + 15 * k + 5))) (58 + 15 * k + 4) 99) (58 + 15 * k + 5) 0) k 14 1 := (if_neg c1).trans (if_neg c3)
    have g : ∀ j w, w ≠ 4 → w ≠ 5 → w ≠ 14 → w < 15 → tf (rMove n s ρ k) j w = tf ρ j w := fun j w h4 h5 h14 h15 => by
      rw [e0]; unfold rAdd tf; rw [upd_ne (by omega), upd_ne (by omega), upd_ne (by omega), upd_ne (by omega)]
    refine ⟨⟨hW1, fun i j hi hj e => hD i j hi hj ?_, fun j hj => ?_⟩, 0, by decide, ?_, ?_⟩
    · rw [g i 3 (by decide) (by decide) (by decide) (by decide), g j 3 (by decide) (by decide) (by decide) (by decide)] at e; exact e
    · by_cases ej : j = k
      · subst ej
        refine ⟨⟨99, Nat.le_refl _, ?_⟩, 0, by decide, ?_⟩
        · rw [e0]; unfold rAdd tf; rw [upd_ne (by omega), upd_ne (by omega), upd_same]; rfl
        · rw [e0]; unfold rAdd tf; rw [upd_ne (by omega), upd_same]; rfl
      · obtain ⟨q1, q2⟩ := hT j hj
        rw [hne j ej 4 (by decide), hne j ej 5 (by decide)]
        exact ⟨q1, q2⟩
    · rw [g k 10 (by decide) (by decide) (by decide) (by decide)]; exact (Int32.add_zero _).symm
    · rw [Nat.add_zero, Nat.mod_eq_of_lt hs1]
      unfold rSec
      rw [show rMove n s ρ k (58 + 15 * k + 3) = ρ (58 + 15 * k + 3) from g k 3 (by decide) (by decide) (by decide) (by decide)]
/-- all the moves -/
theorem MI.moves {ρ : Nat → Int32} {n s : Nat} (h : MI ρ n s) : ∀ i, i ≤ n → MI (iter (rMove n s) ρ i) n s ∧ ∀ k, k < n → ∃ δ, δ ≤ 1 ∧ (i ≤ k → δ = 0) ∧ tf (iter (rMove n s) ρ i) k 10 = tf ρ k 10 + nI δ ∧ rSec (iter (rMove n s) ρ i) k = (rSec ρ k + δ) % s
  | 0, _ => ⟨h, fun k hk => ⟨0, by decide, fun _ => rfl, (Int32.add_zero _).symm, by rw [Nat.add_zero, Nat.mod_eq_of_lt (h.1.at3 hk).1]; rfl⟩⟩
  | i + 1, hi => by
    obtain ⟨h1, h2⟩ := MI.moves h i (by omega)
    obtain ⟨g1, δ, d1, d2, d3⟩ := h1.move (k := i) (by omega)
    refine ⟨g1, fun k hk => ?_⟩
    obtain ⟨δ0, e1, e2, e3, e4⟩ := h2 k hk
    by_cases ek : k = i
    · subst ek
      have e5 := e2 (Nat.le_refl _)
      subst e5
      refine ⟨δ, d1, fun h9 => absurd h9 (by omega), ?_, ?_⟩
      · show tf (rMove n s (iter (rMove n s) ρ k) k) k 10 = _
        rw [d2, e3, show tf ρ k 10 + nI 0 = tf ρ k 10 from Int32.add_zero _]
      · show rSec (rMove n s (iter (rMove n s) ρ k) k) k = _
        rw [d3, e4, Nat.add_zero, Nat.mod_add_mod]
    · have hne : ∀ w, w < 15 → tf (rMove n s (iter (rMove n s) ρ i) i) k w = tf (iter (rMove n s) ρ i) k w := fun w hw => by
        have h9 := congrFun (move_ne (ρ := iter (rMove n s) ρ i) (n := n) (s := s) ek) w
        rw [tw_at hw, tw_at hw] at h9
        exact h9
      refine ⟨δ0, e1, fun h9 => e2 (by omega), (hne 10 (by decide)).trans e3, ?_⟩
      show rSec (rMove n s (iter (rMove n s) ρ i) i) k = _
      unfold rSec at e4 ⊢
      rw [show rMove n s (iter (rMove n s) ρ i) i (58 + 15 * k + 3) = iter (rMove n s) ρ i (58 + 15 * k + 3) from hne 3 (by decide)]
      exact e4
theorem mv_outs {ρ : Nat → Int32} {n s x : Nat} : ∀ i, (∀ k, k < i → ∀ w, mvF w → x ≠ 58 + 15 * k + w) → iter (rMove n s) ρ i x = ρ x
  | 0, _ => rfl
  | i + 1, h => (mv_out (h i (Nat.lt_succ_self i))).trans (mv_outs i (fun k hk => h k (by omega)))
