/-! good rows: what holds of a railway all the time -/
def GT (ρ : Nat → Int32) (k τ : Nat) : Prop :=
  (∃ a, 1 ≤ a ∧ a ≤ 127 ∧ tf ρ k 0 = nI a) ∧ (∃ a, a ≤ 99 ∧ tf ρ k 4 = nI a) ∧ (∃ a, a ≤ τ ∧ tf ρ k 9 = nI a ∧ (40 ≤ a → tf ρ k 6 = 0)) ∧ (∃ a, a ≤ τ ∧ tf ρ k 10 = nI a) ∧ ∃ o r u, o + r + u ≤ τ ∧ tf ρ k 11 = nI o ∧ tf ρ k 12 = nI r ∧ tf ρ k 13 = nI u
def GR (ρ : Nat → Int32) (n s τ : Nat) : Prop :=
  RV ρ n s ∧ ρ 0 = nI τ ∧ τ ≤ 10000 ∧ (s ≤ 12 ∧ n ≤ 4) ∧ (∀ i j, i < n → j < n → tf ρ i 3 = tf ρ j 3 → i = j) ∧ (∀ i j, i < n → j < n → tf ρ i 0 = tf ρ j 0 → i = j) ∧ (∀ k, k < n → GT ρ k τ) ∧ ρ 7 = ρ 8 + ρ 9 + ρ 6 ∧ ∃ a, a ≤ τ ∧ ρ 5 = nI a
theorem GR.v {ρ : Nat → Int32} {n s τ : Nat} (h : GR ρ n s τ) : RV ρ n s := h.1
theorem rT_5 {ρ : Nat → Int32} {n s : Nat} (hV : RV ρ n s) (h0 : ¬ ρ 0 = 10000) : rT n s ρ 5 = ρ 5 ∨ rT n s ρ 5 = ρ 5 + 1 := by
  have hn6 := hV.n6
  have o5 : ∀ (f : (Nat → Int32) → Nat → (Nat → Int32)) (r : Nat → Int32), (∀ r k, k < n → f r k 5 = r 5) → ∀ i, i ≤ n → iter f r i 5 = r 5 := by
    intro f r hf i
    induction i with
    | zero => intro _; rfl
    | succ i ih => intro hi; exact (hf _ i (by omega)).trans (ih (by omega))
  have e1 : (rTick0 ρ (zeroH (fun _ => 0) n) n).1 5 = ρ 5 := by
    unfold rTick0
    split
    · show rShift (rSend (ρ, zeroH (fun _ => 0) n) n).1 (rQ ρ - 1) 5 = ρ 5
      unfold rShift
      rw [upd_ne (by decide), pk_cpy_out (Or.inl (by decide)), upd_ne (by decide)]
      exact (rSend_ok (η := zeroH (fun _ => 0) n) hV.1.1 n (Nat.le_refl n)).2 5 (Or.inl (by decide))
    · rfl
  have e2 : iter (rMove n s) (iter (rDrive (rTick0 ρ (zeroH (fun _ => 0) n) n).2) (rTick0 ρ (zeroH (fun _ => 0) n) n).1 n) n 5 = ρ 5 := by
    rw [o5 (rMove n s) _ (fun r k hk => mv_out (fun w _ => by omega)) n (Nat.le_refl n), o5 (rDrive (rTick0 ρ (zeroH (fun _ => 0) n) n).2) _ (fun r k hk => ?_) n (Nat.le_refl n)]
    · exact e1
    · unfold rDrive rDim rSpeed
      rw [upd_ne (by omega), upd_ne (by omega)]
      exact listen_4 (by omega) (by decide)
  rw [rT_eq, if_neg h0]
  show upd _ 0 _ 5 = _ ∨ upd _ 0 _ 5 = _
  rw [upd_ne (by decide)]
  unfold rTickM rWatch
  repeat' split
  · exact Or.inl ((upd_ne (by decide)).trans e2)
  · exact Or.inr ((upd_same _ _ _).trans (by rw [e2]))
  · exact Or.inl e2
theorem rT_6 {ρ : Nat → Int32} {n s : Nat} (hV : RV ρ n s) (h0 : ¬ ρ 0 = 10000) : rT n s ρ 7 = ρ 7 ∧ rT n s ρ 9 = ρ 9 ∧ rT n s ρ 8 = ρ 8 + bI (snd ρ) ∧ rT n s ρ 6 = ρ 6 - bI (snd ρ) := by
  have hn6 := hV.n6
  obtain ⟨q, hq, e6⟩ := hV.1.2
  have T : ∀ x, x ≠ 0 → x ≠ 4 → x ≠ 5 → x < 58 → rT n s ρ x = (rTick0 ρ (zeroH (fun _ => 0) n) n).1 x := fun x hx0 h4 h5 hx => by
    rw [rT_eq, if_neg h0, upd_ne hx0]
    exact tickM_out (by omega) h4 h5 (Or.inl hx)
  have z0 : ∀ y : Int32, y + bI false = y := fun y => Int32.add_zero y
  have z1 : ∀ y : Int32, y - bI false = y := fun y => Int32.sub_zero y
  by_cases cs : snd ρ = true
  · have hs := snd_p.mp cs
    have e0 : rTick0 ρ (zeroH (fun _ => 0) n) n = (rSentR ρ (zeroH (fun _ => 0) n) n, (rSend (ρ, zeroH (fun _ => 0) n) n).2) := if_pos hs
    have ho := (rSend_ok (η := zeroH (fun _ => (0 : Int32)) n) hV.1.1 n (Nat.le_refl n)).2
    have hq0 : 0 < q := by
      rcases Nat.eq_zero_or_pos q with e | e
      · exact absurd (by rw [e6, e]; rfl) hs.2
      · exact e
    have hQ := rQ_lt e6 hq
    have S : ∀ x, x < 58 → x ≠ 6 → x ≠ 8 → rSentR ρ (zeroH (fun _ => 0) n) n x = ρ x := fun x hx h6 h8 => by
      unfold rSentR rShift
      rw [upd_ne h8, pk_cpy_out (Or.inl (by omega)), upd_ne h6]
      exact ho x (Or.inl hx)
    refine ⟨?_, ?_, ?_, ?_⟩
    · rw [T 7 (by decide) (by decide) (by decide) (by decide), e0]; exact S 7 (by decide) (by decide) (by decide)
    · rw [T 9 (by decide) (by decide) (by decide) (by decide), e0]; exact S 9 (by decide) (by decide) (by decide)
    · rw [T 8 (by decide) (by decide) (by decide) (by decide), e0, cs]
      show rShift (rSend (ρ, zeroH (fun _ => 0) n) n).1 (rQ ρ - 1) 8 = _
      unfold rShift
      rw [upd_same, pk_cpy_out (Or.inl (by decide)), upd_ne (by decide), ho 8 (Or.inl (by decide))]
      rfl
    · rw [T 6 (by decide) (by decide) (by decide) (by decide), e0, cs]
      show rShift (rSend (ρ, zeroH (fun _ => 0) n) n).1 (rQ ρ - 1) 6 = _
      unfold rShift
      rw [upd_ne (by decide), pk_cpy_out (Or.inl (by decide)), upd_same, hQ, e6]
      exact (pk_sub (b := 1) hq0).symm
  · have e0 : rTick0 ρ (zeroH (fun _ => 0) n) n = (ρ, zeroH (fun _ => 0) n) := if_neg (fun e => cs (snd_p.mpr e))
    rw [Bool.eq_false_iff.mpr cs, z0, z1]
    refine ⟨?_, ?_, ?_, ?_⟩
    · rw [T 7 (by decide) (by decide) (by decide) (by decide), e0]
    · rw [T 9 (by decide) (by decide) (by decide) (by decide), e0]
    · rw [T 8 (by decide) (by decide) (by decide) (by decide), e0]
    · rw [T 6 (by decide) (by decide) (by decide) (by decide), e0]
theorem bI_n (b : Bool) : ∃ i, i ≤ 1 ∧ bI b = nI i := by
  cases b
  · exact ⟨0, by decide, rfl⟩
  · exact ⟨1, by decide, rfl⟩
theorem ob_excl (i t w : Bool) : ∃ x y v, x + y + v ≤ 1 ∧ bI (i && (!t && w)) = nI x ∧ bI (i && (!t && !w)) = nI y ∧ bI (i && t) = nI v := by
  cases i <;> cases t <;> cases w
  · exact ⟨0, 0, 0, by decide, rfl, rfl, rfl⟩
  · exact ⟨0, 0, 0, by decide, rfl, rfl, rfl⟩
  · exact ⟨0, 0, 0, by decide, rfl, rfl, rfl⟩
  · exact ⟨0, 0, 0, by decide, rfl, rfl, rfl⟩
  · exact ⟨0, 1, 0, by decide, rfl, rfl, rfl⟩
  · exact ⟨1, 0, 0, by decide, rfl, rfl, rfl⟩
  · exact ⟨0, 0, 1, by decide, rfl, rfl, rfl⟩
  · exact ⟨0, 0, 1, by decide, rfl, rfl, rfl⟩
/-- the moves of a tick -/
theorem GR.moves {ρ : Nat → Int32} {n s τ : Nat} {C : Ct} (h : GR ρ n s τ) (hC : CR ρ n s C) (h0 : ¬ ρ 0 = 10000) : (∀ i j, i < n → j < n → tf (rT n s ρ) i 3 = tf (rT n s ρ) j 3 → i = j) ∧ ∀ k, k < n → (∃ a, a ≤ 99 ∧ tf (rT n s ρ) k 4 = nI a) ∧ ∃ δ, δ ≤ 1 ∧ tf (rT n s ρ) k 10 = tf ρ k 10 + nI δ ∧ rSec (rT n s ρ) k = (rSec ρ k + δ) % s := by
  obtain ⟨hV, e0, hτ, hsn, hD, hA, hT, h7, h5⟩ := h
  obtain ⟨ρd, d1, d2, d3, d4⟩ := tickM hV hC h0
  have hn6 := hV.n6
  have hM : MI ρd n s := ⟨d1, fun i j hi hj e => hD i j hi hj (by rw [(d3 i hi).1, (d3 j hj).1] at e; exact e), fun k hk => ⟨by rw [(d3 k hk).2.1]; exact (hT k hk).2.1, d2.t (w := 5) (M := 28) (by omega) (by decide) rfl⟩⟩
  obtain ⟨m1, m2⟩ := hM.moves n (Nat.le_refl n)
  refine ⟨fun i j hi hj e => m1.2.1 i j hi hj (by rw [d4 i 3 hi (by decide), d4 j 3 hj (by decide)] at e; exact e), fun k hk => ⟨by rw [d4 k 4 hk (by decide)]; exact (m1.2.2 k hk).1, ?_⟩⟩
  obtain ⟨δ, g1, -, g3, g4⟩ := m2 k hk
  refine ⟨δ, g1, by rw [d4 k 10 hk (by decide), g3, (d3 k hk).2.2], ?_⟩
  have e1 : rSec (rT n s ρ) k = rSec (iter (rMove n s) ρd n) k := by
    unfold rSec
    rw [show rT n s ρ (58 + 15 * k + 3) = _ from d4 k 3 hk (by decide)]
  have e2 : rSec ρd k = rSec ρ k := by
    unfold rSec
    rw [show ρd (58 + 15 * k + 3) = _ from (d3 k hk).1]
  rw [e1, g4, e2]
theorem GR.tick {ρ : Nat → Int32} {n s τ : Nat} {C : Ct} (h : GR ρ n s τ) (hC : CR ρ n s C) (hτ1 : τ + 1 ≤ 10000) : GR (rT n s ρ) n s (τ + 1) := by
  have h9 := h
  obtain ⟨hV, e0, hτ, hsn, hD, hA, hT, h7, a5, h5, h5e⟩ := h
  have h0 : ¬ ρ 0 = 10000 := fun e => by
    have := (nI_eq (a := τ) (b := 10000) (by omega) (by decide)).mp (e0.symm.trans e)
    omega
  obtain ⟨q7, q9, q8, q6⟩ := rT_6 hV h0
  obtain ⟨m1, m2⟩ := h9.moves hC h0
  have L := fun j (hj : j < n) => tickL hV hC h0 hj
  refine ⟨hV.rT, ?_, hτ1, hsn, m1, fun i j hi hj e => hA i j hi hj ?_, fun k hk => ?_, ?_, ?_⟩
  · rw [rT_0 hV h0, e0]; exact nI_1 τ
  · rw [(L i hi).2.2.2.2.2, (L j hj).2.2.2.2.2] at e; exact e
  · obtain ⟨g0, g4, ⟨sl, s1, s2, s3⟩, ⟨en, n1, n2⟩, o, r, u, b1, b2, b3, b4⟩ := hT k hk
    obtain ⟨l11, l13, l12, l9, l6, l0⟩ := L k hk
    obtain ⟨p4, δ, d1, d2, -⟩ := m2 k hk
    refine ⟨by rw [l0]; exact g0, p4, ?_, ⟨en + δ, by omega, by rw [d2, n2]; exact nI_add en δ⟩, ?_⟩
    · by_cases cb : obB ρ k = true
      · rw [if_pos cb] at l9
        exact ⟨0, by omega, l9, fun e => by omega⟩
      · rw [if_neg cb, s2, nI_1] at l9
        rw [if_neg cb, s2, nI_1] at l6
        refine ⟨sl + 1, by omega, l9, fun e => ?_⟩
        exact l6.trans (if_neg (show ¬ nI (sl + 1) < nI 40 from nI_nlt e (by omega)))
    · obtain ⟨x, y, v, f1, f2, f3, f4⟩ := ob_excl (itsB ρ k) (tunB ρ k) (rWhole ρ 0)
      refine ⟨o + x, r + y, u + v, by omega, ?_, ?_, ?_⟩
      · rw [l11, b2, show bI (obB ρ k) = nI x from f2]; exact nI_add o x
      · rw [l12, b3, f3]; exact nI_add r y
      · rw [l13, b4, f4]; exact nI_add u v
  · rw [q7, q8, q9, q6, h7]
    generalize bI (snd ρ) = t
    rw [Int32.sub_eq_add_neg]
    rw [show ρ 8 + t + ρ 9 + (ρ 6 + -t) = ρ 8 + ρ 9 + ρ 6 + (t + -t) by ac_rfl, Int32.add_right_neg, Int32.add_zero]
  · rcases rT_5 hV h0 with e | e
    · exact ⟨a5, by omega, by rw [e, h5e]⟩
    · exact ⟨a5 + 1, by omega, by rw [e, h5e]; exact nI_1 a5⟩
/-- many ticks -/
theorem rPs_s (n s : Nat) (ρ : Nat → Int32) (t : Nat) : rPs n s ρ (t + 1) = rT n s (rPs n s ρ t) := rfl
theorem GR.ticks {ρ : Nat → Int32} {n s τ : Nat} {C : Ct} (h : GR ρ n s τ) (hC : CR ρ n s C) : ∀ t, τ + t ≤ 10000 → GR (rPs n s ρ t) n s (τ + t) ∧ CR (rPs n s ρ t) n s (cPs n C t) ∧ ∀ k, k < n → ∃ δ, δ ≤ t ∧ tf (rPs n s ρ t) k 10 = tf ρ k 10 + nI δ ∧ rSec (rPs n s ρ t) k = (rSec ρ k + δ) % s
  | 0, _ => ⟨h, hC, fun k hk => ⟨0, Nat.le_refl _, (Int32.add_zero _).symm, by rw [Nat.add_zero, Nat.mod_eq_of_lt (h.1.1.1.at3 hk).1]; rfl⟩⟩
  | t + 1, ht => by
    obtain ⟨g1, g2, g3⟩ := GR.ticks h hC t (by omega)
    have h0 : ¬ rPs n s ρ t 0 = 10000 := fun e => by
      have := (nI_eq (a := τ + t) (b := 10000) (by omega) (by decide)).mp (g1.2.1.symm.trans e)
      omega
    refine ⟨g1.tick g2 (by omega), pass_cr h.1 hC h.2.1 (by omega), fun k hk => ?_⟩
    obtain ⟨δ, d1, d2, d3⟩ := g3 k hk
    obtain ⟨-, δ1, f1, f2, f3⟩ := (g1.moves g2 h0).2 k hk
    refine ⟨δ + δ1, by omega, ?_, ?_⟩
    · show tf (rT n s (rPs n s ρ t)) k 10 = _
      rw [f2, d2, Int32.add_assoc, nI_add]
    · show rSec (rT n s (rPs n s ρ t)) k = _
      rw [f3, d3, Nat.mod_add_mod, Nat.add_assoc]
