/-! the class's parser: scripts -/
/-- the commands made, in the order of the orders -/
def CM (G : Gl) (σ : Hp) (c nd : Nat → Nat) (D : Nat → Dt) (oc : Nat) : Prop := ∀ i, i < oc → σ (nd i) = some (.inr (1, cmV G (D i))) ∧ c (nd i) = nd i ∧ ∀ j, j < oc → nd i = nd j → i = j
theorem CM.keep {G : Gl} {σ σ1 : Hp} {c c1 nd : Nat → Nat} {D : Nat → Dt} {oc : Nat} {W : Nat → Prop} (h : CM G σ c nd D oc) (f : KF W σ c σ1 c1) (hW : ∀ i, i < oc → ¬ W (nd i)) : CM G σ1 c1 nd D oc := fun i hi => by
  obtain ⟨h1, h2, h3⟩ := h i hi
  obtain ⟨a, b, -⟩ := f _ _ h1
  exact ⟨b (by rw [h2]; exact hW i hi), a.trans h2, h3⟩
theorem CM.ne {G : Gl} {σ : Hp} {c nd : Nat → Nat} {D : Nat → Dt} {oc x j : Nat} {fs : List Value} (h : CM G σ c nd D oc) (hp : σ x = some (.inr (j, fs))) (hj : j ≠ 1) : ∀ i, i < oc → ¬ nd i = x := fun i hi => obj_ne (h i hi).1 hp (Ne.symm hj)
theorem CM.put {G : Gl} {σ : Hp} {c nd : Nat → Nat} {D : Nat → Dt} {oc li : Nat} (h : CM G σ c nd D oc) (hl : li < oc) (D1 : Nat → Dt) (hD : ∀ i, i < oc → i ≠ li → D1 i = D i) : CM G (hset σ (nd li) (.inr (1, cmV G (D1 li)))) c nd D1 oc := fun i hi => by
  obtain ⟨h1, h2, h3⟩ := h i hi
  refine ⟨?_, h2, h3⟩
  by_cases e : i = li
  · rw [e]; exact hset_same _ _ _
  · rw [hset_ne (fun e9 => e (h3 li hl e9)), hD i hi e]; exact h1
def nU {α : Type} (f : Nat → α) (i : Nat) (v : α) : Nat → α := fun j => if j = i then v else f j
theorem nU_s {α : Type} {f : Nat → α} {i : Nat} {v : α} : nU f i v i = v := if_pos rfl
theorem nU_n {α : Type} {f : Nat → α} {i j : Nat} {v : α} (h : j ≠ i) : nU f i v j = f j := if_neg h
theorem CM.add {G : Gl} {σ : Hp} {c nd : Nat → Nat} {D : Nat → Dt} {oc q : Nat} {x : Dt} (h : CM G σ c nd D oc) (hq : σ q = some (.inr (1, cmV G x))) (hc : c q = q) (hn : ∀ i, i < oc → nd i ≠ q) : CM G σ c (nU nd oc q) (nU D oc x) (oc + 1) := fun i hi => by
  by_cases e : i = oc
  · subst e
    rw [nU_s, nU_s]
    refine ⟨hq, hc, fun j hj ej => ?_⟩
    by_cases e2 : j = i
    · exact e2.symm
    · rw [nU_n e2] at ej
      exact absurd ej.symm (hn j (by omega))
  · rw [nU_n e, nU_n e]
    obtain ⟨h1, h2, h3⟩ := h i (by omega)
    refine ⟨h1, h2, fun j hj ej => ?_⟩
    by_cases e2 : j = oc
    · subst e2
      rw [nU_s] at ej
      exact absurd ej (hn i (by omega))
    · rw [nU_n e2] at ej
      exact h3 j (by omega) ej
theorem PQ.new {G : Gl} {σ : Hp} {c : Nat → Nat} {pr tk inp q o : Nat} {b : Nat → Int32} {L : Nat} {P : Pt} {cc : Int32} {e : va_E} (h : PQ G σ c pr tk inp b L P cc) (hq : σ q = none) : PQ G (hset σ q e) (colN c q o) pr tk inp b L P cc := h.keep (KF.new (W := fun _ => False) hq) id id
section ClassScript
variable {G : Gl} {κ : Kx} {d : Nat} {Q : Option Value → Hp → Prop} {X : String → Hp → Prop} {cs ss pc : Nat} {M : List (Option LV)} {st : List Value} {σ σ1 σ2 : Hp} {c c1 c2 : Nat → Nat} {pr tk inp : Nat} {b : Nat → Int32} {L : Nat} {cc cc1 : Int32} {P P1 : Pt} {q : Nat} {D : Dt}
/-- the state while a command is taken: its cell is q -/
def TC (G : Gl) (σ : Hp) (c : Nat → Nat) (σ1 : Hp) (c1 : Nat → Nat) (pr tk inp : Nat) (b : Nat → Int32) (L : Nat) (P : Pt) (cc : Int32) (q : Nat) (D : Dt) : Prop := PQ G σ1 c1 pr tk inp b L P cc ∧ (σ1 q = some (.inr (1, cmV G D)) ∧ c1 q = q) ∧ KF (fun x => x = pr) σ c σ1 c1 ∧ σ q = none ∧ q ≠ pr
theorem TC.o (h : TC G σ c σ1 c1 pr tk inp b L P cc q D) : σ1 q = some (.inr (1, cmV G D)) := h.2.1.1
theorem KF.nn {W : Nat → Prop} (f : KF W σ c σ1 c1) (h : σ1 q = none) : σ q = none := by
  cases e : σ q with
  | none => rfl
  | some v =>
    obtain ⟨-, -, e1, h1⟩ := f q v e
    rw [h] at h1
    cases h1
theorem PQ.t (h : PQ G σ c pr tk inp b L P cc) : ∃ p, σ tk = some (.inr (8, tkV inp (nI L) (tKd b L p) (nI (tS b L p)) (nI (tE b L p)) (nI (tVl b L p)))) ∧ (pR P = 0 → RP b L p P) := by
  obtain ⟨h4, p, hG, hr⟩ := h
  exact ⟨p, hG.t, hr⟩
end ClassScript
