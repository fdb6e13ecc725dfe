/-! the reference's loading of a railway, running of a script -/
def at0 (z : Nat → Int32) : Nat := (z 22).toBitVec.toNat
/-- the reading's begin -/
def pBeg (b : Nat → Int32) (L t : Nat) : Pt := (tS b L 0, tE b L 0, tK b L 0, 0, t)
theorem pBeg_ok (b : Nat → Int32) (L t : Nat) : pOk b L (pBeg b L t) := ⟨Nat.zero_le _, 0, Nat.zero_le _, rfl, rfl, rfl⟩
/-- what calls may find later of the object's numbers -/
def pubJ (j : Nat) : Prop := j = 8 ∨ j = 9 ∨ j = 10 ∨ j = 12 ∨ j = 14 ∨ j = 16 ∨ j = 23
def pubZ (z1 z2 : Nat → Int32) : Prop := ∀ j, pubJ j → z1 j = z2 j
theorem pubZ.rf {z : Nat → Int32} : pubZ z z := fun _ _ => rfl
/-- the reading ends: nothing of it is left but the error and its place -/
def zEnd (z : Nat → Int32) (P : Pt) : Nat → Int32 := upd (upd (upd (upd z 9 0) 16 0) 23 (if pR P = 0 then -1 else nI (pA P))) 10 (nI (pR P))
theorem rv_put {z ρ : Nat → Int32} {n s p mx mc mk : Nat} (h : RV ρ n s) (hp : ∀ q, ρ 6 = nI q → q ≤ 12 → p ≤ q) (hx : mx ≤ 255) (hc : mc ≤ 255) (hk : mk ≤ 255) : RV (oPut z ρ p (nI mx) (nI mc) (nI mk)).2.2 n s := by
  obtain ⟨q, hq, e⟩ := h.1.2
  unfold oPut
  split
  · exact h
  · next c => exact h.put e (by rcases Nat.lt_or_ge q 12 with c1 | c1; exact c1; exact absurd (e.trans (by rw [show q = 12 by omega]; rfl)) c) (hp q e hq) hx hc hk
/-- a row and how many orders have been done -/
abbrev Rt : Type := (Nat → Int32) × Nat
section ModelBuf2
variable {G : Gl} {κ : Kx} {d : Nat} {Q : Option Value → Hp → Prop} {X : String → Hp → Prop} {cs ss : Nat} {σ : Hp} {a : Nat} {r : Nat → Nat} {z : Nat → Int32} {A : Nat → Nat → Int32} {rw : Nat} {ρ η : Nat → Int32} {L : Nat} {P : Pt} {b : Nat → Int32}
end ModelBuf2
section ModelRun
variable {G : Gl} {κ : Kx} {d : Nat} {Q : Option Value → Hp → Prop} {X : String → Hp → Prop} {cs ss : Nat} {σ : Hp} {a : Nat} {r : Nat → Nat} {z : Nat → Int32} {A : Nat → Nat → Int32} {rw : Nat} {ρ η : Nat → Int32} {L : Nat} {P : Pt} {b O : Nat → Int32} {n s : Nat}
variable {B : Nat → Nat → Int32}
/-- how a load ends -/
noncomputable def ldY (B : Nat → Nat → Int32) (z : Nat → Int32) (L : Nat) : Yt := lF (B 15) L (pBeg (B 15) L (at0 z))
def ldZ (z : Nat → Int32) (P : Pt) : Nat → Int32 := if pR P = 0 then upd (upd (zEnd z P) 8 0) 12 0 else zEnd z P
def ldB (B : Nat → Nat → Int32) (Y : Yt) : Nat → Nat → Int32 := if pR Y.1 = 0 then updA B 0 Y.2.1 else B
theorem rIn_le {x : Int32} {n : Nat} (hn : n < 2 ^ 30) (h : rIn x 0 (nI n) = true) : ∃ k, k ≤ n ∧ x = nI k := by
  obtain ⟨h1, h2⟩ := rIn_t h
  obtain ⟨j, hj, hx⟩ := nI_of2 (nI_toInt (by omega)) (Int32.not_lt.mpr h1) h2
  exact ⟨j, hj, hx⟩
end ModelRun
