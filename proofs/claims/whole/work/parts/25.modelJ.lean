/-! the reference's reading of a script; loading -/
section ModelBuf
variable {G : Gl} {κ : Kx} {d : Nat} {Q : Option Value → Hp → Prop} {X : String → Hp → Prop} {cs ss : Nat} {σ : Hp} {a : Nat} {r : Nat → Nat} {z : Nat → Int32} {A : Nat → Nat → Int32} {rw : Nat} {ρ η : Nat → Int32} {L : Nat} {P : Pt} {b : Nat → Int32}
theorem sb_goOn (hΓ : Ok G κ mX13_goOn (d + 3) Q X) (h : MV G σ a r (zP z P) A rw ρ η) (hb : A 15 = b) (hL : z 17 = nI L) (hL5 : L ≤ 500) (hP : pOk b L P) (hq : ∀ σ1 : Hp, MV G σ1 a r (zP z (pGo b L P)) A rw ρ η → MF a r σ σ1 → Q none σ1) : AW G κ cs ss 0 [lR a] [] σ := by
  subst hb
  exact sp_goOn hΓ h hL hL5 hP hq
theorem sb_isSymbol (hΓ : Ok G κ mX13_isSymbol (d + 0) Q X) (h : MV G σ a r (zP z P) A rw ρ η) (hb : A 15 = b) (hL : z 17 = nI L) (hL5 : L ≤ 500) (hP : pOk b L P) {c : Int32} (hq : Q (some (.int (bI (pSym b P c)))) σ) : AW G κ cs ss 0 [lR a, lI c] [] σ := by
  subst hb
  exact sp_isSymbol hΓ h hL hL5 hP hq
theorem sb_isWord (hΓ : Ok G κ mX13_isWord (d + 4) Q X) (h : MV G σ a r (zP z P) A rw ρ η) (hb : A 15 = b) (hL : z 17 = nI L) (hL5 : L ≤ 500) (hP : pOk b L P) {t : Nat} (ht : t < 11) (hq : Q (some (.int (bI (pWrd b P t)))) σ) : AW G κ cs ss 0 [lR a, lR (gK G t), none, none] [] σ := by
  subst hb
  exact sp_isWord hΓ h hL hL5 hP ht hq
theorem sb_expect (hΓ : Ok G κ mX13_expect (d + 4) Q X) (h : MV G σ a r (zP z P) A rw ρ η) (hb : A 15 = b) (hL : z 17 = nI L) (hL5 : L ≤ 500) (hP : pOk b L P) {c : Int32} (hq : ∀ σ1 : Hp, MV G σ1 a r (zP z (pExp b L c P)) A rw ρ η → MF a r σ σ1 → Q none σ1) : AW G κ cs ss 0 [lR a, lI c] [] σ := by
  subst hb
  exact sp_expect hΓ h hL hL5 hP hq
theorem sb_readNumber (hΓ : Ok G κ mX13_readNumber (d + 4) Q X) (h : MV G σ a r (zP z P) A rw ρ η) (hb : A 15 = b) (hL : z 17 = nI L) (hL5 : L ≤ 500) (hP : pOk b L P) {lo hi : Nat} {x y : Int32} (hx : x = nI lo) (hy : y = nI hi) (hlo : lo < 2 ^ 30) (hhi : hi < 2 ^ 30) (hq : ∀ σ1 : Hp, MV G σ1 a r (zP z (pRead b L lo hi P)) A rw ρ η → MF a r σ σ1 → Q (some (.int (nI (pVl b lo hi P)))) σ1) : AW G κ cs ss 0 [lR a, lI x, lI y, none] [] σ := by
  subst hb
  exact sp_readNumber hΓ h hL hL5 hP hx hy hlo hhi hq
theorem MV.words (h : MV G σ a r z A rw ρ η) : ∃ g : Nat → Option Nat, σ (r 26) = some (eR G 3 8 g) ∧ ∀ j, j < 8 → g j = some (gK G (kwT j)) := h.2.2.2.1
end ModelBuf
/-- the word that begins an order -/
def oHere (b : Nat → Int32) (P : Pt) : Option Nat := fsB (fun k => pWrd b P (kwT k)) 8
def fLo (k : Nat) : Nat := if k = 6 then 1 else 0
def fHi (k : Nat) : Nat := if k = 0 then 255 else if k = 4 then 23 else if k = 5 then 23 else if k = 6 then 60 else 127
def sHi (k : Nat) : Nat := if k = 0 then 255 else if k = 1 then 28 else 15
noncomputable def oB (b : Nat → Int32) (L k : Nat) (P : Pt) : Pt := pRead b L (fLo k) (fHi k) P
noncomputable def oC (b : Nat → Int32) (L k : Nat) (P : Pt) : Pt := if k < 3 then pRead b L 0 (sHi k) P else P
noncomputable def oCv (b : Nat → Int32) (k : Nat) (P : Pt) : Nat := if k < 3 then pVl b 0 (sHi k) P else 0
noncomputable def oD (b : Nat → Int32) (L k : Nat) (P : Pt) : Pt := if k = 0 then pRead b L 0 255 P else P
noncomputable def oDv (b : Nat → Int32) (k : Nat) (P : Pt) : Nat := if k = 0 then pVl b 0 255 P else 0
/-- the reading, the orders, how many there are -/
abbrev Zt : Type := Pt × (Nat → Int32) × Nat
def oSet (O : Nat → Int32) (i w : Nat) (x : Int32) : Nat → Int32 := upd O (4 * i + w) x
/-- the head of an order: its word, whether there is room -/
noncomputable def oHead (b : Nat → Int32) (L oc : Nat) (dp : Bool) (P : Pt) : Pt := pGo b L (pCk (pR (pCk (oHere b P).isSome 1 P) != 0 || (decide (oc < 20) && (oHere b P != some 7 || dp))) 4 (pCk (oHere b P).isSome 1 P))
noncomputable def oPlain (b : Nat → Int32) (L k : Nat) (Z : Zt) : Zt :=
  (pExp b L 59 (oD b L k (oC b L k (oB b L k Z.1))), oSet (oSet (oSet (oSet Z.2.1 Z.2.2 0 (nI k)) Z.2.2 1 (nI (pVl b (fLo k) (fHi k) Z.1))) Z.2.2 2 (nI (oCv b k (oB b L k Z.1)))) Z.2.2 3 (nI (oDv b k (oC b L k (oB b L k Z.1)))), Z.2.2 + 1)
noncomputable def oRep0 (b : Nat → Int32) (L : Nat) (Z : Zt) : Zt := (pExp b L 40 (pRead b L 2 5 Z.1), oSet (oSet Z.2.1 Z.2.2 0 (nI 7)) Z.2.2 1 (nI (pVl b 2 5 Z.1)), Z.2.2 + 1)
noncomputable def oRep1 (b : Nat → Int32) (L oc : Nat) (Z : Zt) : Zt := (pExp b L 59 (pExp b L 41 Z.1), oSet Z.2.1 oc 2 (nI Z.2.2), Z.2.2)
noncomputable def oOne (b : Nat → Int32) (L : Nat) (rp : Zt → Zt) (dp : Bool) (Z : Zt) : Zt :=
  if ¬ pR (oHead b L Z.2.2 dp Z.1) = 0 then (oHead b L Z.2.2 dp Z.1, Z.2) else
  if oHere b Z.1 = some 7 then oRep1 b L Z.2.2 (rp (oRep0 b L (oHead b L Z.2.2 dp Z.1, Z.2))) else
  oPlain b L ((oHere b Z.1).getD 0) (oHead b L Z.2.2 dp Z.1, Z.2)
noncomputable def oLoop (f : Zt → Zt) (b : Nat → Int32) : Nat → Zt → Zt
  | 0, Z => Z
  | n + 1, Z => if pR Z.1 = 0 ∧ pSym b Z.1 41 = false then oLoop f b n (f Z) else Z
noncomputable def oOrd (b : Nat → Int32) (L : Nat) : Nat → Zt → Zt
  | 0 => oOne b L id false
  | g + 1 => oOne b L (oLoop (oOrd b L g) b 21) true
theorem oLoop_f {f : Zt → Zt} {b : Nat → Int32} {n : Nat} {Z : Zt} (h : ¬ (pR Z.1 = 0 ∧ pSym b Z.1 41 = false)) : oLoop f b n Z = Z := by
  cases n with
  | zero => rfl
  | succ n => exact if_neg h
theorem oB_ok {b : Nat → Int32} {L k : Nat} {P : Pt} (h : pOk b L P) : pOk b L (oB b L k P) := pRead_ok h
theorem oC_ok {b : Nat → Int32} {L k : Nat} {P : Pt} (h : pOk b L P) : pOk b L (oC b L k P) := by unfold oC; split <;> first | exact pRead_ok h | exact h
theorem oD_ok {b : Nat → Int32} {L k : Nat} {P : Pt} (h : pOk b L P) : pOk b L (oD b L k P) := by unfold oD; split <;> first | exact pRead_ok h | exact h
theorem oHead_ok {b : Nat → Int32} {L oc : Nat} {dp : Bool} {P : Pt} (h : pOk b L P) : pOk b L (oHead b L oc dp P) := pGo_ok (pCk_ok (by decide) (pCk_ok (by decide) h))
/-- an order's head without an error: its word is known, there is room, a repeat isn't too deep -/
theorem oHead_z {b : Nat → Int32} {L oc : Nat} {dp : Bool} {P : Pt} (h : pR (oHead b L oc dp P) = 0) : (∃ k, oHere b P = some k ∧ k < 8) ∧ oc < 20 ∧ (oHere b P = some 7 → dp = true) ∧ pR P = 0 := by
  have h1 := pCk_z (by decide) (pGo_z h)
  have h2 := pCk_z (by decide) h1.2
  have h3 := h1.1
  rw [h1.2, show ((0 : Nat) != 0) = false from rfl, Bool.false_or, Bool.and_eq_true, decide_eq_true_iff] at h3
  refine ⟨?_, h3.1, fun e => ?_, h2.2⟩
  · obtain ⟨k, hk⟩ := Option.isSome_iff_exists.mp h2.1
    exact ⟨k, hk, (fsB_lt _ hk).1⟩
  · have h4 := h3.2
    rw [e, show ((some 7 : Option Nat) != some 7) = false from rfl, Bool.false_or] at h4
    exact h4
/-- what an order does to the reading and the number of orders -/
def oInv (b : Nat → Int32) (L : Nat) (Z : Zt) : Prop := pOk b L Z.1 ∧ Z.2.2 ≤ 20
def oStep (b : Nat → Int32) (L : Nat) (Z Y : Zt) : Prop := oInv b L Y ∧ Z.2.2 ≤ Y.2.2 ∧ (pR Y.1 = 0 → Z.2.2 < Y.2.2)
theorem oOne_ok {b : Nat → Int32} {L : Nat} {rp : Zt → Zt} {dp : Bool} {Z : Zt} (h : oInv b L Z) (hr : dp = true → ∀ Y, oInv b L Y → oInv b L (rp Y) ∧ Y.2.2 ≤ (rp Y).2.2) : oStep b L Z (oOne b L rp dp Z) := by
  unfold oOne
  by_cases c : pR (oHead b L Z.2.2 dp Z.1) = 0
  · rw [if_neg (Decidable.not_not.mpr c)]
    obtain ⟨-, h2, h3, -⟩ := oHead_z c
    by_cases c7 : oHere b Z.1 = some 7
    · rw [if_pos c7]
      obtain ⟨h4, h5⟩ := hr (h3 c7) (oRep0 b L (oHead b L Z.2.2 dp Z.1, Z.2)) ⟨pExp_ok (pRead_ok (oHead_ok h.1)), h2⟩
      have h6 : Z.2.2 + 1 ≤ (rp (oRep0 b L (oHead b L Z.2.2 dp Z.1, Z.2))).2.2 := h5
      exact ⟨⟨pExp_ok (pExp_ok h4.1), h4.2⟩, Nat.le_of_succ_le h6, fun _ => h6⟩
    · rw [if_neg c7]
      exact ⟨⟨pExp_ok (oD_ok (oC_ok (oB_ok (oHead_ok h.1)))), h2⟩, Nat.le_succ _, fun _ => Nat.lt_succ_self _⟩
  · rw [if_pos c]
    exact ⟨⟨oHead_ok h.1, h.2⟩, Nat.le_refl _, fun e => absurd e c⟩
theorem oLoop_ok {b : Nat → Int32} {L : Nat} {f : Zt → Zt} (hf : ∀ Z, oInv b L Z → oStep b L Z (f Z)) : ∀ (n : Nat) (Z : Zt), oInv b L Z → oInv b L (oLoop f b n Z) ∧ Z.2.2 ≤ (oLoop f b n Z).2.2
  | 0, Z, h => ⟨h, Nat.le_refl _⟩
  | n + 1, Z, h => by
    by_cases c : pR Z.1 = 0 ∧ pSym b Z.1 41 = false
    · rw [show oLoop f b (n + 1) Z = oLoop f b n (f Z) from if_pos c]
      obtain ⟨h1, h2, -⟩ := hf Z h
      obtain ⟨h3, h4⟩ := oLoop_ok hf n (f Z) h1
      exact ⟨h3, Nat.le_trans h2 h4⟩
    · rw [oLoop_f c]
      exact ⟨h, Nat.le_refl _⟩
theorem oOrd_ok {b : Nat → Int32} {L : Nat} : ∀ (g : Nat) (Z : Zt), oInv b L Z → oStep b L Z (oOrd b L g Z)
  | 0, _, h => oOne_ok h (fun e => Bool.noConfusion e)
  | g + 1, _, h => oOne_ok h (fun _ Y hY => oLoop_ok (fun Z hZ => oOrd_ok g Z hZ) 21 Y hY)
/-- the state while a script is read -/
def MO (G : Gl) (σ : Hp) (a : Nat) (r : Nat → Nat) (z : Nat → Int32) (A : Nat → Nat → Int32) (rw : Nat) (ρ η : Nat → Int32) (Z : Zt) : Prop := MV G σ a r (zP (upd z 27 (nI Z.2.2)) Z.1) (updA A 25 Z.2.1) rw ρ η
def OrdSpec (G : Gl) (a : Nat) (r : Nat → Nat) (b : Nat → Int32) (L g k : Nat) : Prop := ∀ (κ : Kx) (d : Nat) (Q : Option Value → Hp → Prop) (X : String → Hp → Prop) (cs ss : Nat) (σ : Hp) (z : Nat → Int32) (A : Nat → Nat → Int32) (rw : Nat) (ρ η : Nat → Int32) (Z : Zt) (x : Int32), Ok G κ mX13_readOrder (d + k + 4) Q X → MO G σ a r z A rw ρ η Z → A 15 = b → z 17 = nI L → oInv b L Z → x = nI (2 - g) → (∀ σ1 : Hp, MO G σ1 a r z A rw ρ η (oOrd b L g Z) → MF a r σ σ1 → Q none σ1) → AW G κ cs ss 0 [lR a, lI x, none, none] [] σ
theorem MV.ord {G : Gl} {σ : Hp} {a : Nat} {r : Nat → Nat} {z : Nat → Int32} {A : Nat → Nat → Int32} {rw : Nat} {ρ η O : Nat → Int32} (h : MV G σ a r z (updA A 25 O) rw ρ η) : σ (r 25) = some (eI G 80 O) := by
  have h1 := h.arr 25 (Or.inr (Or.inr (Or.inr rfl))) (by rcases h.2.1 with e | e <;> (rw [e]; decide)) (by decide)
  rw [updA_same] at h1
  exact h1
theorem mv_ord {G : Gl} {κ : Kx} {cs ss pc : Nat} {M : List (Option LV)} {st : List Value} {σ : Hp} {a : Nat} {r : Nat → Nat} {z : Nat → Int32} {A : Nat → Nat → Int32} {rw : Nat} {ρ η O : Nat → Int32} (h : MV G σ a r z (updA A 25 O) rw ρ η) {f : Nat → Int32} (kk : ∀ σ1 : Hp, MV G σ1 a r z (updA A 25 f) rw ρ η → MF a r σ σ1 → AW G κ cs ss pc M st σ1) : AW G κ cs ss pc M st (hset σ (r 25) (eI G 80 f)) := mv_A h 25 (Or.inr (Or.inr (Or.inr rfl))) (by rcases h.2.1 with e | e <;> (rw [e]; decide)) (by decide) rfl (fun σ1 h1 f1 => kk σ1 (by rw [updA_updA] at h1; exact h1) f1)
theorem oI_7 {o : Option Nat} (h8 : ∀ k, o = some k → k < 8) (h : oI o = 7) : o = some 7 := by
  cases o with
  | none => exact absurd h (by decide)
  | some k => rw [(nI_eq (b := 7) (by have := h8 k rfl; omega) (by decide)).mp h]
theorem oI_n7 {o : Option Nat} (h : ¬ oI o = 7) : (o != some 7) = true := by
  rw [bne_iff_ne]
  intro e
  exact h (by rw [e]; rfl)
section ModelScript
variable {G : Gl} {κ : Kx} {d : Nat} {Q : Option Value → Hp → Prop} {X : String → Hp → Prop} {cs ss : Nat} {σ : Hp} {a : Nat} {r : Nat → Nat} {z : Nat → Int32} {A : Nat → Nat → Int32} {rw : Nat} {ρ η : Nat → Int32} {L : Nat} {P : Pt} {b : Nat → Int32}
theorem sp_orderHere (hΓ : Ok G κ mX13_orderHere (d + 5) Q X) (h : MV G σ a r (zP z P) A rw ρ η) (hb : A 15 = b) (hL : z 17 = nI L) (hL5 : L ≤ 500) (hP : pOk b L P) (hq : Q (some (.int (oI (oHere b P)))) σ) : AW G κ cs ss 0 [lR a, none] [] σ := by
  obtain ⟨g, hw, hg⟩ := h.words
  suffices loop : ∀ (m i : Nat) (x : Int32), i + m = 8 → x = nI i → (∀ j, j < i → pWrd b P (kwT j) = false) → AW G κ cs ss 2 [lR a, lI x] [] σ by
    refine sX13_orderHere_0 hΓ ?_
    refine sX13_orderHere_1 hΓ ?_
    exact loop 8 0 _ rfl rfl (fun j hj => absurd hj (Nat.not_lt_zero j))
  intro m
  induction m with
  | zero =>
    intro i x hi hx hj
    have ei : i = 8 := by omega
    subst ei
    have e : oHere b P = none := fsB_none _ hj
    rw [e] at hq
    refine sX13_orderHere_2 hΓ rfl ?_
    refine sX13_orderHere_3 hΓ rfl ?_
    refine sX13_orderHere_4 hΓ h.o rfl ?_
    refine sX13_orderHere_7q hΓ (Or.inr (Or.inr rfl)) hw ?_
    refine sX13_orderHere_8 hΓ (fun c8 => ?_) (fun c8 => absurd (lp_out hx (n := 8) rfl (by omega) (by omega)) c8)
    refine sX13_orderHere_32 hΓ ?_
    exact sX13_orderHere_33 hΓ hq
  | succ m ih =>
    intro i x hi hx hj
    have hk : kwT i < 11 := (by decide : ∀ k : Fin 8, kwT k.1 < 11) ⟨i, by omega⟩
    refine sX13_orderHere_2 hΓ rfl ?_
    refine sX13_orderHere_3 hΓ rfl ?_
    refine sX13_orderHere_4 hΓ h.o rfl ?_
    refine sX13_orderHere_7q hΓ (Or.inr (Or.inr rfl)) hw ?_
    refine sX13_orderHere_8 hΓ (fun c8 => absurd c8 (lp_in hx (n := 8) rfl (by omega) (by decide))) (fun c8 => ?_)
    refine sX13_orderHere_11 hΓ rfl ?_
    refine sX13_orderHere_12 hΓ rfl ?_
    refine sX13_orderHere_13 hΓ h.o rfl ?_
    refine sX13_orderHere_16 hΓ rfl ?_
    refine sX13_orderHere_17 hΓ (Or.inr (Or.inr rfl)) hw hx (by omega) (by decide) ?_
    rw [hg i (by omega)]
    refine sX13_orderHere_18 hΓ 0 0 (Nat.le_of_ble_eq_true rfl) h.o (fun κ_18 hΓ_18 => sb_isWord hΓ_18 h hb hL hL5 hP hk ?_)
    show AW G κ _ _ 21 _ _ _
    refine sX13_orderHere_21 hΓ (fun c21 => ?_) (fun c21 => ?_)
    · have e := bI_0 c21
      refine sX13_orderHere_26 hΓ rfl ?_
      refine sX13_orderHere_29 hΓ ?_
      exact ih (i + 1) _ (by omega) (lp_1 hx) (fun j hj2 => (Nat.lt_succ_iff_lt_or_eq.mp hj2).elim (hj j) (fun e1 => by rw [e1]; exact e))
    · have e := bI_n0 c21
      have e2 : oHere b P = some i := fsB_some (fun k => pWrd b P (kwT k)) e hj (by omega)
      rw [e2] at hq
      refine sX13_orderHere_24 hΓ rfl ?_
      exact sX13_orderHere_25 hΓ (by rw [hx]; exact hq)
theorem sp_readFirst (hΓ : Ok G κ mX13_readFirst (d + 5) Q X) (h : MV G σ a r (zP z P) A rw ρ η) (hb : A 15 = b) (hL : z 17 = nI L) (hL5 : L ≤ 500) (hP : pOk b L P) {k : Nat} {x : Int32} (hx : x = nI k) (hk : k < 7) (hq : ∀ σ1 : Hp, MV G σ1 a r (zP z (oB b L k P)) A rw ρ η → MF a r σ σ1 → Q (some (.int (nI (pVl b (fLo k) (fHi k) P)))) σ1) : AW G κ cs ss 0 [lR a, lI x] [] σ := by
  have hk8 : k = 0 ∨ k = 1 ∨ k = 2 ∨ k = 3 ∨ k = 4 ∨ k = 5 ∨ k = 6 := by omega
  subst hx
  suffices fin : ∀ pc, ((k = 0 ∧ pc = 44) ∨ (k = 4 ∨ k = 5) ∧ pc = 53 ∨ k = 6 ∧ pc = 61 ∨ (k = 1 ∨ k = 2 ∨ k = 3) ∧ pc = 69) → AW G κ cs ss pc [lR a, lI (nI k)] [] σ by
    refine sX13_readFirst_0 hΓ rfl ?_
    refine sX13_readFirst_1 hΓ (fun c => fin _ (by have := (nI_eq (b := 0) (by omega) (by decide)).mp c; omega)) (fun c => fin _ (by have := (nI_eq (b := 1) (by omega) (by decide)).mp c; omega)) (fun c => fin _ (by have := (nI_eq (b := 2) (by omega) (by decide)).mp c; omega)) (fun c => fin _ (by have := (nI_eq (b := 3) (by omega) (by decide)).mp c; omega)) (fun c => fin _ (by have := (nI_eq (b := 4) (by omega) (by decide)).mp c; omega)) (fun c => fin _ (by have := (nI_eq (b := 5) (by omega) (by decide)).mp c; omega)) (fun c => fin _ (by have := (nI_eq (b := 6) (by omega) (by decide)).mp c; omega)) (fun c0 c1 c2 c3 c4 c5 c6 => ?_)
    exfalso
    rcases hk8 with e | e | e | e | e | e | e <;> subst e <;> first | exact c0 rfl | exact c1 rfl | exact c2 rfl | exact c3 rfl | exact c4 rfl | exact c5 rfl | exact c6 rfl
  intro pc hpc
  rcases hpc with ⟨e, rfl⟩ | ⟨e, rfl⟩ | ⟨e, rfl⟩ | ⟨e, rfl⟩
  · have e1 : fLo k = 0 ∧ fHi k = 255 := by subst e; exact ⟨rfl, rfl⟩
    rw [oB, e1.1, e1.2] at hq
    refine sX13_readFirst_44 hΓ rfl ?_
    refine sX13_readFirst_45 hΓ ?_
    refine sX13_readFirst_46 hΓ ?_
    refine sX13_readFirst_49 hΓ 0 0 (Nat.le_of_ble_eq_true rfl) h.o (fun κ_49 hΓ_49 => sb_readNumber hΓ_49 h hb hL hL5 hP (lo := 0) (hi := 255) rfl rfl (by decide) (by decide) (fun σ1 h1 f1 => ?_))
    show AW G κ _ _ 52 _ _ _
    exact sX13_readFirst_52 hΓ (hq _ h1 f1)
  · have e1 : fLo k = 0 ∧ fHi k = 23 := by rcases e with e | e <;> subst e <;> exact ⟨rfl, rfl⟩
    rw [oB, e1.1, e1.2] at hq
    refine sX13_readFirst_53 hΓ rfl ?_
    refine sX13_readFirst_54 hΓ ?_
    refine sX13_readFirst_55 hΓ ?_
    refine sX13_readFirst_57 hΓ 0 0 (Nat.le_of_ble_eq_true rfl) h.o (fun κ_57 hΓ_57 => sb_readNumber hΓ_57 h hb hL hL5 hP (lo := 0) (hi := 23) rfl rfl (by decide) (by decide) (fun σ1 h1 f1 => ?_))
    show AW G κ _ _ 60 _ _ _
    exact sX13_readFirst_60 hΓ (hq _ h1 f1)
  · have e1 : fLo k = 1 ∧ fHi k = 60 := by subst e; exact ⟨rfl, rfl⟩
    rw [oB, e1.1, e1.2] at hq
    refine sX13_readFirst_61 hΓ rfl ?_
    refine sX13_readFirst_62 hΓ ?_
    refine sX13_readFirst_63 hΓ ?_
    refine sX13_readFirst_65 hΓ 0 0 (Nat.le_of_ble_eq_true rfl) h.o (fun κ_65 hΓ_65 => sb_readNumber hΓ_65 h hb hL hL5 hP (lo := 1) (hi := 60) rfl rfl (by decide) (by decide) (fun σ1 h1 f1 => ?_))
    show AW G κ _ _ 68 _ _ _
    exact sX13_readFirst_68 hΓ (hq _ h1 f1)
  · have e1 : fLo k = 0 ∧ fHi k = 127 := by rcases e with e | e | e <;> subst e <;> exact ⟨rfl, rfl⟩
    rw [oB, e1.1, e1.2] at hq
    refine sX13_readFirst_69 hΓ rfl ?_
    refine sX13_readFirst_70 hΓ ?_
    refine sX13_readFirst_71 hΓ ?_
    refine sX13_readFirst_73 hΓ 0 0 (Nat.le_of_ble_eq_true rfl) h.o (fun κ_73 hΓ_73 => sb_readNumber hΓ_73 h hb hL hL5 hP (lo := 0) (hi := 127) rfl rfl (by decide) (by decide) (fun σ1 h1 f1 => ?_))
    show AW G κ _ _ 76 _ _ _
    exact sX13_readFirst_76 hΓ (hq _ h1 f1)
theorem sp_readSecond (hΓ : Ok G κ mX13_readSecond (d + 5) Q X) (h : MV G σ a r (zP z P) A rw ρ η) (hb : A 15 = b) (hL : z 17 = nI L) (hL5 : L ≤ 500) (hP : pOk b L P) {k : Nat} {x : Int32} (hx : x = nI k) (hk : k < 8) (hq : ∀ σ1 : Hp, MV G σ1 a r (zP z (oC b L k P)) A rw ρ η → MF a r σ σ1 → Q (some (.int (nI (oCv b k P)))) σ1) : AW G κ cs ss 0 [lR a, lI x] [] σ := by
  subst hx
  suffices fin : ∀ pc, ((k = 0 ∧ pc = 28) ∨ (k = 1 ∧ pc = 37) ∨ (k = 2 ∧ pc = 45) ∨ (¬ k < 3 ∧ pc = 53)) → AW G κ cs ss pc [lR a, lI (nI k)] [] σ by
    refine sX13_readSecond_0 hΓ rfl ?_
    refine sX13_readSecond_1 hΓ (fun c => fin _ (by have := (nI_eq (b := 0) (by omega) (by decide)).mp c; omega)) (fun c => fin _ (by have := (nI_eq (b := 1) (by omega) (by decide)).mp c; omega)) (fun c => fin _ (by have := (nI_eq (b := 2) (by omega) (by decide)).mp c; omega)) (fun c0 c1 c2 => fin _ (Or.inr (Or.inr (Or.inr ⟨fun c => ?_, rfl⟩))))
    have hk3 : k = 0 ∨ k = 1 ∨ k = 2 := by omega
    rcases hk3 with e | e | e <;> subst e <;> first | exact c0 rfl | exact c1 rfl | exact c2 rfl
  intro pc hpc
  rcases hpc with ⟨e, rfl⟩ | ⟨e, rfl⟩ | ⟨e, rfl⟩ | ⟨e, rfl⟩
  · subst e
    rw [show oC b L 0 P = pRead b L 0 255 P from if_pos (by decide), show oCv b 0 P = pVl b 0 255 P from if_pos (by decide)] at hq
    refine sX13_readSecond_28 hΓ rfl ?_
    refine sX13_readSecond_29 hΓ ?_
    refine sX13_readSecond_30 hΓ ?_
    refine sX13_readSecond_33 hΓ 0 0 (Nat.le_of_ble_eq_true rfl) h.o (fun κ_33 hΓ_33 => sb_readNumber hΓ_33 h hb hL hL5 hP (lo := 0) (hi := 255) rfl rfl (by decide) (by decide) (fun σ1 h1 f1 => ?_))
    show AW G κ _ _ 36 _ _ _
    exact sX13_readSecond_36 hΓ (hq _ h1 f1)
  · subst e
    rw [show oC b L 1 P = pRead b L 0 28 P from if_pos (by decide), show oCv b 1 P = pVl b 0 28 P from if_pos (by decide)] at hq
    refine sX13_readSecond_37 hΓ rfl ?_
    refine sX13_readSecond_38 hΓ ?_
    refine sX13_readSecond_39 hΓ ?_
    refine sX13_readSecond_41 hΓ 0 0 (Nat.le_of_ble_eq_true rfl) h.o (fun κ_41 hΓ_41 => sb_readNumber hΓ_41 h hb hL hL5 hP (lo := 0) (hi := 28) rfl rfl (by decide) (by decide) (fun σ1 h1 f1 => ?_))
    show AW G κ _ _ 44 _ _ _
    exact sX13_readSecond_44 hΓ (hq _ h1 f1)
  · subst e
    rw [show oC b L 2 P = pRead b L 0 15 P from if_pos (by decide), show oCv b 2 P = pVl b 0 15 P from if_pos (by decide)] at hq
    refine sX13_readSecond_45 hΓ rfl ?_
    refine sX13_readSecond_46 hΓ ?_
    refine sX13_readSecond_47 hΓ ?_
    refine sX13_readSecond_49 hΓ 0 0 (Nat.le_of_ble_eq_true rfl) h.o (fun κ_49 hΓ_49 => sb_readNumber hΓ_49 h hb hL hL5 hP (lo := 0) (hi := 15) rfl rfl (by decide) (by decide) (fun σ1 h1 f1 => ?_))
    show AW G κ _ _ 52 _ _ _
    exact sX13_readSecond_52 hΓ (hq _ h1 f1)
  · rw [show oC b L k P = P from if_neg e, show oCv b k P = 0 from if_neg e] at hq
    refine sX13_readSecond_53 hΓ ?_
    exact sX13_readSecond_54 hΓ (hq _ h MF.rf)
variable {O : Nat → Int32} {oc g : Nat}
theorem sp_readRepeat {k i : Nat} (hΓ : Ok G κ mX13_readRepeat (d + k + 5) Q X) (h : MV G σ a r (zP (upd z 27 (nI (oc + 1))) P) (updA A 25 (oSet O i 0 (nI 7))) rw ρ η) (hb : A 15 = b) (hL : z 17 = nI L) (hL5 : L ≤ 500) (ih0 : OrdSpec G a r b L g k) (hP : pOk b L P) {x y : Int32} (hx : x = nI (4 * i)) (hi : i < 20) (hoc : oc + 1 ≤ 20) {e : Nat} (hy : y = nI e) (hgy : nI e + 1 = nI (2 - g)) (hq : ∀ σ1 : Hp, MV G σ1 a r (zP (upd z 27 (nI (oLoop (oOrd b L g) b 21 ((pExp b L 40 (pRead b L 2 5 P)), oSet (oSet O i 0 (nI 7)) i 1 (nI (pVl b 2 5 P)), oc + 1)).2.2)) (pExp b L 41 (oLoop (oOrd b L g) b 21 ((pExp b L 40 (pRead b L 2 5 P)), oSet (oSet O i 0 (nI 7)) i 1 (nI (pVl b 2 5 P)), oc + 1)).1)) (updA A 25 (oSet (oLoop (oOrd b L g) b 21 ((pExp b L 40 (pRead b L 2 5 P)), oSet (oSet O i 0 (nI 7)) i 1 (nI (pVl b 2 5 P)), oc + 1)).2.1 i 2 (nI (oLoop (oOrd b L g) b 21 ((pExp b L 40 (pRead b L 2 5 P)), oSet (oSet O i 0 (nI 7)) i 1 (nI (pVl b 2 5 P)), oc + 1)).2.2))) rw ρ η → MF a r σ σ1 → Q none σ1) : AW G κ cs ss 0 [lR a, lI x, lI y] [] σ := by
  suffices loop : ∀ (m : Nat) (Y : Zt) (σ2 : Hp), oInv b L Y → (pR Y.1 = 0 → 20 < Y.2.2 + m) → MO G σ2 a r z A rw ρ η Y → MF a r σ σ2 → (∀ σ1 : Hp, MV G σ1 a r (zP (upd z 27 (nI (oLoop (oOrd b L g) b m Y).2.2)) (pExp b L 41 (oLoop (oOrd b L g) b m Y).1)) (updA A 25 (oSet (oLoop (oOrd b L g) b m Y).2.1 i 2 (nI (oLoop (oOrd b L g) b m Y).2.2))) rw ρ η → MF a r σ σ1 → Q none σ1) → AW G κ cs ss 20 [lR a, lI x, lI y] [] σ2 by
    have h : MV G σ a r (zP (upd z 27 (nI (oc + 1))) P) (updA A 25 (oSet O i 0 (nI 7))) rw ρ η := h
    refine sX13_readRepeat_0 hΓ rfl ?_
    refine sX13_readRepeat_1 hΓ h.o rfl ?_
    refine sX13_readRepeat_4 hΓ rfl ?_
    refine sX13_readRepeat_5 hΓ ?_
    refine sX13_readRepeat_6 hΓ ?_
    refine sX13_readRepeat_7 hΓ rfl ?_
    refine sX13_readRepeat_8 hΓ ?_
    refine sX13_readRepeat_9 hΓ ?_
    refine sX13_readRepeat_10 hΓ 0 0 (Nat.le_of_ble_eq_true rfl) h.o (fun κ_10 hΓ_10 => sb_readNumber hΓ_10 h (show updA A 25 _ 15 = b from hb) (show upd z 27 _ 17 = nI L from hL) hL5 hP (lo := 2) (hi := 5) rfl rfl (by decide) (by decide) (fun σ1 h1 f1 => ?_))
    show AW G κ _ _ 13 _ _ _
    refine sX13_readRepeat_13 hΓ h1.ord (by rw [hx]; exact nI_add (4 * i) 1) (by omega) (by decide) (mv_ord h1 (fun σ2 h2 f2 => ?_))
    refine sX13_readRepeat_14 hΓ rfl ?_
    refine sX13_readRepeat_15 hΓ ?_
    refine sX13_readRepeat_17 hΓ 0 0 (Nat.le_of_ble_eq_true rfl) h2.o (fun κ_17 hΓ_17 => sb_expect hΓ_17 h2 (show updA A 25 _ 15 = b from hb) (show upd z 27 _ 17 = nI L from hL) hL5 (pRead_ok hP) (fun σ3 h3 f3 => ?_))
    show AW G κ _ _ 20 _ _ _
    exact loop 21 (pExp b L 40 (pRead b L 2 5 P), oSet (oSet O i 0 (nI 7)) i 1 (nI (pVl b 2 5 P)), oc + 1) _ ⟨pExp_ok (pRead_ok hP), hoc⟩ (fun _ => by show 20 < oc + 1 + 21; omega) h3 ((f1.tr f2).tr f3) hq
  intro m
  induction m with
  | zero =>
    intro Y σ2 hY hm h2 f2 hq
    have h0 : ¬ pR Y.1 = 0 := fun c => by have := hm c; have := hY.2; omega
    obtain ⟨P1, O1, oc1⟩ := Y
    have h2 : MV G σ2 a r (zP (upd z 27 (nI oc1)) P1) (updA A 25 O1) rw ρ η := h2
    refine sX13_readRepeat_20 hΓ rfl ?_
    refine sX13_readRepeat_21 hΓ h2.o rfl ?_
    refine sX13_readRepeat_24 hΓ (fun c24 => ?_) (fun c24 => absurd (nR_0 hY.1.1 c24) h0)
    refine sX13_readRepeat_46 hΓ rfl ?_
    refine sX13_readRepeat_47 hΓ ?_
    refine sX13_readRepeat_49 hΓ 0 0 (Nat.le_of_ble_eq_true rfl) h2.o (fun κ_49 hΓ_49 => sb_expect hΓ_49 h2 (show updA A 25 _ 15 = b from hb) (show upd z 27 _ 17 = nI L from hL) hL5 hY.1 (fun σ21 h21 f21 => ?_))
    show AW G κ _ _ 52 _ _ _
    refine sX13_readRepeat_52 hΓ rfl ?_
    refine sX13_readRepeat_53 hΓ h21.o rfl ?_
    refine sX13_readRepeat_56 hΓ rfl ?_
    refine sX13_readRepeat_57 hΓ ?_
    refine sX13_readRepeat_58 hΓ ?_
    refine sX13_readRepeat_59 hΓ rfl ?_
    refine sX13_readRepeat_60 hΓ h21.o rfl ?_
    refine sX13_readRepeat_63 hΓ h21.ord (by rw [hx]; exact nI_add (4 * i) 2) (by omega) (by decide) (mv_ord h21 (fun σ22 h22 f22 => ?_))
    exact sX13_readRepeat_64 hΓ (hq _ h22 ((f2.tr f21).tr f22))
  | succ m ih =>
    intro Y σ2 hY hm h2 f2 hq
    obtain ⟨P1, O1, oc1⟩ := Y
    have h2 : MV G σ2 a r (zP (upd z 27 (nI oc1)) P1) (updA A 25 O1) rw ρ η := h2
    refine sX13_readRepeat_20 hΓ rfl ?_
    refine sX13_readRepeat_21 hΓ h2.o rfl ?_
    refine sX13_readRepeat_24 hΓ (fun c24 => ?_) (fun c24 => ?_)
    · rw [oLoop_f (fun c => nR_n c24 c.1)] at hq
      refine sX13_readRepeat_46 hΓ rfl ?_
      refine sX13_readRepeat_47 hΓ ?_
      refine sX13_readRepeat_49 hΓ 0 0 (Nat.le_of_ble_eq_true rfl) h2.o (fun κ_49 hΓ_49 => sb_expect hΓ_49 h2 (show updA A 25 _ 15 = b from hb) (show upd z 27 _ 17 = nI L from hL) hL5 hY.1 (fun σ41 h41 f41 => ?_))
      show AW G κ _ _ 52 _ _ _
      refine sX13_readRepeat_52 hΓ rfl ?_
      refine sX13_readRepeat_53 hΓ h41.o rfl ?_
      refine sX13_readRepeat_56 hΓ rfl ?_
      refine sX13_readRepeat_57 hΓ ?_
      refine sX13_readRepeat_58 hΓ ?_
      refine sX13_readRepeat_59 hΓ rfl ?_
      refine sX13_readRepeat_60 hΓ h41.o rfl ?_
      refine sX13_readRepeat_63 hΓ h41.ord (by rw [hx]; exact nI_add (4 * i) 2) (by omega) (by decide) (mv_ord h41 (fun σ42 h42 f42 => ?_))
      exact sX13_readRepeat_64 hΓ (hq _ h42 ((f2.tr f41).tr f42))
    · refine sX13_readRepeat_27 hΓ rfl ?_
      refine sX13_readRepeat_28 hΓ ?_
      refine sX13_readRepeat_30 hΓ 0 0 (Nat.le_of_ble_eq_true rfl) h2.o (fun κ_30 hΓ_30 => sb_isSymbol hΓ_30 h2 (show updA A 25 _ 15 = b from hb) (show upd z 27 _ 17 = nI L from hL) hL5 hY.1 ?_)
      show AW G κ _ _ 33 _ _ _
      refine sX13_readRepeat_33 hΓ (fun c33 => ?_) (fun c33 => ?_)
      · rw [oLoop_f (fun c => absurd c.2 (by rw [bI_n0 c33]; decide))] at hq
        refine sX13_readRepeat_46 hΓ rfl ?_
        refine sX13_readRepeat_47 hΓ ?_
        refine sX13_readRepeat_49 hΓ 0 0 (Nat.le_of_ble_eq_true rfl) h2.o (fun κ_49 hΓ_49 => sb_expect hΓ_49 h2 (show updA A 25 _ 15 = b from hb) (show upd z 27 _ 17 = nI L from hL) hL5 hY.1 (fun σ43 h43 f43 => ?_))
        show AW G κ _ _ 52 _ _ _
        refine sX13_readRepeat_52 hΓ rfl ?_
        refine sX13_readRepeat_53 hΓ h43.o rfl ?_
        refine sX13_readRepeat_56 hΓ rfl ?_
        refine sX13_readRepeat_57 hΓ ?_
        refine sX13_readRepeat_58 hΓ ?_
        refine sX13_readRepeat_59 hΓ rfl ?_
        refine sX13_readRepeat_60 hΓ h43.o rfl ?_
        refine sX13_readRepeat_63 hΓ h43.ord (by rw [hx]; exact nI_add (4 * i) 2) (by omega) (by decide) (mv_ord h43 (fun σ44 h44 f44 => ?_))
        exact sX13_readRepeat_64 hΓ (hq _ h44 ((f2.tr f43).tr f44))
      · have c : pR P1 = 0 ∧ pSym b P1 41 = false := ⟨nR_0 hY.1.1 c24, bI_0 c33⟩
        rw [show oLoop (oOrd b L g) b (m + 1) (P1, O1, oc1) = oLoop (oOrd b L g) b m (oOrd b L g (P1, O1, oc1)) from if_pos c] at hq
        obtain ⟨t1, t2, t3⟩ := oOrd_ok g (P1, O1, oc1) hY
        have hm1 := hm c.1
        refine sX13_readRepeat_36 hΓ rfl ?_
        refine sX13_readRepeat_37 hΓ rfl ?_
        refine sX13_readRepeat_38 hΓ ?_
        refine sX13_readRepeat_39 hΓ ?_
        refine sX13_readRepeat_40 hΓ 0 0 (Nat.le_of_ble_eq_true rfl) h2.o (fun κ_40 hΓ_40 => ih0 _ d _ _ _ _ _ z A rw ρ η (P1, O1, oc1) _ hΓ_40 h2 hb hL hY (by rw [hy]; exact hgy) (fun σ99 h99 f99 => ?_))
        show AW G κ _ _ 43 _ _ _
        refine sX13_readRepeat_43 hΓ ?_
        exact ih _ _ t1 (fun c9 => by have := t3 c9; have t4 : oc1 < (oOrd b L g (P1, O1, oc1)).2.2 := this; have hm2 : 20 < oc1 + (m + 1) := hm1; omega) h99 (f2.tr f99) hq
theorem oHere_lt {b : Nat → Int32} {P : Pt} {k : Nat} (h : oHere b P = some k) : k < 8 := (fsB_lt _ h).1
theorem isSome_f {o : Option Nat} (h8 : ∀ k, o = some k → k < 8) (h : oI o = -1) : o.isSome = false := by
  cases o with
  | none => rfl
  | some k => exact absurd h (by have := h8 k rfl; exact fun e => absurd (show nI k < 0 from by rw [show nI k = -1 from e]; decide) (nI_pos (by omega)))
theorem isSome_t {o : Option Nat} (h : ¬ oI o = -1) : o.isSome = true := by
  cases o with
  | none => exact absurd rfl h
  | some k => rfl
theorem sp_readOrder {k e : Nat} {dp : Bool} {rp : Zt → Zt} (hΓ : Ok G κ mX13_readOrder (d + k + 6) Q X) (h : MO G σ a r z A rw ρ η (P, O, oc)) (hb : A 15 = b) (hL : z 17 = nI L) (hL5 : L ≤ 500) (hI : oInv b L (P, O, oc)) {x : Int32} (hx : x = nI e) (he : e ≤ 2) (hdp : dp = decide (e < 2)) (hrep : dp = true → OrdSpec G a r b L g k ∧ nI e + 1 = nI (2 - g)) (hrp : dp = true → rp = oLoop (oOrd b L g) b 21) (hq : ∀ σ1 : Hp, MO G σ1 a r z A rw ρ η (oOne b L rp dp (P, O, oc)) → MF a r σ σ1 → Q none σ1) : AW G κ cs ss 0 [lR a, lI x, none, none] [] σ := by
  have hP := hI.1
  have hoc : oc ≤ 20 := hI.2
  have h8 : ∀ k, oHere b P = some k → k < 8 := fun k => oHere_lt
  have h : MV G σ a r (zP (upd z 27 (nI oc)) P) (updA A 25 O) rw ρ η := h
  have hP1 : pOk b L (pCk (oHere b P).isSome 1 P) := pCk_ok (by decide) hP
  suffices at57 : ∀ σ2 : Hp, MV G σ2 a r (zP (upd z 27 (nI oc)) (pCk (pR (pCk (oHere b P).isSome 1 P) != 0 || (decide (oc < 20) && (oHere b P != some 7 || dp))) 4 (pCk (oHere b P).isSome 1 P))) (updA A 25 O) rw ρ η → MF a r σ σ2 → AW G κ cs ss 57 [lR a, lI x, lI (oI (oHere b P)), none] [] σ2 by
    suffices at20 : ∀ σ2 : Hp, MV G σ2 a r (zP (upd z 27 (nI oc)) (pCk (oHere b P).isSome 1 P)) (updA A 25 O) rw ρ η → MF a r σ σ2 → AW G κ cs ss 20 [lR a, lI x, lI (oI (oHere b P)), none] [] σ2 by
      refine sX13_readOrder_0 hΓ rfl ?_
      refine sX13_readOrder_1 hΓ 0 0 (Nat.le_of_ble_eq_true rfl) h.o (fun κ_1 hΓ_1 => sp_orderHere hΓ_1 h (show updA A 25 _ 15 = b from hb) (show upd z 27 _ 17 = nI L from hL) hL5 hP ?_)
      show AW G κ _ _ 4 _ _ _
      refine sX13_readOrder_4 hΓ ?_
      refine sX13_readOrder_5 hΓ rfl ?_
      refine sX13_readOrder_6 hΓ rfl ?_
      refine sX13_readOrder_7 hΓ ?_
      refine sX13_readOrder_8 hΓ (fun c8 => ?_) (fun c8 => ?_)
      · have e9 := isSome_f h8 c8
        have e8 : bI (oHere b P).isSome = 0 := by rw [e9]; rfl
        refine sX13_readOrder_15 hΓ ?_
        refine sX13_readOrder_16 hΓ ?_
        refine sX13_readOrder_17 hΓ 0 0 (Nat.le_of_ble_eq_true rfl) h.o (fun κ_17 hΓ_17 => sp_check hΓ_17 h (c := (oHere b P).isSome) e8.symm (n := 1) rfl hP.1 (fun σ1 h1 f1 => ?_))
        show AW G κ _ _ 20 _ _ _
        exact at20 _ h1 f1
      · have e9 := isSome_t c8
        have e8 : bI (oHere b P).isSome = 1 := by rw [e9]; rfl
        refine sX13_readOrder_11 hΓ ?_
        refine sX13_readOrder_12 hΓ ?_
        refine sX13_readOrder_16 hΓ ?_
        refine sX13_readOrder_17 hΓ 0 0 (Nat.le_of_ble_eq_true rfl) h.o (fun κ_17 hΓ_17 => sp_check hΓ_17 h (c := (oHere b P).isSome) e8.symm (n := 1) rfl hP.1 (fun σ2 h2 f2 => ?_))
        show AW G κ _ _ 20 _ _ _
        exact at20 _ h2 f2
    intro σ2 h2 f2
    refine sX13_readOrder_20 hΓ rfl ?_
    refine sX13_readOrder_21 hΓ rfl ?_
    refine sX13_readOrder_22 hΓ h2.o rfl ?_
    refine sX13_readOrder_25 hΓ (fun c25 => ?_) (fun c25 => ?_)
    · have e8 : bI (pR (pCk (oHere b P).isSome 1 P) != 0 || (decide (oc < 20) && (oHere b P != some 7 || dp))) = 1 := by rw [show (pR (pCk (oHere b P).isSome 1 P) != 0) = true from bne_iff_ne.mpr (nR_n c25)]; rfl
      refine sX13_readOrder_48 hΓ ?_
      refine sX13_readOrder_49 hΓ ?_
      refine sX13_readOrder_53 hΓ ?_
      refine sX13_readOrder_54 hΓ 0 0 (Nat.le_of_ble_eq_true rfl) h2.o (fun κ_54 hΓ_54 => sp_check hΓ_54 h2 (c := pR (pCk (oHere b P).isSome 1 P) != 0 || (decide (oc < 20) && (oHere b P != some 7 || dp))) e8.symm (n := 4) rfl hP1.1 (fun σ21 h21 f21 => ?_))
      show AW G κ _ _ 57 _ _ _
      exact at57 _ h21 (f2.tr f21)
    · have e0 : pR (pCk (oHere b P).isSome 1 P) = 0 := nR_0 hP1.1 c25
      refine sX13_readOrder_28 hΓ rfl ?_
      refine sX13_readOrder_29 hΓ h2.o rfl ?_
      refine sX13_readOrder_32 hΓ ?_
      refine sX13_readOrder_34 hΓ (fun c34 => ?_) (fun c34 => ?_)
      · have e8 : bI (pR (pCk (oHere b P).isSome 1 P) != 0 || (decide (oc < 20) && (oHere b P != some 7 || dp))) = 0 := by rw [e0, decide_eq_false (Nat.not_lt.mpr (nI_lez (i := 20) (n := oc) rfl rfl (by decide) (by omega) c34))]; rfl
        refine sX13_readOrder_52 hΓ ?_
        refine sX13_readOrder_53 hΓ ?_
        refine sX13_readOrder_54 hΓ 0 0 (Nat.le_of_ble_eq_true rfl) h2.o (fun κ_54 hΓ_54 => sp_check hΓ_54 h2 (c := pR (pCk (oHere b P).isSome 1 P) != 0 || (decide (oc < 20) && (oHere b P != some 7 || dp))) e8.symm (n := 4) rfl hP1.1 (fun σ22 h22 f22 => ?_))
        show AW G κ _ _ 57 _ _ _
        exact at57 _ h22 (f2.tr f22)
      · have e1 : oc < 20 := Nat.lt_of_not_le (fun c => c34 (nI_le (a := 20) c (by omega)))
        refine sX13_readOrder_37 hΓ rfl ?_
        refine sX13_readOrder_38 hΓ ?_
        refine sX13_readOrder_40 hΓ (fun c40 => ?_) (fun c40 => ?_)
        · have e8 : bI (pR (pCk (oHere b P).isSome 1 P) != 0 || (decide (oc < 20) && (oHere b P != some 7 || dp))) = 1 := by rw [e0, decide_eq_true e1, oI_n7 c40]; rfl
          refine sX13_readOrder_48 hΓ ?_
          refine sX13_readOrder_49 hΓ ?_
          refine sX13_readOrder_53 hΓ ?_
          refine sX13_readOrder_54 hΓ 0 0 (Nat.le_of_ble_eq_true rfl) h2.o (fun κ_54 hΓ_54 => sp_check hΓ_54 h2 (c := pR (pCk (oHere b P).isSome 1 P) != 0 || (decide (oc < 20) && (oHere b P != some 7 || dp))) e8.symm (n := 4) rfl hP1.1 (fun σ23 h23 f23 => ?_))
          show AW G κ _ _ 57 _ _ _
          exact at57 _ h23 (f2.tr f23)
        · have e2 := oI_7 h8 c40
          refine sX13_readOrder_43 hΓ rfl ?_
          refine sX13_readOrder_44 hΓ ?_
          refine sX13_readOrder_45 hΓ (fun c45 => ?_) (fun c45 => ?_)
          · have e8 : bI (pR (pCk (oHere b P).isSome 1 P) != 0 || (decide (oc < 20) && (oHere b P != some 7 || dp))) = 0 := by rw [e0, decide_eq_true e1, e2, hdp, decide_eq_false (Nat.not_lt.mpr (nI_lez (i := 2) (n := e) rfl hx (by decide) (by omega) c45))]; rfl
            refine sX13_readOrder_52 hΓ ?_
            refine sX13_readOrder_53 hΓ ?_
            refine sX13_readOrder_54 hΓ 0 0 (Nat.le_of_ble_eq_true rfl) h2.o (fun κ_54 hΓ_54 => sp_check hΓ_54 h2 (c := pR (pCk (oHere b P).isSome 1 P) != 0 || (decide (oc < 20) && (oHere b P != some 7 || dp))) e8.symm (n := 4) rfl hP1.1 (fun σ24 h24 f24 => ?_))
            show AW G κ _ _ 57 _ _ _
            exact at57 _ h24 (f2.tr f24)
          · have e8 : bI (pR (pCk (oHere b P).isSome 1 P) != 0 || (decide (oc < 20) && (oHere b P != some 7 || dp))) = 1 := by rw [e0, decide_eq_true e1, e2, hdp, decide_eq_true (Nat.lt_of_not_le (fun c => c45 (by rw [hx]; exact nI_le (a := 2) c (by omega))))]; rfl
            refine sX13_readOrder_48 hΓ ?_
            refine sX13_readOrder_49 hΓ ?_
            refine sX13_readOrder_53 hΓ ?_
            refine sX13_readOrder_54 hΓ 0 0 (Nat.le_of_ble_eq_true rfl) h2.o (fun κ_54 hΓ_54 => sp_check hΓ_54 h2 (c := pR (pCk (oHere b P).isSome 1 P) != 0 || (decide (oc < 20) && (oHere b P != some 7 || dp))) e8.symm (n := 4) rfl hP1.1 (fun σ25 h25 f25 => ?_))
            show AW G κ _ _ 57 _ _ _
            exact at57 _ h25 (f2.tr f25)
  intro σ2 h2 f2
  have hH : pOk b L (oHead b L oc dp P) := oHead_ok hP
  suffices at69 : ∀ σ3 : Hp, pR (oHead b L oc dp P) = 0 → MV G σ3 a r (zP (upd z 27 (nI oc)) (oHead b L oc dp P)) (updA A 25 O) rw ρ η → MF a r σ σ3 → AW G κ cs ss 69 [lR a, lI x, lI (oI (oHere b P)), none] [] σ3 by
    refine sX13_readOrder_57 hΓ rfl ?_
    refine sX13_readOrder_58 hΓ 0 0 (Nat.le_of_ble_eq_true rfl) h2.o (fun κ_58 hΓ_58 => sb_goOn hΓ_58 h2 (show updA A 25 _ 15 = b from hb) (show upd z 27 _ 17 = nI L from hL) hL5 (pCk_ok (by decide) hP1) (fun σ41 h41 f41 => ?_))
    show AW G κ _ _ 61 _ _ _
    refine sX13_readOrder_61 hΓ rfl ?_
    refine sX13_readOrder_62 hΓ h41.o rfl ?_
    refine sX13_readOrder_65 hΓ (fun c65 => ?_) (fun c65 => ?_)
    · exact at69 _ (nR_0 hH.1 c65) h41 (f2.tr f41)
    · have e0 : ¬ pR (oHead b L oc dp P) = 0 := nR_n c65
      rw [show oOne b L rp dp (P, O, oc) = (oHead b L oc dp P, O, oc) from if_pos e0] at hq
      exact sX13_readOrder_68 hΓ (hq _ h41 (f2.tr f41))
  intro σ3 e0 h3 f3
  obtain ⟨⟨k0, hk0, hk8⟩, hc20, h7, -⟩ := oHead_z e0
  rw [hk0]
  have e4 : (4 : Int32) * nI oc = nI (4 * oc) := pk_mul 4 oc
  by_cases c7 : k0 = 7
  · subst c7
    obtain ⟨ih0, hgy⟩ := hrep (h7 hk0)
    rw [show oOne b L rp dp (P, O, oc) = oRep1 b L oc (rp (oRep0 b L (oHead b L oc dp P, O, oc))) from (if_neg (Decidable.not_not.mpr e0)).trans (if_pos hk0), hrp (h7 hk0)] at hq
    obtain ⟨hl1, hl2⟩ := oLoop_ok (fun Z hZ => oOrd_ok g Z hZ) 21 (oRep0 b L (oHead b L oc dp P, O, oc)) ⟨pExp_ok (pRead_ok hH), hc20⟩
    refine sX13_readOrder_69 hΓ ?_
    refine sX13_readOrder_70 hΓ rfl ?_
    refine sX13_readOrder_71 hΓ h3.o rfl ?_
    refine sX13_readOrder_74 hΓ ?_
    refine sX13_readOrder_75 hΓ ?_
    refine sX13_readOrder_76 hΓ rfl ?_
    refine sX13_readOrder_77 hΓ h3.o rfl ?_
    refine sX13_readOrder_80 hΓ rfl ?_
    refine sX13_readOrder_81 hΓ rfl ?_
    refine sX13_readOrder_82 hΓ h3.ord (j := 4 * oc + 0) e4 (by omega) (by decide) (mv_ord h3 (fun σ61 h61 f61 => ?_))
    refine sX13_readOrder_83 hΓ rfl ?_
    refine sX13_readOrder_84 hΓ ?_
    refine sX13_readOrder_85 hΓ h61.o rfl ?_
    refine sX13_readOrder_88 hΓ ?_
    refine sX13_readOrder_89 hΓ ?_
    refine sX13_readOrder_90 hΓ h61.o  (Nat.le_of_ble_eq_true rfl) (mv_z h61 (zP (upd z 27 (nI oc + 1)) (oHead b L oc dp P)) rfl (fun σ62 h62 f62 => ?_))
    refine sX13_readOrder_93 hΓ rfl ?_
    refine sX13_readOrder_94 hΓ ?_
    refine sX13_readOrder_96 hΓ (fun c96 => absurd rfl c96) (fun c96 => ?_)
    refine sX13_readOrder_99 hΓ rfl ?_
    refine sX13_readOrder_100 hΓ rfl ?_
    refine sX13_readOrder_101 hΓ rfl ?_
    refine sX13_readOrder_102 hΓ 0 0 (Nat.le_of_ble_eq_true rfl) h62.o (fun κ_102 hΓ_102 => sp_readRepeat hΓ_102 (by rw [nI_1] at h62; exact h62) hb hL hL5 ih0 hH (i := oc) e4 hc20 hc20 (e := e) hx hgy (fun σ63 h63 f63 => ?_))
    show AW G κ _ _ 105 _ _ _
    refine sX13_readOrder_105 hΓ ?_
    refine sX13_readOrder_158 hΓ rfl ?_
    refine sX13_readOrder_159 hΓ ?_
    refine sX13_readOrder_161 hΓ 0 0 (Nat.le_of_ble_eq_true rfl) h63.o (fun κ_161 hΓ_161 => sb_expect hΓ_161 h63 (show updA A 25 _ 15 = b from hb) (show upd z 27 _ 17 = nI L from hL) hL5 (pExp_ok hl1.1) (fun σ64 h64 f64 => ?_))
    show AW G κ _ _ 164 _ _ _
    exact sX13_readOrder_164 hΓ (hq _ h64 ((((f3.tr f61).tr f62).tr f63).tr f64))
  · have hk7 : k0 < 7 := by omega
    have c7' : ¬ oHere b P = some 7 := fun e9 => c7 (Option.some.inj (hk0.symm.trans e9))
    rw [show oOne b L rp dp (P, O, oc) = oPlain b L ((oHere b P).getD 0) (oHead b L oc dp P, O, oc) from (if_neg (Decidable.not_not.mpr e0)).trans (if_neg c7'), hk0] at hq
    refine sX13_readOrder_69 hΓ ?_
    refine sX13_readOrder_70 hΓ rfl ?_
    refine sX13_readOrder_71 hΓ h3.o rfl ?_
    refine sX13_readOrder_74 hΓ ?_
    refine sX13_readOrder_75 hΓ ?_
    refine sX13_readOrder_76 hΓ rfl ?_
    refine sX13_readOrder_77 hΓ h3.o rfl ?_
    refine sX13_readOrder_80 hΓ rfl ?_
    refine sX13_readOrder_81 hΓ rfl ?_
    refine sX13_readOrder_82 hΓ h3.ord (j := 4 * oc + 0) e4 (by omega) (by decide) (mv_ord h3 (fun σ81 h81 f81 => ?_))
    refine sX13_readOrder_83 hΓ rfl ?_
    refine sX13_readOrder_84 hΓ ?_
    refine sX13_readOrder_85 hΓ h81.o rfl ?_
    refine sX13_readOrder_88 hΓ ?_
    refine sX13_readOrder_89 hΓ ?_
    refine sX13_readOrder_90 hΓ h81.o  (Nat.le_of_ble_eq_true rfl) (mv_z h81 (zP (upd z 27 (nI oc + 1)) (oHead b L oc dp P)) rfl (fun σ82 h82 f82 => ?_))
    refine sX13_readOrder_93 hΓ rfl ?_
    refine sX13_readOrder_94 hΓ ?_
    refine sX13_readOrder_96 hΓ (fun c96 => ?_) (fun c96 => absurd ((nI_eq (b := 7) (by omega) (by decide)).mp c96) c7)
    refine sX13_readOrder_108 hΓ rfl ?_
    refine sX13_readOrder_109 hΓ h82.o rfl ?_
    refine sX13_readOrder_112 hΓ rfl ?_
    refine sX13_readOrder_113 hΓ ?_
    refine sX13_readOrder_114 hΓ ?_
    refine sX13_readOrder_115 hΓ rfl ?_
    refine sX13_readOrder_116 hΓ rfl ?_
    refine sX13_readOrder_117 hΓ 0 0 (Nat.le_of_ble_eq_true rfl) h82.o (fun κ_117 hΓ_117 => sp_readFirst hΓ_117 h82 (show updA A 25 _ 15 = b from hb) (show upd z 27 _ 17 = nI L from hL) hL5 hH rfl hk7 (fun σ83 h83 f83 => ?_))
    show AW G κ _ _ 120 _ _ _
    refine sX13_readOrder_120 hΓ h83.ord (j := 4 * oc + 1) ((congrArg (fun t => t + 1) e4).trans (nI_add (4 * oc) 1)) (by omega) (by decide) (mv_ord h83 (fun σ84 h84 f84 => ?_))
    refine sX13_readOrder_121 hΓ rfl ?_
    refine sX13_readOrder_122 hΓ h84.o rfl ?_
    refine sX13_readOrder_125 hΓ rfl ?_
    refine sX13_readOrder_126 hΓ ?_
    refine sX13_readOrder_127 hΓ ?_
    refine sX13_readOrder_128 hΓ rfl ?_
    refine sX13_readOrder_129 hΓ rfl ?_
    refine sX13_readOrder_130 hΓ 0 0 (Nat.le_of_ble_eq_true rfl) h84.o (fun κ_130 hΓ_130 => sp_readSecond hΓ_130 h84 (show updA A 25 _ 15 = b from hb) (show upd z 27 _ 17 = nI L from hL) hL5 (oB_ok hH) rfl hk8 (fun σ85 h85 f85 => ?_))
    show AW G κ _ _ 133 _ _ _
    refine sX13_readOrder_133 hΓ h85.ord (j := 4 * oc + 2) ((congrArg (fun t => t + 2) e4).trans (nI_add (4 * oc) 2)) (by omega) (by decide) (mv_ord h85 (fun σ86 h86 f86 => ?_))
    refine sX13_readOrder_134 hΓ rfl ?_
    refine sX13_readOrder_135 hΓ h86.o rfl ?_
    refine sX13_readOrder_138 hΓ rfl ?_
    refine sX13_readOrder_139 hΓ ?_
    refine sX13_readOrder_140 hΓ ?_
    refine sX13_readOrder_141 hΓ rfl ?_
    refine sX13_readOrder_142 hΓ (fun c142 => ?_) (fun c142 => ?_)
    · have e9 : ¬ k0 = 0 := fun e => c142 (by show nI k0 = 0; rw [e]; rfl)
      have eD : oD b L k0 (oC b L k0 (oB b L k0 (oHead b L oc dp P))) = oC b L k0 (oB b L k0 (oHead b L oc dp P)) := if_neg e9
      have eV : oDv b k0 (oC b L k0 (oB b L k0 (oHead b L oc dp P))) = 0 := if_neg e9
      refine sX13_readOrder_156 hΓ ?_
      refine sX13_readOrder_157 hΓ h86.ord (j := 4 * oc + 3) ((congrArg (fun t => t + 3) e4).trans (nI_add (4 * oc) 3)) (by omega) (by decide) (mv_ord h86 (fun σ87 h87 f87 => ?_))
      refine sX13_readOrder_158 hΓ rfl ?_
      refine sX13_readOrder_159 hΓ ?_
      refine sX13_readOrder_161 hΓ 0 0 (Nat.le_of_ble_eq_true rfl) h87.o (fun κ_161 hΓ_161 => sb_expect hΓ_161 h87 (show updA A 25 _ 15 = b from hb) (show upd z 27 _ 17 = nI L from hL) hL5 (by rw [← eD]; exact oD_ok (oC_ok (oB_ok hH))) (fun σ88 h88 f88 => ?_))
      show AW G κ _ _ 164 _ _ _
      exact sX13_readOrder_164 hΓ (hq _ (by unfold oPlain; rw [show ((some k0).getD 0 : Nat) = k0 from rfl]; show MV G _ a r (zP (upd z 27 (nI (oc + 1))) (pExp b L 59 (oD b L k0 (oC b L k0 (oB b L k0 (oHead b L oc dp P)))))) (updA A 25 (oSet (oSet (oSet (oSet O oc 0 (nI k0)) oc 1 _) oc 2 _) oc 3 (nI (oDv b k0 (oC b L k0 (oB b L k0 (oHead b L oc dp P))))))) rw ρ η; rw [eD, eV, ← nI_1]; exact h88) ((((((((f3.tr f81).tr f82).tr f83).tr f84).tr f85).tr f86).tr f87).tr f88))
    · have e9 : k0 = 0 := nI_z (by omega) c142
      have eD : oD b L k0 (oC b L k0 (oB b L k0 (oHead b L oc dp P))) = pRead b L 0 255 (oC b L k0 (oB b L k0 (oHead b L oc dp P))) := if_pos e9
      have eV : oDv b k0 (oC b L k0 (oB b L k0 (oHead b L oc dp P))) = pVl b 0 255 (oC b L k0 (oB b L k0 (oHead b L oc dp P))) := if_pos e9
      refine sX13_readOrder_145 hΓ rfl ?_
      refine sX13_readOrder_146 hΓ ?_
      refine sX13_readOrder_147 hΓ ?_
      refine sX13_readOrder_150 hΓ 0 0 (Nat.le_of_ble_eq_true rfl) h86.o (fun κ_150 hΓ_150 => sb_readNumber hΓ_150 h86 (show updA A 25 _ 15 = b from hb) (show upd z 27 _ 17 = nI L from hL) hL5 (oC_ok (oB_ok hH)) (lo := 0) (hi := 255) rfl rfl (by decide) (by decide) (fun σ89 h89 f89 => ?_))
      show AW G κ _ _ 153 _ _ _
      refine sX13_readOrder_153 hΓ ?_
      refine sX13_readOrder_157 hΓ h89.ord (j := 4 * oc + 3) ((congrArg (fun t => t + 3) e4).trans (nI_add (4 * oc) 3)) (by omega) (by decide) (mv_ord h89 (fun σ90 h90 f90 => ?_))
      refine sX13_readOrder_158 hΓ rfl ?_
      refine sX13_readOrder_159 hΓ ?_
      refine sX13_readOrder_161 hΓ 0 0 (Nat.le_of_ble_eq_true rfl) h90.o (fun κ_161 hΓ_161 => sb_expect hΓ_161 h90 (show updA A 25 _ 15 = b from hb) (show upd z 27 _ 17 = nI L from hL) hL5 (by rw [← eD]; exact oD_ok (oC_ok (oB_ok hH))) (fun σ91 h91 f91 => ?_))
      show AW G κ _ _ 164 _ _ _
      exact sX13_readOrder_164 hΓ (hq _ (by unfold oPlain; rw [show ((some k0).getD 0 : Nat) = k0 from rfl]; show MV G _ a r (zP (upd z 27 (nI (oc + 1))) (pExp b L 59 (oD b L k0 (oC b L k0 (oB b L k0 (oHead b L oc dp P)))))) (updA A 25 (oSet (oSet (oSet (oSet O oc 0 (nI k0)) oc 1 _) oc 2 _) oc 3 (nI (oDv b k0 (oC b L k0 (oB b L k0 (oHead b L oc dp P))))))) rw ρ η; rw [eD, eV, ← nI_1]; exact h91) (((((((((f3.tr f81).tr f82).tr f83).tr f84).tr f85).tr f86).tr f89).tr f90).tr f91))
theorem sp_ord {a : Nat} {r : Nat → Nat} {b : Nat → Int32} {L : Nat} (hL5 : L ≤ 500) : ∀ g, g ≤ 2 → OrdSpec G a r b L g (2 * g + 2)
  | 0, _ => fun κ d Q X cs ss σ z A rw ρ η Z x hΓ h hb hL hI hx hq => by
    obtain ⟨P, O, oc⟩ := Z
    exact sp_readOrder (k := 0) (g := 0) (e := 2) (dp := false) (rp := id) hΓ h hb hL hL5 hI hx (by decide) (by decide) (fun e => Bool.noConfusion e) (fun e => Bool.noConfusion e) hq
  | g + 1, hg => fun κ d Q X cs ss σ z A rw ρ η Z x hΓ h hb hL hI hx hq => by
    obtain ⟨P, O, oc⟩ := Z
    have h1 : OrdSpec G a r b L g (2 * g + 2) := sp_ord hL5 g (by omega)
    rw [show d + (2 * (g + 1) + 2) + 4 = d + (2 * g + 2) + 6 by omega] at hΓ
    refine sp_readOrder (k := 2 * g + 2) (g := g) (e := 2 - (g + 1)) (dp := true) (rp := oLoop (oOrd b L g) b 21) hΓ h hb hL hL5 hI hx (by omega) (by rw [decide_eq_true (by omega)]) (fun _ => ⟨h1, ?_⟩) (fun _ => rfl) hq
    rw [nI_1, show 2 - (g + 1) + 1 = 2 - g by omega]
end ModelScript
