/-! the reference's reading of a railway -/
def rBeg (x y : Int32) : Nat → Int32 := upd (upd (fun _ => 0) 1 x) 2 y
def rNewT (ρ : Nat → Int32) (n : Nat) (x y v w : Int32) : Nat → Int32 := upd (upd (upd (upd (upd ρ 3 (nI (n + 1))) (58 + 15 * n + 0) x) (58 + 15 * n + 1) y) (58 + 15 * n + 2) v) (58 + 15 * n + 3) w
theorem pGo_z {b : Nat → Int32} {L : Nat} {P : Pt} (h : pR (pGo b L P) = 0) : pR P = 0 := by
  rw [pGo_eq] at h
  by_cases c : pR P = 0
  · exact c
  · rw [if_neg c] at h; exact absurd h c
theorem pCk_z {c : Bool} {x : Nat} {P : Pt} (hx : x ≠ 0) (h : pR (pCk c x P) = 0) : c = true ∧ pR P = 0 := by
  rw [pCk_eq] at h
  by_cases e : c = false ∧ pR P = 0
  · rw [if_pos e] at h; exact absurd h hx
  · rw [if_neg e] at h
    refine ⟨?_, h⟩
    cases c with
    | true => rfl
    | false => exact absurd ⟨rfl, h⟩ e
theorem pLook_z {b : Nat → Int32} {lo hi : Nat} {P : Pt} (h : pR (pLook b lo hi P) = 0) : pK P = 2 ∧ pR P = 0 ∧ lo ≤ pVal b P ∧ pVal b P ≤ hi := by
  obtain ⟨h1, h2⟩ := pCk_z (by decide) h
  obtain ⟨h3, h4⟩ := pCk_z (by decide) h2
  have h5 := of_decide_eq_true h1
  exact ⟨beq_iff_eq.mp h3, h4, h5.1, h5.2⟩
theorem pExp_z {b : Nat → Int32} {L : Nat} {c : Int32} {P : Pt} (h : pR (pExp b L c P) = 0) : pSym b P c = true ∧ pR P = 0 := pCk_z (by decide) (pGo_z h)
theorem pGo_e {b : Nat → Int32} {L : Nat} {P : Pt} (h : pOk b L P) : pE P ≤ pE (pGo b L P) := by
  rw [pGo_eq]
  split
  · exact Nat.le_trans (tS_le h.le.2).1 (tE_le h.le.2).1
  · exact Nat.le_refl _
theorem pGo_s {b : Nat → Int32} {L : Nat} {P : Pt} (h : pOk b L P) (h0 : pR P = 0) : pE P ≤ pS (pGo b L P) := by
  rw [pGo_eq]
  rw [if_pos h0]
  exact (tS_le h.le.2).1
theorem pExp_e {b : Nat → Int32} {L : Nat} {c : Int32} {P : Pt} (h : pOk b L P) : pE P ≤ pE (pExp b L c P) := by
  have h1 := pGo_e (pCk_ok (b := b) (L := L) (c := pSym b P c) (x := 1) (by decide) h)
  rw [(pCk_sek _ _ _).2.1] at h1
  exact h1
theorem pLook_e {b : Nat → Int32} {lo hi : Nat} {P : Pt} : pE (pLook b lo hi P) = pE P ∧ pS (pLook b lo hi P) = pS P ∧ pK (pLook b lo hi P) = pK P := by
  unfold pLook
  rw [(pCk_sek _ _ _).1, (pCk_sek _ _ _).2.1, (pCk_sek _ _ _).2.2]
  exact ⟨(pCk_sek _ _ _).2.1, (pCk_sek _ _ _).1, (pCk_sek _ _ _).2.2⟩
theorem pRead_e {b : Nat → Int32} {L lo hi : Nat} {P : Pt} (h : pOk b L P) : pE P ≤ pE (pRead b L lo hi P) := by
  have h1 := pGo_e (pLook_ok (lo := lo) (hi := hi) h)
  rw [pLook_e.1] at h1
  exact h1
/-- a section named tunnel, or short -/
noncomputable def qSec (b : Nat → Int32) (L s : Nat) (P : Pt) : Pt := pExp b L 59 (pRead b L 0 (s - 1) (pGo b L P))
noncomputable def qSecV (b : Nat → Int32) (L s : Nat) (P : Pt) : Nat := pVl b 0 (s - 1) (pGo b L P)
noncomputable def qOne (b : Nat → Int32) (L s w : Nat) (Y : Pt × (Nat → Int32)) : Pt × (Nat → Int32) := (qSec b L s Y.1, if pR (qSec b L s Y.1) = 0 then upd Y.2 (w + qSecV b L s Y.1) 1 else Y.2)
noncomputable def qSecs (b : Nat → Int32) (L s : Nat) : Nat → Pt × (Nat → Int32) → Pt × (Nat → Int32)
  | 0, Y => Y
  | n + 1, Y => if (pWrd b Y.1 1 || pWrd b Y.1 2) = true then qSecs b L s n (qOne b L s (if pWrd b Y.1 1 = true then 10 else 34) Y) else Y
theorem qOne_t {b : Nat → Int32} {L s w : Nat} {P : Pt} {ρ : Nat → Int32} (h : pR (qSec b L s P) = 0) : (qOne b L s w (P, ρ)).2 = upd ρ (w + qSecV b L s P) 1 := if_pos h
theorem qOne_f {b : Nat → Int32} {L s w : Nat} {P : Pt} {ρ : Nat → Int32} (h : ¬ pR (qSec b L s P) = 0) : (qOne b L s w (P, ρ)).2 = ρ := if_neg h
theorem qSec_ok {b : Nat → Int32} {L s : Nat} {P : Pt} (h : pOk b L P) : pOk b L (qSec b L s P) := pExp_ok (pRead_ok (pGo_ok h))
theorem qSec_gt {b : Nat → Int32} {L s : Nat} {P : Pt} (h : pOk b L P) (h0 : pR (qSec b L s P) = 0) : pE P < pE (qSec b L s P) := by
  have h1 := (pExp_z h0).2
  have h2 := pLook_z (pGo_z h1)
  have h3 := ((pGo_ok h).gt (by rw [h2.1]; decide)).1
  have h4 := pGo_s h (pGo_z h2.2.1)
  have h5 := pRead_e (lo := 0) (hi := s - 1) (pGo_ok h)
  have h6 := pExp_e (c := 59) (pRead_ok (lo := 0) (hi := s - 1) (pGo_ok h))
  unfold qSec
  omega
theorem pWrd_0 {b : Nat → Int32} {P : Pt} {t : Nat} (h : pWrd b P t = true) : pR P = 0 := by
  unfold pWrd pW0 at h
  rw [Bool.and_eq_true, Bool.and_eq_true, beq_iff_eq] at h
  exact h.1.1
theorem qSecV_in {b : Nat → Int32} {L s : Nat} {P : Pt} (hs : 0 < s) : qSecV b L s P < s := by
  have h1 := (pLook_in (b := b) (lo := 0) (hi := s - 1) (P := pGo b L P) (Nat.zero_le _)).2
  show pVl b 0 (s - 1) (pGo b L P) < s
  omega
/-- a train -/
noncomputable def qA (b : Nat → Int32) (L n : Nat) (P : Pt) : Pt := pGo b L (pCk (pR (pCk (pWrd b P 3) 1 P) != 0 || decide (n < 6)) 4 (pCk (pWrd b P 3) 1 P))
noncomputable def qAv (b : Nat → Int32) (L n : Nat) (P : Pt) : Nat := pVl b 1 127 (qA b L n P)
noncomputable def qB (b : Nat → Int32) (L n : Nat) (ρ : Nat → Int32) (P : Pt) : Pt := pGo b L (pCk (pR (pLook b 1 127 (qA b L n P)) != 0 || (rFirst ρ n 0 (nI (qAv b L n P))).isNone) 3 (pLook b 1 127 (qA b L n P)))
noncomputable def qC (b : Nat → Int32) (L n : Nat) (ρ : Nat → Int32) (P : Pt) : Pt := pRead b L 1 5 (qB b L n ρ P)
noncomputable def qD (b : Nat → Int32) (L n : Nat) (ρ : Nat → Int32) (P : Pt) : Pt := pRead b L 1 9 (qC b L n ρ P)
noncomputable def qEv (b : Nat → Int32) (L n s : Nat) (ρ : Nat → Int32) (P : Pt) : Nat := pVl b 0 (s - 1) (qD b L n ρ P)
noncomputable def qE (b : Nat → Int32) (L n s : Nat) (ρ : Nat → Int32) (P : Pt) : Pt := pGo b L (pCk (pR (pLook b 0 (s - 1) (qD b L n ρ P)) != 0 || (rFirst ρ n 3 (nI (qEv b L n s ρ P))).isNone) 3 (pLook b 0 (s - 1) (qD b L n ρ P)))
noncomputable def qF (b : Nat → Int32) (L n s : Nat) (ρ : Nat → Int32) (P : Pt) : Pt := pExp b L 59 (qE b L n s ρ P)
noncomputable def qRow (b : Nat → Int32) (L n s : Nat) (ρ : Nat → Int32) (P : Pt) : Nat → Int32 := if pR (qF b L n s ρ P) = 0 then rNewT ρ n (nI (qAv b L n P)) (nI (pVl b 1 5 (qB b L n ρ P))) (nI (pVl b 1 9 (qC b L n ρ P))) (nI (qEv b L n s ρ P)) else ρ
/-- a train read without an error: there was room, its address and its section are new -/
theorem or_none {α : Type} {n : Nat} {o : Option α} (h : (n != 0 || o.isNone) = true) (h0 : n = 0) : o = none := by
  subst h0
  exact Option.isNone_iff_eq_none.mp h
theorem qF_z {b : Nat → Int32} {L n s : Nat} {ρ : Nat → Int32} {P : Pt} (h : pR (qF b L n s ρ P) = 0) : pWrd b P 3 = true ∧ n < 6 ∧ rFirst ρ n 0 (nI (qAv b L n P)) = none ∧ rFirst ρ n 3 (nI (qEv b L n s ρ P)) = none ∧ pR P = 0 := by
  have h1 : pR (qE b L n s ρ P) = 0 := (pExp_z h).2
  have h2 := pCk_z (by decide) (pGo_z h1)
  have h3 : pR (qD b L n ρ P) = 0 := (pLook_z h2.2).2.1
  have h4 : pR (qC b L n ρ P) = 0 := (pLook_z (pGo_z h3)).2.1
  have h5 : pR (qB b L n ρ P) = 0 := (pLook_z (pGo_z h4)).2.1
  have h6 := pCk_z (by decide) (pGo_z h5)
  have h7 : pR (qA b L n P) = 0 := (pLook_z h6.2).2.1
  have h8 := pCk_z (by decide) (pGo_z h7)
  have h9 := pCk_z (by decide) h8.2
  refine ⟨h9.1, ?_, or_none h6.1 h6.2, or_none h2.1 h2.2, h9.2⟩
  have h10 := h8.1
  rw [h8.2] at h10
  exact of_decide_eq_true h10
/-- trains, on to the end -/
abbrev Yt : Type := Pt × (Nat → Int32) × Nat
noncomputable def qTr (b : Nat → Int32) (L s : Nat) (Y : Yt) : Yt := (qF b L Y.2.2 s Y.2.1 Y.1, qRow b L Y.2.2 s Y.2.1 Y.1, if pR (qF b L Y.2.2 s Y.2.1 Y.1) = 0 then Y.2.2 + 1 else Y.2.2)
noncomputable def qTrs (b : Nat → Int32) (L s : Nat) : Nat → Yt → Yt
  | 0, Y => Y
  | m + 1, Y => if pR Y.1 = 0 ∧ pK Y.1 ≠ 0 then qTrs b L s m (qTr b L s Y) else Y
/-- a railway -/
noncomputable def lA (b : Nat → Int32) (L : Nat) (P : Pt) : Pt := pGo b L (pCk (pWrd b P 0) 1 P)
noncomputable def lS (b : Nat → Int32) (L : Nat) (P : Pt) : Nat := pVl b 4 24 (lA b L P)
noncomputable def lB (b : Nat → Int32) (L : Nat) (P : Pt) : Pt := pRead b L 4 24 (lA b L P)
noncomputable def lC (b : Nat → Int32) (L : Nat) (P : Pt) : Nat := pVl b 1 20 (lB b L P)
noncomputable def lD (b : Nat → Int32) (L : Nat) (P : Pt) : Pt := pExp b L 59 (pRead b L 1 20 (lB b L P))
noncomputable def lE (b : Nat → Int32) (L : Nat) (P : Pt) : Pt × (Nat → Int32) := qSecs b L (lS b L P) 501 (lD b L P, rBeg (nI (lS b L P)) (nI (lC b L P)))
noncomputable def lF (b : Nat → Int32) (L : Nat) (P : Pt) : Yt := qTrs b L (lS b L P) 7 (qTr b L (lS b L P) ((lE b L P).1, (lE b L P).2, 0))
theorem lA_ok {b : Nat → Int32} {L : Nat} {P : Pt} (h : pOk b L P) : pOk b L (lA b L P) := pGo_ok (pCk_ok (by decide) h)
theorem lB_ok {b : Nat → Int32} {L : Nat} {P : Pt} (h : pOk b L P) : pOk b L (lB b L P) := pRead_ok (lA_ok h)
theorem lD_ok {b : Nat → Int32} {L : Nat} {P : Pt} (h : pOk b L P) : pOk b L (lD b L P) := pExp_ok (pRead_ok (lB_ok h))
theorem lS_in {b : Nat → Int32} {L : Nat} {P : Pt} : 4 ≤ lS b L P ∧ lS b L P ≤ 24 := pLook_in (by decide)
/-- what holds of a row while it is read -/
def qOk (ρ : Nat → Int32) (n s : Nat) : Prop := ρ 3 = nI n ∧ n ≤ 6 ∧ ρ 1 = nI s
theorem qOk.sec {ρ : Nat → Int32} {n s i : Nat} {x : Int32} (h : qOk ρ n s) (hi : 10 ≤ i) : qOk (upd ρ i x) n s := ⟨by rw [upd_ne (by omega)]; exact h.1, h.2.1, by rw [upd_ne (by omega)]; exact h.2.2⟩
theorem qOk.add {ρ : Nat → Int32} {n s : Nat} {x y v w : Int32} (h : qOk ρ n s) (hn : n < 6) : qOk (rNewT ρ n x y v w) (n + 1) s := by
  unfold rNewT
  refine ⟨?_, hn, ?_⟩
  · rw [upd_ne (by omega), upd_ne (by omega), upd_ne (by omega), upd_ne (by omega), upd_same]
  · rw [upd_ne (by omega), upd_ne (by omega), upd_ne (by omega), upd_ne (by omega), upd_ne (by omega)]; exact h.2.2
theorem qTrs_f {b : Nat → Int32} {L s m : Nat} {Y : Yt} (h : ¬ (pR Y.1 = 0 ∧ pK Y.1 ≠ 0)) : qTrs b L s m Y = Y := by
  cases m with
  | zero => rfl
  | succ m => exact if_neg h
theorem qSecs_f {b : Nat → Int32} {L s m : Nat} {Y : Pt × (Nat → Int32)} (h : (pWrd b Y.1 1 || pWrd b Y.1 2) = false) : qSecs b L s m Y = Y := by
  cases m with
  | zero => rfl
  | succ m => exact if_neg (by rw [h]; exact Bool.false_ne_true)
section ModelLoad
variable {G : Gl} {κ : Kx} {d : Nat} {Q : Option Value → Hp → Prop} {X : String → Hp → Prop} {cs ss : Nat} {σ : Hp} {a : Nat} {r : Nat → Nat} {z : Nat → Int32} {A : Nat → Nat → Int32} {rw : Nat} {ρ η : Nat → Int32} {L : Nat} {P : Pt}
end ModelLoad
