/-! the reference's reading of a railway -/
def rBeg (x y : Int32) : Nat → Int32 := upd (upd (fun _ => 0) 1 x) 2 y
def rZ (ρ : Nat → Int32) (i : Nat) : Nat → Int32 := fun j => if j < i then 0 else ρ j
theorem rZ_s (ρ : Nat → Int32) (i : Nat) : upd (rZ ρ i) i 0 = rZ ρ (i + 1) := by
  funext j
  by_cases h : j = i
  · rw [h, upd_same]; exact (if_pos (Nat.lt_succ_self i)).symm
  · rw [upd_ne h]
    unfold rZ
    by_cases c : j < i
    · rw [if_pos c, if_pos (by omega)]
    · rw [if_neg c, if_neg (by omega)]
theorem rZ_0 (ρ : Nat → Int32) : rZ ρ 0 = ρ := by
  funext j
  exact if_neg (Nat.not_lt_zero j)
def rNewT (ρ : Nat → Int32) (n : Nat) (x y v w : Int32) : Nat → Int32 := upd (upd (upd (upd (upd ρ 3 (nI (n + 1))) (58 + 15 * n + 0) x) (58 + 15 * n + 1) y) (58 + 15 * n + 2) v) (58 + 15 * n + 3) w
theorem pGo_z {b : Nat → Int32} {L : Nat} {P : Pt} (h : pR (pGo b L P) = 0) : pR P = 0 := by
  rw [pGo_eq] at h
  by_cases c : pR P = 0
  · exact c
  · rw [if_neg c] at h; exact absurd h c
theorem pCk_z {c : Bool} {x : Nat} {P : Pt} (hx : x ≠ 0) (h : pR (pCk c x P) = 0) : c = true ∧ pR P = 0 := by
  rw [pCk_eq] at h
  by_cases e : c = false ∧ pR P = 0
  · rw [if_pos e] at h; exact absurd h hx
  · rw [if_neg e] at h
    refine ⟨?_, h⟩
    cases c with
    | true => rfl
    | false => exact absurd ⟨rfl, h⟩ e
theorem pLook_z {b : Nat → Int32} {lo hi : Nat} {P : Pt} (h : pR (pLook b lo hi P) = 0) : pK P = 2 ∧ pR P = 0 ∧ lo ≤ pVal b P ∧ pVal b P ≤ hi := by
  obtain ⟨h1, h2⟩ := pCk_z (by decide) h
  obtain ⟨h3, h4⟩ := pCk_z (by decide) h2
  have h5 := of_decide_eq_true h1
  exact ⟨beq_iff_eq.mp h3, h4, h5.1, h5.2⟩
theorem pExp_z {b : Nat → Int32} {L : Nat} {c : Int32} {P : Pt} (h : pR (pExp b L c P) = 0) : pSym b P c = true ∧ pR P = 0 := pCk_z (by decide) (pGo_z h)
theorem pGo_e {b : Nat → Int32} {L : Nat} {P : Pt} (h : pOk b L P) : pE P ≤ pE (pGo b L P) := by
  rw [pGo_eq]
  split
  · exact Nat.le_trans (tS_le h.le.2).1 (tE_le h.le.2).1
  · exact Nat.le_refl _
theorem pGo_s {b : Nat → Int32} {L : Nat} {P : Pt} (h : pOk b L P) (h0 : pR P = 0) : pE P ≤ pS (pGo b L P) := by
  rw [pGo_eq]
  rw [if_pos h0]
  exact (tS_le h.le.2).1
theorem pExp_e {b : Nat → Int32} {L : Nat} {c : Int32} {P : Pt} (h : pOk b L P) : pE P ≤ pE (pExp b L c P) := by
  have h1 := pGo_e (pCk_ok (b := b) (L := L) (c := pSym b P c) (x := 1) (by decide) h)
  rw [(pCk_sek _ _ _).2.1] at h1
  exact h1
theorem pLook_e {b : Nat → Int32} {lo hi : Nat} {P : Pt} : pE (pLook b lo hi P) = pE P ∧ pS (pLook b lo hi P) = pS P ∧ pK (pLook b lo hi P) = pK P := by
  unfold pLook
  rw [(pCk_sek _ _ _).1, (pCk_sek _ _ _).2.1, (pCk_sek _ _ _).2.2]
  exact ⟨(pCk_sek _ _ _).2.1, (pCk_sek _ _ _).1, (pCk_sek _ _ _).2.2⟩
theorem pRead_e {b : Nat → Int32} {L lo hi : Nat} {P : Pt} (h : pOk b L P) : pE P ≤ pE (pRead b L lo hi P) := by
  have h1 := pGo_e (pLook_ok (lo := lo) (hi := hi) h)
  rw [pLook_e.1] at h1
  exact h1
/-- a section named tunnel, or short -/
noncomputable def qSec (b : Nat → Int32) (L s : Nat) (P : Pt) : Pt := pExp b L 59 (pRead b L 0 (s - 1) (pGo b L P))
noncomputable def qSecV (b : Nat → Int32) (L s : Nat) (P : Pt) : Nat := pVl b 0 (s - 1) (pGo b L P)
noncomputable def qOne (b : Nat → Int32) (L s w : Nat) (Y : Pt × (Nat → Int32)) : Pt × (Nat → Int32) := (qSec b L s Y.1, if pR (qSec b L s Y.1) = 0 then upd Y.2 (w + qSecV b L s Y.1) 1 else Y.2)
noncomputable def qSecs (b : Nat → Int32) (L s : Nat) : Nat → Pt × (Nat → Int32) → Pt × (Nat → Int32)
  | 0, Y => Y
  | n + 1, Y => if (pWrd b Y.1 1 || pWrd b Y.1 2) = true then qSecs b L s n (qOne b L s (if pWrd b Y.1 1 = true then 10 else 34) Y) else Y
theorem qOne_t {b : Nat → Int32} {L s w : Nat} {P : Pt} {ρ : Nat → Int32} (h : pR (qSec b L s P) = 0) : (qOne b L s w (P, ρ)).2 = upd ρ (w + qSecV b L s P) 1 := if_pos h
theorem qOne_f {b : Nat → Int32} {L s w : Nat} {P : Pt} {ρ : Nat → Int32} (h : ¬ pR (qSec b L s P) = 0) : (qOne b L s w (P, ρ)).2 = ρ := if_neg h
theorem qSec_ok {b : Nat → Int32} {L s : Nat} {P : Pt} (h : pOk b L P) : pOk b L (qSec b L s P) := pExp_ok (pRead_ok (pGo_ok h))
theorem qSec_gt {b : Nat → Int32} {L s : Nat} {P : Pt} (h : pOk b L P) (h0 : pR (qSec b L s P) = 0) : pE P < pE (qSec b L s P) := by
  have h1 := (pExp_z h0).2
  have h2 := pLook_z (pGo_z h1)
  have h3 := ((pGo_ok h).gt (by rw [h2.1]; decide)).1
  have h4 := pGo_s h (pGo_z h2.2.1)
  have h5 := pRead_e (lo := 0) (hi := s - 1) (pGo_ok h)
  have h6 := pExp_e (c := 59) (pRead_ok (lo := 0) (hi := s - 1) (pGo_ok h))
  unfold qSec
  omega
theorem pWrd_0 {b : Nat → Int32} {P : Pt} {t : Nat} (h : pWrd b P t = true) : pR P = 0 := by
  unfold pWrd pW0 at h
  rw [Bool.and_eq_true, Bool.and_eq_true, beq_iff_eq] at h
  exact h.1.1
theorem qSecV_in {b : Nat → Int32} {L s : Nat} {P : Pt} (hs : 0 < s) : qSecV b L s P < s := by
  have h1 := (pLook_in (b := b) (lo := 0) (hi := s - 1) (P := pGo b L P) (Nat.zero_le _)).2
  show pVl b 0 (s - 1) (pGo b L P) < s
  omega
/-- a train -/
noncomputable def qA (b : Nat → Int32) (L n : Nat) (P : Pt) : Pt := pGo b L (pCk (pR (pCk (pWrd b P 3) 1 P) != 0 || decide (n < 6)) 4 (pCk (pWrd b P 3) 1 P))
noncomputable def qAv (b : Nat → Int32) (L n : Nat) (P : Pt) : Nat := pVl b 1 127 (qA b L n P)
noncomputable def qB (b : Nat → Int32) (L n : Nat) (ρ : Nat → Int32) (P : Pt) : Pt := pGo b L (pCk (pR (pLook b 1 127 (qA b L n P)) != 0 || (rFirst ρ n 0 (nI (qAv b L n P))).isNone) 3 (pLook b 1 127 (qA b L n P)))
noncomputable def qC (b : Nat → Int32) (L n : Nat) (ρ : Nat → Int32) (P : Pt) : Pt := pRead b L 1 5 (qB b L n ρ P)
noncomputable def qD (b : Nat → Int32) (L n : Nat) (ρ : Nat → Int32) (P : Pt) : Pt := pRead b L 1 9 (qC b L n ρ P)
noncomputable def qEv (b : Nat → Int32) (L n s : Nat) (ρ : Nat → Int32) (P : Pt) : Nat := pVl b 0 (s - 1) (qD b L n ρ P)
noncomputable def qE (b : Nat → Int32) (L n s : Nat) (ρ : Nat → Int32) (P : Pt) : Pt := pGo b L (pCk (pR (pLook b 0 (s - 1) (qD b L n ρ P)) != 0 || (rFirst ρ n 3 (nI (qEv b L n s ρ P))).isNone) 3 (pLook b 0 (s - 1) (qD b L n ρ P)))
noncomputable def qF (b : Nat → Int32) (L n s : Nat) (ρ : Nat → Int32) (P : Pt) : Pt := pExp b L 59 (qE b L n s ρ P)
noncomputable def qRow (b : Nat → Int32) (L n s : Nat) (ρ : Nat → Int32) (P : Pt) : Nat → Int32 := if pR (qF b L n s ρ P) = 0 then rNewT ρ n (nI (qAv b L n P)) (nI (pVl b 1 5 (qB b L n ρ P))) (nI (pVl b 1 9 (qC b L n ρ P))) (nI (qEv b L n s ρ P)) else ρ
theorem qA_ok {b : Nat → Int32} {L n : Nat} {P : Pt} (h : pOk b L P) : pOk b L (qA b L n P) := pGo_ok (pCk_ok (by decide) (pCk_ok (by decide) h))
theorem qB_ok {b : Nat → Int32} {L n : Nat} {ρ : Nat → Int32} {P : Pt} (h : pOk b L P) : pOk b L (qB b L n ρ P) := pGo_ok (pCk_ok (by decide) (pLook_ok (qA_ok h)))
theorem qC_ok {b : Nat → Int32} {L n : Nat} {ρ : Nat → Int32} {P : Pt} (h : pOk b L P) : pOk b L (qC b L n ρ P) := pRead_ok (qB_ok h)
theorem qD_ok {b : Nat → Int32} {L n : Nat} {ρ : Nat → Int32} {P : Pt} (h : pOk b L P) : pOk b L (qD b L n ρ P) := pRead_ok (qC_ok h)
theorem qE_ok {b : Nat → Int32} {L n s : Nat} {ρ : Nat → Int32} {P : Pt} (h : pOk b L P) : pOk b L (qE b L n s ρ P) := pGo_ok (pCk_ok (by decide) (pLook_ok (qD_ok h)))
theorem qF_ok {b : Nat → Int32} {L n s : Nat} {ρ : Nat → Int32} {P : Pt} (h : pOk b L P) : pOk b L (qF b L n s ρ P) := pExp_ok (qE_ok h)
/-- a train read without an error: there was room, its address and its section are new -/
theorem or_none {α : Type} {n : Nat} {o : Option α} (h : (n != 0 || o.isNone) = true) (h0 : n = 0) : o = none := by
  subst h0
  exact Option.isNone_iff_eq_none.mp h
theorem qF_z {b : Nat → Int32} {L n s : Nat} {ρ : Nat → Int32} {P : Pt} (h : pR (qF b L n s ρ P) = 0) : pWrd b P 3 = true ∧ n < 6 ∧ rFirst ρ n 0 (nI (qAv b L n P)) = none ∧ rFirst ρ n 3 (nI (qEv b L n s ρ P)) = none ∧ pR P = 0 := by
  have h1 : pR (qE b L n s ρ P) = 0 := (pExp_z h).2
  have h2 := pCk_z (by decide) (pGo_z h1)
  have h3 : pR (qD b L n ρ P) = 0 := (pLook_z h2.2).2.1
  have h4 : pR (qC b L n ρ P) = 0 := (pLook_z (pGo_z h3)).2.1
  have h5 : pR (qB b L n ρ P) = 0 := (pLook_z (pGo_z h4)).2.1
  have h6 := pCk_z (by decide) (pGo_z h5)
  have h7 : pR (qA b L n P) = 0 := (pLook_z h6.2).2.1
  have h8 := pCk_z (by decide) (pGo_z h7)
  have h9 := pCk_z (by decide) h8.2
  refine ⟨h9.1, ?_, or_none h6.1 h6.2, or_none h2.1 h2.2, h9.2⟩
  have h10 := h8.1
  rw [h8.2] at h10
  exact of_decide_eq_true h10
/-- trains, on to the end -/
abbrev Yt : Type := Pt × (Nat → Int32) × Nat
noncomputable def qTr (b : Nat → Int32) (L s : Nat) (Y : Yt) : Yt := (qF b L Y.2.2 s Y.2.1 Y.1, qRow b L Y.2.2 s Y.2.1 Y.1, if pR (qF b L Y.2.2 s Y.2.1 Y.1) = 0 then Y.2.2 + 1 else Y.2.2)
noncomputable def qTrs (b : Nat → Int32) (L s : Nat) : Nat → Yt → Yt
  | 0, Y => Y
  | m + 1, Y => if pR Y.1 = 0 ∧ pK Y.1 ≠ 0 then qTrs b L s m (qTr b L s Y) else Y
/-- a railway -/
noncomputable def lA (b : Nat → Int32) (L : Nat) (P : Pt) : Pt := pGo b L (pCk (pWrd b P 0) 1 P)
noncomputable def lS (b : Nat → Int32) (L : Nat) (P : Pt) : Nat := pVl b 4 24 (lA b L P)
noncomputable def lB (b : Nat → Int32) (L : Nat) (P : Pt) : Pt := pRead b L 4 24 (lA b L P)
noncomputable def lC (b : Nat → Int32) (L : Nat) (P : Pt) : Nat := pVl b 1 20 (lB b L P)
noncomputable def lD (b : Nat → Int32) (L : Nat) (P : Pt) : Pt := pExp b L 59 (pRead b L 1 20 (lB b L P))
noncomputable def lE (b : Nat → Int32) (L : Nat) (P : Pt) : Pt × (Nat → Int32) := qSecs b L (lS b L P) 501 (lD b L P, rBeg (nI (lS b L P)) (nI (lC b L P)))
noncomputable def lF (b : Nat → Int32) (L : Nat) (P : Pt) : Yt := qTrs b L (lS b L P) 7 (qTr b L (lS b L P) ((lE b L P).1, (lE b L P).2, 0))
theorem lA_ok {b : Nat → Int32} {L : Nat} {P : Pt} (h : pOk b L P) : pOk b L (lA b L P) := pGo_ok (pCk_ok (by decide) h)
theorem lB_ok {b : Nat → Int32} {L : Nat} {P : Pt} (h : pOk b L P) : pOk b L (lB b L P) := pRead_ok (lA_ok h)
theorem lD_ok {b : Nat → Int32} {L : Nat} {P : Pt} (h : pOk b L P) : pOk b L (lD b L P) := pExp_ok (pRead_ok (lB_ok h))
theorem lS_in {b : Nat → Int32} {L : Nat} {P : Pt} : 4 ≤ lS b L P ∧ lS b L P ≤ 24 := pLook_in (by decide)
/-- what holds of a row while it is read -/
def qOk (ρ : Nat → Int32) (n s : Nat) : Prop := ρ 3 = nI n ∧ n ≤ 6 ∧ ρ 1 = nI s
theorem qOk.sec {ρ : Nat → Int32} {n s i : Nat} {x : Int32} (h : qOk ρ n s) (hi : 10 ≤ i) : qOk (upd ρ i x) n s := ⟨by rw [upd_ne (by omega)]; exact h.1, h.2.1, by rw [upd_ne (by omega)]; exact h.2.2⟩
theorem qOk.add {ρ : Nat → Int32} {n s : Nat} {x y v w : Int32} (h : qOk ρ n s) (hn : n < 6) : qOk (rNewT ρ n x y v w) (n + 1) s := by
  unfold rNewT
  refine ⟨?_, hn, ?_⟩
  · rw [upd_ne (by omega), upd_ne (by omega), upd_ne (by omega), upd_ne (by omega), upd_same]
  · rw [upd_ne (by omega), upd_ne (by omega), upd_ne (by omega), upd_ne (by omega), upd_ne (by omega)]; exact h.2.2
theorem qTr_ok {b : Nat → Int32} {L s : Nat} {Y : Yt} (h : qOk Y.2.1 Y.2.2 s) : qOk (qTr b L s Y).2.1 (qTr b L s Y).2.2 s := by
  obtain ⟨P, ρ, n⟩ := Y
  show qOk (qRow b L n s ρ P) (if pR (qF b L n s ρ P) = 0 then n + 1 else n) s
  unfold qRow
  by_cases c : pR (qF b L n s ρ P) = 0
  · rw [if_pos c, if_pos c]
    exact h.add (qF_z c).2.1
  · rw [if_neg c, if_neg c]
    exact h
theorem qTrs_f {b : Nat → Int32} {L s m : Nat} {Y : Yt} (h : ¬ (pR Y.1 = 0 ∧ pK Y.1 ≠ 0)) : qTrs b L s m Y = Y := by
  cases m with
  | zero => rfl
  | succ m => exact if_neg h
theorem qSecs_f {b : Nat → Int32} {L s m : Nat} {Y : Pt × (Nat → Int32)} (h : (pWrd b Y.1 1 || pWrd b Y.1 2) = false) : qSecs b L s m Y = Y := by
  cases m with
  | zero => rfl
  | succ m => exact if_neg (by rw [h]; exact Bool.false_ne_true)
section ModelLoad
variable {G : Gl} {κ : Kx} {d : Nat} {Q : Option Value → Hp → Prop} {X : String → Hp → Prop} {cs ss : Nat} {σ : Hp} {a : Nat} {r : Nat → Nat} {z : Nat → Int32} {A : Nat → Nat → Int32} {rw : Nat} {ρ η : Nat → Int32} {L : Nat} {P : Pt}
theorem sp_begin (hΓ : Ok G κ mX13_begin (d + 0) Q X) (h : MV G σ a r z A rw ρ η) {x y : Int32} (hq : ∀ σ1 : Hp, MV G σ1 a r z A rw (rBeg x y) η → MF a r σ σ1 → Q none σ1) : AW G κ cs ss 0 [lR a, lI x, lI y, none] [] σ := by
  suffices loop : ∀ (m i : Nat) (x0 : Int32) (σ2 : Hp), i + m = 184 → x0 = nI i → MV G σ2 a r z A rw (rZ ρ i) η → MF a r σ σ2 → AW G κ cs ss 2 [lR a, lI x, lI y, lI x0] [] σ2 by
    refine sX13_begin_0 hΓ ?_
    refine sX13_begin_1 hΓ ?_
    exact loop 184 0 _ σ rfl rfl (by rw [rZ_0]; exact h) MF.rf
  intro m
  induction m with
  | zero =>
    intro i x0 σ2 hi hx h2 f2
    have ei : i = 184 := by omega
    subst ei
    refine sX13_begin_2 hΓ rfl ?_
    refine sX13_begin_3 hΓ ?_
    refine sX13_begin_6 hΓ (fun c6 => ?_) (fun c6 => absurd (lp_out hx (n := 184) rfl (by omega) (by omega)) c6)
    refine aw_eI (fun _ => 0) h2.row (fun j hj => if_pos hj) (mv_row h2 (fun σ3 h3 f3 => ?_))
    refine sX13_begin_22 hΓ rfl ?_
    refine sX13_begin_23 hΓ h3.o rfl ?_
    refine sX13_begin_26 hΓ ?_
    refine sX13_begin_27 hΓ rfl ?_
    refine sX13_begin_28 hΓ h3.row (j := 1) rfl (by decide) (by decide) (mv_row h3 (fun σ11 h11 f11 => ?_))
    refine sX13_begin_29 hΓ rfl ?_
    refine sX13_begin_30 hΓ h11.o rfl ?_
    refine sX13_begin_33 hΓ ?_
    refine sX13_begin_34 hΓ rfl ?_
    refine sX13_begin_35 hΓ h11.row (j := 2) rfl (by decide) (by decide) (mv_row h11 (fun σ12 h12 f12 => ?_))
    exact sX13_begin_36 hΓ (hq _ h12 (((f2.tr f3).tr f11).tr f12))
  | succ m ih =>
    intro i x0 σ2 hi hx h2 f2
    refine sX13_begin_2 hΓ rfl ?_
    refine sX13_begin_3 hΓ ?_
    refine sX13_begin_6 hΓ (fun c6 => absurd c6 (lp_in hx (n := 184) rfl (by omega) (by decide))) (fun c6 => ?_)
    refine sX13_begin_9 hΓ rfl ?_
    refine sX13_begin_10 hΓ h2.o rfl ?_
    refine sX13_begin_13 hΓ rfl ?_
    refine sX13_begin_14 hΓ ?_
    refine sX13_begin_15 hΓ h2.row hx (by omega) (by decide) (mv_row h2 (fun σ21 h21 f21 => ?_))
    refine sX13_begin_16 hΓ rfl ?_
    refine sX13_begin_19 hΓ ?_
    exact ih (i + 1) _ _ (by omega) (lp_1 hx) (by rw [rZ_s] at h21; exact h21) (f2.tr f21)
theorem sp_addTrain (hΓ : Ok G κ mX13_addTrain (d + 1) Q X) (h : MV G σ a r z A rw ρ η) {n : Nat} (hn : ρ 3 = nI n) (hn6 : n < 6) {x y v w : Int32} (hq : ∀ σ1 : Hp, MV G σ1 a r z A rw (rNewT ρ n x y v w) η → MF a r σ σ1 → Q none σ1) : AW G κ cs ss 0 [lR a, lI x, lI y, lI v, lI w, none] [] σ := by
  refine sX13_addTrain_0 hΓ rfl ?_
  refine sX13_addTrain_1 hΓ h.o rfl ?_
  refine sX13_addTrain_4 hΓ ?_
  refine sX13_addTrain_5 hΓ h.row (j := 3) rfl (by decide) (by decide) ?_
  refine sX13_addTrain_6 hΓ ?_
  refine sX13_addTrain_8 hΓ rfl ?_
  refine sX13_addTrain_9 hΓ h.o rfl ?_
  refine sX13_addTrain_12 hΓ ?_
  refine sX13_addTrain_13 hΓ ?_
  refine sX13_addTrain_14 hΓ h.row (j := 3) rfl (by decide) (by decide) ?_
  refine sX13_addTrain_15 hΓ ?_
  refine sX13_addTrain_16 hΓ ?_
  refine sX13_addTrain_17 hΓ h.row (j := 3) rfl (by decide) (by decide) (mv_row h (fun σ1 h1 f1 => ?_))
  refine sX13_addTrain_18 hΓ rfl ?_
  refine sX13_addTrain_19 hΓ rfl ?_
  refine sX13_addTrain_21 hΓ ?_
  refine sX13_addTrain_22 hΓ rfl ?_
  refine sX13_addTrain_23 hΓ 0 0 (Nat.le_of_ble_eq_true rfl) h1.o (fun κ_23 hΓ_23 => sp_lay hΓ_23 h1 (k := n) (w := 0) hn rfl hn6 (by decide) (fun σ2 h2 f2 => ?_))
  show AW G κ _ _ 26 _ _ _
  refine sX13_addTrain_26 hΓ rfl ?_
  refine sX13_addTrain_27 hΓ rfl ?_
  refine sX13_addTrain_29 hΓ ?_
  refine sX13_addTrain_30 hΓ rfl ?_
  refine sX13_addTrain_31 hΓ 0 0 (Nat.le_of_ble_eq_true rfl) h2.o (fun κ_31 hΓ_31 => sp_lay hΓ_31 h2 (k := n) (w := 1) hn rfl hn6 (by decide) (fun σ3 h3 f3 => ?_))
  show AW G κ _ _ 34 _ _ _
  refine sX13_addTrain_34 hΓ rfl ?_
  refine sX13_addTrain_35 hΓ rfl ?_
  refine sX13_addTrain_37 hΓ ?_
  refine sX13_addTrain_38 hΓ rfl ?_
  refine sX13_addTrain_39 hΓ 0 0 (Nat.le_of_ble_eq_true rfl) h3.o (fun κ_39 hΓ_39 => sp_lay hΓ_39 h3 (k := n) (w := 2) hn rfl hn6 (by decide) (fun σ4 h4 f4 => ?_))
  show AW G κ _ _ 42 _ _ _
  refine sX13_addTrain_42 hΓ rfl ?_
  refine sX13_addTrain_43 hΓ rfl ?_
  refine sX13_addTrain_45 hΓ ?_
  refine sX13_addTrain_46 hΓ rfl ?_
  refine sX13_addTrain_48 hΓ 0 0 (Nat.le_of_ble_eq_true rfl) h4.o (fun κ_48 hΓ_48 => sp_lay hΓ_48 h4 (k := n) (w := 3) hn rfl hn6 (by decide) (fun σ5 h5 f5 => ?_))
  show AW G κ _ _ 51 _ _ _
  exact sX13_addTrain_51 hΓ (hq _ (by rw [hn, nI_1] at h5; exact h5) ((((f1.tr f2).tr f3).tr f4).tr f5))
theorem sp_readSection (hΓ : Ok G κ mX13_readSection (d + 5) Q X) (h : MV G σ a r (zP z P) A rw ρ η) (hL : z 17 = nI L) (hL5 : L ≤ 500) (hP : pOk (A 15) L P) {s : Nat} (hs : ρ 1 = nI s) (hs4 : 4 ≤ s) (hs24 : s ≤ 24) {w : Nat} {y : Int32} (hy : y = nI w) (hw : w ≤ 100) (hq : ∀ σ1 : Hp, MV G σ1 a r (zP z (qOne (A 15) L s w (P, ρ)).1) A rw (qOne (A 15) L s w (P, ρ)).2 η → MF a r σ σ1 → Q none σ1) : AW G κ cs ss 0 [lR a, lI y, none] [] σ := by
  refine sX13_readSection_0 hΓ rfl ?_
  refine sX13_readSection_1 hΓ 0 0 (Nat.le_of_ble_eq_true rfl) h.o (fun κ_1 hΓ_1 => sp_goOn hΓ_1 h hL hL5 hP (fun σ1 h1 f1 => ?_))
  show AW G κ _ _ 4 _ _ _
  refine sX13_readSection_4 hΓ rfl ?_
  refine sX13_readSection_5 hΓ ?_
  refine sX13_readSection_6 hΓ rfl ?_
  refine sX13_readSection_7 hΓ h1.o rfl ?_
  refine sX13_readSection_10 hΓ ?_
  refine sX13_readSection_11 hΓ h1.row (j := 1) rfl (by decide) (by decide) ?_
  refine sX13_readSection_12 hΓ ?_
  refine sX13_readSection_13 hΓ ?_
  refine sX13_readSection_14 hΓ 0 0 (Nat.le_of_ble_eq_true rfl) h1.o (fun κ_14 hΓ_14 => sp_readNumber hΓ_14 h1 hL hL5 (pGo_ok hP) (lo := 0) (hi := s - 1) rfl (by rw [hs]; exact pk_sub (b := 1) (by omega)) (by decide) (by omega) (fun σ2 h2 f2 => ?_))
  show AW G κ _ _ 17 _ _ _
  refine sX13_readSection_17 hΓ ?_
  refine sX13_readSection_18 hΓ rfl ?_
  refine sX13_readSection_19 hΓ ?_
  refine sX13_readSection_21 hΓ 0 0 (Nat.le_of_ble_eq_true rfl) h2.o (fun κ_21 hΓ_21 => sp_expect hΓ_21 h2 hL hL5 (pRead_ok (pGo_ok hP)) (fun σ3 h3 f3 => ?_))
  show AW G κ _ _ 24 _ _ _
  refine sX13_readSection_24 hΓ rfl ?_
  refine sX13_readSection_25 hΓ h3.o rfl ?_
  refine sX13_readSection_28 hΓ (fun c28 => ?_) (fun c28 => ?_)
  · have e0 : ¬ pR (qSec (A 15) L s P) = 0 := nR_n c28
    have e := qOne_f (w := w) (ρ := ρ) e0
    rw [e] at hq
    exact sX13_readSection_40 hΓ (hq _ h3 ((f1.tr f2).tr f3))
  · have e0 : pR (qSec (A 15) L s P) = 0 := nR_0 (qSec_ok hP).1 c28
    have e := qOne_t (w := w) (ρ := ρ) e0
    rw [e] at hq
    have hv := qSecV_in (b := A 15) (L := L) (P := P) (show 0 < s by omega)
    refine sX13_readSection_31 hΓ rfl ?_
    refine sX13_readSection_32 hΓ h3.o rfl ?_
    refine sX13_readSection_35 hΓ rfl ?_
    refine sX13_readSection_36 hΓ rfl ?_
    refine sX13_readSection_37 hΓ ?_
    refine sX13_readSection_38 hΓ ?_
    refine sX13_readSection_39 hΓ h3.row (ixS hy (k := w) (w := qSecV (A 15) L s P) rfl) (by omega) (by decide) (mv_row h3 (fun σ4 h4 f4 => ?_))
    exact sX13_readSection_40 hΓ (hq _ h4 (((f1.tr f2).tr f3).tr f4))
theorem oI_s {o : Option Nat} (h : ¬ oI o = -1) : o.isNone = false := by
  cases o with
  | none => exact absurd rfl h
  | some k => rfl
theorem oI_n {p : Nat → Bool} {n : Nat} (hn : n ≤ 6) (h : oI (fsB p n) = -1) : fsB p n = none := by
  rcases oI_none h with e | ⟨k, e, e1⟩
  · exact e
  · exact absurd (fsB_lt _ e).1 (by omega)
theorem sp_readTrain (hΓ : Ok G κ mX13_readTrain (d + 5) Q X) (h : MV G σ a r (zP z P) A rw ρ η) (hL : z 17 = nI L) (hL5 : L ≤ 500) (hP : pOk (A 15) L P) {s : Nat} (hs : ρ 1 = nI s) (hs4 : 4 ≤ s) (hs24 : s ≤ 24) {n : Nat} (hn : ρ 3 = nI n) (hn6 : n ≤ 6) (hq : ∀ σ1 : Hp, MV G σ1 a r (zP z (qF (A 15) L n s ρ P)) A rw (qRow (A 15) L n s ρ P) η → MF a r σ σ1 → Q none σ1) : AW G κ cs ss 0 [lR a, none, none, none, none] [] σ := by
  suffices at141 : ∀ σ2 : Hp, MV G σ2 a r (zP z (pCk (pR (pLook (A 15) 0 (s - 1) (qD (A 15) L n ρ P)) != 0 || (rFirst ρ n 3 (nI (qEv (A 15) L n s ρ P))).isNone) 3 (pLook (A 15) 0 (s - 1) (qD (A 15) L n ρ P)))) A rw ρ η → MF a r σ σ2 → AW G κ cs ss 141 [lR a, lI (nI (qAv (A 15) L n P)), lI (nI (pVl (A 15) 1 5 (qB (A 15) L n ρ P))), lI (nI (pVl (A 15) 1 9 (qC (A 15) L n ρ P))), lI (nI (qEv (A 15) L n s ρ P))] [] σ2 by
    suffices at79 : ∀ σ2 : Hp, MV G σ2 a r (zP z (pCk (pR (pLook (A 15) 1 127 (qA (A 15) L n P)) != 0 || (rFirst ρ n 0 (nI (qAv (A 15) L n P))).isNone) 3 (pLook (A 15) 1 127 (qA (A 15) L n P)))) A rw ρ η → MF a r σ σ2 → AW G κ cs ss 79 [lR a, lI (nI (qAv (A 15) L n P)), none, none, none] [] σ2 by
      suffices at40 : ∀ σ2 : Hp, MV G σ2 a r (zP z (pCk (pR (pCk (pWrd (A 15) P 3) 1 P) != 0 || decide (n < 6)) 4 (pCk (pWrd (A 15) P 3) 1 P))) A rw ρ η → MF a r σ σ2 → AW G κ cs ss 40 [lR a, none, none, none, none] [] σ2 by
        refine sX13_readTrain_0 hΓ rfl ?_
        refine sX13_readTrain_1 hΓ rfl ?_
        refine sX13_readTrain_2 hΓ ?_
        refine sX13_readTrain_5 hΓ 0 0 (Nat.le_of_ble_eq_true rfl) h.o (fun κ_5 hΓ_5 => sp_isWord hΓ_5 h hL hL5 hP (t := 3) (by decide) ?_)
        show AW G κ _ _ 8 _ _ _
        refine sX13_readTrain_8 hΓ ?_
        refine sX13_readTrain_9 hΓ 0 0 (Nat.le_of_ble_eq_true rfl) h.o (fun κ_9 hΓ_9 => sp_check hΓ_9 h (c := pWrd (A 15) P 3) rfl (n := 1) rfl hP.1 (fun σ1 h1 f1 => ?_))
        show AW G κ _ _ 12 _ _ _
        refine sX13_readTrain_12 hΓ rfl ?_
        refine sX13_readTrain_13 hΓ rfl ?_
        refine sX13_readTrain_14 hΓ h1.o rfl ?_
        refine sX13_readTrain_17 hΓ (fun c17 => ?_) (fun c17 => ?_)
        · have e : bI (pR (pCk (pWrd (A 15) P 3) 1 P) != 0 || decide (n < 6)) = 1 := by rw [show (pR (pCk (pWrd (A 15) P 3) 1 P) != 0) = true from bne_iff_ne.mpr (nR_n c17)]; rfl
          refine sX13_readTrain_31 hΓ ?_
          refine sX13_readTrain_32 hΓ ?_
          refine sX13_readTrain_36 hΓ ?_
          refine sX13_readTrain_37 hΓ 0 0 (Nat.le_of_ble_eq_true rfl) h1.o (fun κ_37 hΓ_37 => sp_check hΓ_37 h1 (c := pR (pCk (pWrd (A 15) P 3) 1 P) != 0 || decide (n < 6)) e.symm (n := 4) rfl (pCk_ok (b := A 15) (L := L) (c := pWrd (A 15) P 3) (x := 1) (by decide) hP).1 (fun σ2 h2 f2 => ?_))
          show AW G κ _ _ 40 _ _ _
          exact at40 _ h2 (f1.tr f2)
        · have e0 := nR_0 (pCk_ok (b := A 15) (L := L) (c := pWrd (A 15) P 3) (x := 1) (by decide) hP).1 c17
          refine sX13_readTrain_20 hΓ rfl ?_
          refine sX13_readTrain_21 hΓ h1.o rfl ?_
          refine sX13_readTrain_24 hΓ ?_
          refine sX13_readTrain_25 hΓ h1.row (j := 3) rfl (by decide) (by decide) ?_
          refine sX13_readTrain_26 hΓ ?_
          refine sX13_readTrain_28 hΓ (fun c28 => ?_) (fun c28 => ?_)
          · have e : bI (pR (pCk (pWrd (A 15) P 3) 1 P) != 0 || decide (n < 6)) = 0 := by rw [e0, decide_eq_false (Nat.not_lt.mpr (nI_lez (i := 6) rfl hn (by decide) (by omega) c28))]; rfl
            refine sX13_readTrain_35 hΓ ?_
            refine sX13_readTrain_36 hΓ ?_
            refine sX13_readTrain_37 hΓ 0 0 (Nat.le_of_ble_eq_true rfl) h1.o (fun κ_37 hΓ_37 => sp_check hΓ_37 h1 (c := pR (pCk (pWrd (A 15) P 3) 1 P) != 0 || decide (n < 6)) e.symm (n := 4) rfl (pCk_ok (b := A 15) (L := L) (c := pWrd (A 15) P 3) (x := 1) (by decide) hP).1 (fun σ3 h3 f3 => ?_))
            show AW G κ _ _ 40 _ _ _
            exact at40 _ h3 (f1.tr f3)
          · have e : bI (pR (pCk (pWrd (A 15) P 3) 1 P) != 0 || decide (n < 6)) = 1 := by rw [e0, decide_eq_true (Nat.lt_of_not_le (fun c => c28 (by rw [hn]; exact nI_le (a := 6) c (by omega))))]; rfl
            refine sX13_readTrain_31 hΓ ?_
            refine sX13_readTrain_32 hΓ ?_
            refine sX13_readTrain_36 hΓ ?_
            refine sX13_readTrain_37 hΓ 0 0 (Nat.le_of_ble_eq_true rfl) h1.o (fun κ_37 hΓ_37 => sp_check hΓ_37 h1 (c := pR (pCk (pWrd (A 15) P 3) 1 P) != 0 || decide (n < 6)) e.symm (n := 4) rfl (pCk_ok (b := A 15) (L := L) (c := pWrd (A 15) P 3) (x := 1) (by decide) hP).1 (fun σ4 h4 f4 => ?_))
            show AW G κ _ _ 40 _ _ _
            exact at40 _ h4 (f1.tr f4)
      intro σ2 h2 f2
      refine sX13_readTrain_40 hΓ rfl ?_
      refine sX13_readTrain_41 hΓ 0 0 (Nat.le_of_ble_eq_true rfl) h2.o (fun κ_41 hΓ_41 => sp_goOn hΓ_41 h2 hL hL5 (pCk_ok (by decide) (pCk_ok (by decide) hP)) (fun σ21 h21 f21 => ?_))
      show AW G κ _ _ 44 _ _ _
      refine sX13_readTrain_44 hΓ rfl ?_
      refine sX13_readTrain_45 hΓ ?_
      refine sX13_readTrain_46 hΓ ?_
      refine sX13_readTrain_48 hΓ 0 0 (Nat.le_of_ble_eq_true rfl) h21.o (fun κ_48 hΓ_48 => sp_look hΓ_48 h21 hL hL5 (qA_ok hP) (lo := 1) (hi := 127) rfl rfl (by decide) (by decide) (fun σ22 h22 f22 => ?_))
      show AW G κ _ _ 51 _ _ _
      refine sX13_readTrain_51 hΓ ?_
      refine sX13_readTrain_52 hΓ rfl ?_
      refine sX13_readTrain_53 hΓ rfl ?_
      refine sX13_readTrain_54 hΓ h22.o rfl ?_
      refine sX13_readTrain_57 hΓ (fun c57 => ?_) (fun c57 => ?_)
      · have e : bI (pR (pLook (A 15) 1 127 (qA (A 15) L n P)) != 0 || (rFirst ρ n 0 (nI (qAv (A 15) L n P))).isNone) = 1 := by rw [show (pR (pLook (A 15) 1 127 (qA (A 15) L n P)) != 0) = true from bne_iff_ne.mpr (nR_n c57)]; rfl
        refine sX13_readTrain_70 hΓ ?_
        refine sX13_readTrain_71 hΓ ?_
        refine sX13_readTrain_75 hΓ ?_
        refine sX13_readTrain_76 hΓ 0 0 (Nat.le_of_ble_eq_true rfl) h22.o (fun κ_76 hΓ_76 => sp_check hΓ_76 h22 (c := pR (pLook (A 15) 1 127 (qA (A 15) L n P)) != 0 || (rFirst ρ n 0 (nI (qAv (A 15) L n P))).isNone) e.symm (n := 3) rfl (pLook_ok (b := A 15) (L := L) (lo := 1) (hi := 127) (qA_ok (n := n) hP)).1 (fun σ23 h23 f23 => ?_))
        show AW G κ _ _ 79 _ _ _
        exact at79 _ h23 (((f2.tr f21).tr f22).tr f23)
      · have e0 := nR_0 (pLook_ok (b := A 15) (L := L) (lo := 1) (hi := 127) (qA_ok (n := n) hP)).1 c57
        refine sX13_readTrain_60 hΓ rfl ?_
        refine sX13_readTrain_61 hΓ ?_
        refine sX13_readTrain_62 hΓ rfl ?_
        refine sX13_readTrain_63 hΓ 0 0 (Nat.le_of_ble_eq_true rfl) h22.o (fun κ_63 hΓ_63 => sp_first hΓ_63 h22 hn hn6 (w := 0) rfl (by decide) ?_)
        show AW G κ _ _ 66 _ _ _
        refine sX13_readTrain_66 hΓ ?_
        refine sX13_readTrain_67 hΓ (fun c67 => ?_) (fun c67 => ?_)
        · have e : bI (pR (pLook (A 15) 1 127 (qA (A 15) L n P)) != 0 || (rFirst ρ n 0 (nI (qAv (A 15) L n P))).isNone) = 0 := by rw [e0, oI_s (show ¬ oI (rFirst ρ n 0 (nI (qAv (A 15) L n P))) = -1 from c67)]; rfl
          refine sX13_readTrain_74 hΓ ?_
          refine sX13_readTrain_75 hΓ ?_
          refine sX13_readTrain_76 hΓ 0 0 (Nat.le_of_ble_eq_true rfl) h22.o (fun κ_76 hΓ_76 => sp_check hΓ_76 h22 (c := pR (pLook (A 15) 1 127 (qA (A 15) L n P)) != 0 || (rFirst ρ n 0 (nI (qAv (A 15) L n P))).isNone) e.symm (n := 3) rfl (pLook_ok (b := A 15) (L := L) (lo := 1) (hi := 127) (qA_ok (n := n) hP)).1 (fun σ24 h24 f24 => ?_))
          show AW G κ _ _ 79 _ _ _
          exact at79 _ h24 (((f2.tr f21).tr f22).tr f24)
        · have e : bI (pR (pLook (A 15) 1 127 (qA (A 15) L n P)) != 0 || (rFirst ρ n 0 (nI (qAv (A 15) L n P))).isNone) = 1 := by
            rw [e0, show rFirst ρ n 0 (nI (qAv (A 15) L n P)) = none from oI_n hn6 c67]; rfl
          refine sX13_readTrain_70 hΓ ?_
          refine sX13_readTrain_71 hΓ ?_
          refine sX13_readTrain_75 hΓ ?_
          refine sX13_readTrain_76 hΓ 0 0 (Nat.le_of_ble_eq_true rfl) h22.o (fun κ_76 hΓ_76 => sp_check hΓ_76 h22 (c := pR (pLook (A 15) 1 127 (qA (A 15) L n P)) != 0 || (rFirst ρ n 0 (nI (qAv (A 15) L n P))).isNone) e.symm (n := 3) rfl (pLook_ok (b := A 15) (L := L) (lo := 1) (hi := 127) (qA_ok (n := n) hP)).1 (fun σ25 h25 f25 => ?_))
          show AW G κ _ _ 79 _ _ _
          exact at79 _ h25 (((f2.tr f21).tr f22).tr f25)
    intro σ3 h3 f3
    refine sX13_readTrain_79 hΓ rfl ?_
    refine sX13_readTrain_80 hΓ 0 0 (Nat.le_of_ble_eq_true rfl) h3.o (fun κ_80 hΓ_80 => sp_goOn hΓ_80 h3 hL hL5 (pCk_ok (by decide) (pLook_ok (qA_ok hP))) (fun σ41 h41 f41 => ?_))
    show AW G κ _ _ 83 _ _ _
    refine sX13_readTrain_83 hΓ rfl ?_
    refine sX13_readTrain_84 hΓ ?_
    refine sX13_readTrain_85 hΓ ?_
    refine sX13_readTrain_86 hΓ 0 0 (Nat.le_of_ble_eq_true rfl) h41.o (fun κ_86 hΓ_86 => sp_readNumber hΓ_86 h41 hL hL5 (qB_ok hP) (lo := 1) (hi := 5) rfl rfl (by decide) (by decide) (fun σ42 h42 f42 => ?_))
    show AW G κ _ _ 89 _ _ _
    refine sX13_readTrain_89 hΓ ?_
    refine sX13_readTrain_90 hΓ rfl ?_
    refine sX13_readTrain_91 hΓ ?_
    refine sX13_readTrain_92 hΓ ?_
    refine sX13_readTrain_94 hΓ 0 0 (Nat.le_of_ble_eq_true rfl) h42.o (fun κ_94 hΓ_94 => sp_readNumber hΓ_94 h42 hL hL5 (qC_ok hP) (lo := 1) (hi := 9) rfl rfl (by decide) (by decide) (fun σ43 h43 f43 => ?_))
    show AW G κ _ _ 97 _ _ _
    refine sX13_readTrain_97 hΓ ?_
    refine sX13_readTrain_98 hΓ rfl ?_
    refine sX13_readTrain_99 hΓ ?_
    refine sX13_readTrain_100 hΓ rfl ?_
    refine sX13_readTrain_101 hΓ h43.o rfl ?_
    refine sX13_readTrain_104 hΓ ?_
    refine sX13_readTrain_105 hΓ h43.row (j := 1) rfl (by decide) (by decide) ?_
    refine sX13_readTrain_106 hΓ ?_
    refine sX13_readTrain_107 hΓ ?_
    refine sX13_readTrain_108 hΓ 0 0 (Nat.le_of_ble_eq_true rfl) h43.o (fun κ_108 hΓ_108 => sp_look hΓ_108 h43 hL hL5 (qD_ok hP) (lo := 0) (hi := s - 1) rfl (by rw [hs]; exact pk_sub (b := 1) (by omega)) (by decide) (by omega) (fun σ44 h44 f44 => ?_))
    show AW G κ _ _ 111 _ _ _
    refine sX13_readTrain_111 hΓ ?_
    refine sX13_readTrain_113 hΓ rfl ?_
    refine sX13_readTrain_114 hΓ rfl ?_
    refine sX13_readTrain_115 hΓ h44.o rfl ?_
    refine sX13_readTrain_118 hΓ (fun c118 => ?_) (fun c118 => ?_)
    · have e : bI (pR (pLook (A 15) 0 (s - 1) (qD (A 15) L n ρ P)) != 0 || (rFirst ρ n 3 (nI (qEv (A 15) L n s ρ P))).isNone) = 1 := by rw [show (pR (pLook (A 15) 0 (s - 1) (qD (A 15) L n ρ P)) != 0) = true from bne_iff_ne.mpr (nR_n c118)]; rfl
      refine sX13_readTrain_132 hΓ ?_
      refine sX13_readTrain_133 hΓ ?_
      refine sX13_readTrain_137 hΓ ?_
      refine sX13_readTrain_138 hΓ 0 0 (Nat.le_of_ble_eq_true rfl) h44.o (fun κ_138 hΓ_138 => sp_check hΓ_138 h44 (c := pR (pLook (A 15) 0 (s - 1) (qD (A 15) L n ρ P)) != 0 || (rFirst ρ n 3 (nI (qEv (A 15) L n s ρ P))).isNone) e.symm (n := 3) rfl (pLook_ok (b := A 15) (L := L) (lo := 0) (hi := s - 1) (qD_ok (n := n) (ρ := ρ) hP)).1 (fun σ45 h45 f45 => ?_))
      show AW G κ _ _ 141 _ _ _
      exact at141 _ h45 (((((f3.tr f41).tr f42).tr f43).tr f44).tr f45)
    · have e0 := nR_0 (pLook_ok (b := A 15) (L := L) (lo := 0) (hi := s - 1) (qD_ok (n := n) (ρ := ρ) hP)).1 c118
      refine sX13_readTrain_121 hΓ rfl ?_
      refine sX13_readTrain_122 hΓ ?_
      refine sX13_readTrain_123 hΓ rfl ?_
      refine sX13_readTrain_125 hΓ 0 0 (Nat.le_of_ble_eq_true rfl) h44.o (fun κ_125 hΓ_125 => sp_first hΓ_125 h44 hn hn6 (w := 3) rfl (by decide) ?_)
      show AW G κ _ _ 128 _ _ _
      refine sX13_readTrain_128 hΓ ?_
      refine sX13_readTrain_129 hΓ (fun c129 => ?_) (fun c129 => ?_)
      · have e : bI (pR (pLook (A 15) 0 (s - 1) (qD (A 15) L n ρ P)) != 0 || (rFirst ρ n 3 (nI (qEv (A 15) L n s ρ P))).isNone) = 0 := by rw [e0, oI_s (show ¬ oI (rFirst ρ n 3 (nI (qEv (A 15) L n s ρ P))) = -1 from c129)]; rfl
        refine sX13_readTrain_136 hΓ ?_
        refine sX13_readTrain_137 hΓ ?_
        refine sX13_readTrain_138 hΓ 0 0 (Nat.le_of_ble_eq_true rfl) h44.o (fun κ_138 hΓ_138 => sp_check hΓ_138 h44 (c := pR (pLook (A 15) 0 (s - 1) (qD (A 15) L n ρ P)) != 0 || (rFirst ρ n 3 (nI (qEv (A 15) L n s ρ P))).isNone) e.symm (n := 3) rfl (pLook_ok (b := A 15) (L := L) (lo := 0) (hi := s - 1) (qD_ok (n := n) (ρ := ρ) hP)).1 (fun σ46 h46 f46 => ?_))
        show AW G κ _ _ 141 _ _ _
        exact at141 _ h46 (((((f3.tr f41).tr f42).tr f43).tr f44).tr f46)
      · have e : bI (pR (pLook (A 15) 0 (s - 1) (qD (A 15) L n ρ P)) != 0 || (rFirst ρ n 3 (nI (qEv (A 15) L n s ρ P))).isNone) = 1 := by rw [e0, show rFirst ρ n 3 (nI (qEv (A 15) L n s ρ P)) = none from oI_n hn6 c129]; rfl
        refine sX13_readTrain_132 hΓ ?_
        refine sX13_readTrain_133 hΓ ?_
        refine sX13_readTrain_137 hΓ ?_
        refine sX13_readTrain_138 hΓ 0 0 (Nat.le_of_ble_eq_true rfl) h44.o (fun κ_138 hΓ_138 => sp_check hΓ_138 h44 (c := pR (pLook (A 15) 0 (s - 1) (qD (A 15) L n ρ P)) != 0 || (rFirst ρ n 3 (nI (qEv (A 15) L n s ρ P))).isNone) e.symm (n := 3) rfl (pLook_ok (b := A 15) (L := L) (lo := 0) (hi := s - 1) (qD_ok (n := n) (ρ := ρ) hP)).1 (fun σ47 h47 f47 => ?_))
        show AW G κ _ _ 141 _ _ _
        exact at141 _ h47 (((((f3.tr f41).tr f42).tr f43).tr f44).tr f47)
  intro σ4 h4 f4
  refine sX13_readTrain_141 hΓ rfl ?_
  refine sX13_readTrain_142 hΓ 0 0 (Nat.le_of_ble_eq_true rfl) h4.o (fun κ_142 hΓ_142 => sp_goOn hΓ_142 h4 hL hL5 (pCk_ok (by decide) (pLook_ok (qD_ok hP))) (fun σ61 h61 f61 => ?_))
  show AW G κ _ _ 145 _ _ _
  refine sX13_readTrain_145 hΓ rfl ?_
  refine sX13_readTrain_146 hΓ ?_
  refine sX13_readTrain_148 hΓ 0 0 (Nat.le_of_ble_eq_true rfl) h61.o (fun κ_148 hΓ_148 => sp_expect hΓ_148 h61 hL hL5 (qE_ok hP) (fun σ62 h62 f62 => ?_))
  show AW G κ _ _ 151 _ _ _
  refine sX13_readTrain_151 hΓ rfl ?_
  refine sX13_readTrain_152 hΓ h62.o rfl ?_
  refine sX13_readTrain_155 hΓ (fun c155 => ?_) (fun c155 => ?_)
  · have e : qRow (A 15) L n s ρ P = ρ := if_neg (nR_n c155)
    rw [e] at hq
    exact sX13_readTrain_167 hΓ (hq _ h62 ((f4.tr f61).tr f62))
  · have e0 := nR_0 (qF_ok (n := n) (s := s) (ρ := ρ) hP).1 c155
    have e : qRow (A 15) L n s ρ P = _ := if_pos e0
    rw [e] at hq
    refine sX13_readTrain_158 hΓ rfl ?_
    refine sX13_readTrain_159 hΓ rfl ?_
    refine sX13_readTrain_160 hΓ rfl ?_
    refine sX13_readTrain_161 hΓ rfl ?_
    refine sX13_readTrain_162 hΓ rfl ?_
    refine sX13_readTrain_164 hΓ 0 0 (Nat.le_of_ble_eq_true rfl) h62.o (fun κ_164 hΓ_164 => sp_addTrain hΓ_164 h62 hn (qF_z e0).2.1 (fun σ63 h63 f63 => ?_))
    show AW G κ _ _ 167 _ _ _
    exact sX13_readTrain_167 hΓ (hq _ h63 (((f4.tr f61).tr f62).tr f63))
theorem sp_readRailway (hΓ : Ok G κ mX13_readRailway (d + 6) Q X) (h : MV G σ a r (zP z P) A rw ρ η) (hL : z 17 = nI L) (hL5 : L ≤ 500) (hP : pOk (A 15) L P) (hq : ∀ σ1 : Hp, MV G σ1 a r (zP z (lF (A 15) L P).1) A rw (lF (A 15) L P).2.1 η → MF a r σ σ1 → Q none σ1) : AW G κ cs ss 0 [lR a, none, none] [] σ := by
  have hs := lS_in (b := A 15) (L := L) (P := P)
  suffices at87 : ∀ σ2 : Hp, pOk (A 15) L (lE (A 15) L P).1 → qOk (lE (A 15) L P).2 0 (lS (A 15) L P) → MV G σ2 a r (zP z (lE (A 15) L P).1) A rw (lE (A 15) L P).2 η → MF a r σ σ2 → AW G κ cs ss 87 [lR a, lI (nI (lS (A 15) L P)), lI (nI (lC (A 15) L P))] [] σ2 by
    suffices loop : ∀ (m : Nat) (Y : Pt × (Nat → Int32)) (σ2 : Hp), pOk (A 15) L Y.1 → qOk Y.2 0 (lS (A 15) L P) → (pR Y.1 = 0 → L < pE Y.1 + m) → qSecs (A 15) L (lS (A 15) L P) m Y = lE (A 15) L P → MV G σ2 a r (zP z Y.1) A rw Y.2 η → MF a r σ σ2 → AW G κ cs ss 44 [lR a, lI (nI (lS (A 15) L P)), lI (nI (lC (A 15) L P))] [] σ2 by
      refine sX13_readRailway_0 hΓ rfl ?_
      refine sX13_readRailway_1 hΓ rfl ?_
      refine sX13_readRailway_2 hΓ ?_
      refine sX13_readRailway_5 hΓ 0 0 (Nat.le_of_ble_eq_true rfl) h.o (fun κ_5 hΓ_5 => sp_isWord hΓ_5 h hL hL5 hP (t := 0) (by decide) ?_)
      show AW G κ _ _ 8 _ _ _
      refine sX13_readRailway_8 hΓ ?_
      refine sX13_readRailway_9 hΓ 0 0 (Nat.le_of_ble_eq_true rfl) h.o (fun κ_9 hΓ_9 => sp_check hΓ_9 h (c := pWrd (A 15) P 0) rfl (n := 1) rfl hP.1 (fun σ1 h1 f1 => ?_))
      show AW G κ _ _ 12 _ _ _
      refine sX13_readRailway_12 hΓ rfl ?_
      refine sX13_readRailway_13 hΓ 0 0 (Nat.le_of_ble_eq_true rfl) h1.o (fun κ_13 hΓ_13 => sp_goOn hΓ_13 h1 hL hL5 (pCk_ok (by decide) hP) (fun σ2 h2 f2 => ?_))
      show AW G κ _ _ 16 _ _ _
      refine sX13_readRailway_16 hΓ rfl ?_
      refine sX13_readRailway_17 hΓ ?_
      refine sX13_readRailway_18 hΓ ?_
      refine sX13_readRailway_20 hΓ 0 0 (Nat.le_of_ble_eq_true rfl) h2.o (fun κ_20 hΓ_20 => sp_readNumber hΓ_20 h2 hL hL5 (lA_ok hP) (lo := 4) (hi := 24) rfl rfl (by decide) (by decide) (fun σ3 h3 f3 => ?_))
      show AW G κ _ _ 23 _ _ _
      refine sX13_readRailway_23 hΓ ?_
      refine sX13_readRailway_24 hΓ rfl ?_
      refine sX13_readRailway_25 hΓ ?_
      refine sX13_readRailway_26 hΓ ?_
      refine sX13_readRailway_28 hΓ 0 0 (Nat.le_of_ble_eq_true rfl) h3.o (fun κ_28 hΓ_28 => sp_readNumber hΓ_28 h3 hL hL5 (lB_ok hP) (lo := 1) (hi := 20) rfl rfl (by decide) (by decide) (fun σ4 h4 f4 => ?_))
      show AW G κ _ _ 31 _ _ _
      refine sX13_readRailway_31 hΓ ?_
      refine sX13_readRailway_32 hΓ rfl ?_
      refine sX13_readRailway_33 hΓ ?_
      refine sX13_readRailway_35 hΓ 0 0 (Nat.le_of_ble_eq_true rfl) h4.o (fun κ_35 hΓ_35 => sp_expect hΓ_35 h4 hL hL5 (pRead_ok (lB_ok hP)) (fun σ5 h5 f5 => ?_))
      show AW G κ _ _ 38 _ _ _
      refine sX13_readRailway_38 hΓ rfl ?_
      refine sX13_readRailway_39 hΓ rfl ?_
      refine sX13_readRailway_40 hΓ rfl ?_
      refine sX13_readRailway_41 hΓ 0 0 (Nat.le_of_ble_eq_true rfl) h5.o (fun κ_41 hΓ_41 => sp_begin hΓ_41 h5 (fun σ6 h6 f6 => ?_))
      show AW G κ _ _ 44 _ _ _
      exact loop 501 (lD (A 15) L P, rBeg (nI (lS (A 15) L P)) (nI (lC (A 15) L P))) _ (lD_ok hP) ⟨rfl, by decide, rfl⟩ (fun _ => by omega) rfl h6 (((((f1.tr f2).tr f3).tr f4).tr f5).tr f6)
    intro m
    induction m with
    | zero =>
      intro Y σ2 hY hY2 hm e h2 f2
      have h0 : ¬ pR Y.1 = 0 := fun c => absurd (hm c) (Nat.not_lt.mpr hY.le.2)
      have w1 : ∀ t, pWrd (A 15) Y.1 t = false := fun t => Bool.eq_false_iff.mpr (fun c => h0 (pWrd_0 c))
      have eY : Y = lE (A 15) L P := e
      refine sX13_readRailway_44 hΓ rfl ?_
      refine sX13_readRailway_45 hΓ ?_
      refine sX13_readRailway_48 hΓ 0 0 (Nat.le_of_ble_eq_true rfl) h2.o (fun κ_48 hΓ_48 => sp_isWord hΓ_48 h2 hL hL5 hY (t := 1) (by decide) ?_)
      show AW G κ _ _ 51 _ _ _
      refine sX13_readRailway_51 hΓ (fun c51 => absurd (by rw [w1]; rfl) c51) (fun c51 => ?_)
      refine sX13_readRailway_54 hΓ rfl ?_
      refine sX13_readRailway_55 hΓ ?_
      refine sX13_readRailway_57 hΓ 0 0 (Nat.le_of_ble_eq_true rfl) h2.o (fun κ_57 hΓ_57 => sp_isWord hΓ_57 h2 hL hL5 hY (t := 2) (by decide) ?_)
      show AW G κ _ _ 60 _ _ _
      refine sX13_readRailway_60 hΓ (fun c60 => ?_) (fun c60 => absurd (by rw [w1]; rfl) c60)
      exact at87 _ (by rw [← eY]; exact hY) (by rw [← eY]; exact hY2) (by rw [← eY]; exact h2) f2
    | succ m ih =>
      intro Y σ2 hY hY2 hm e h2 f2
      suffices at63 : (pWrd (A 15) Y.1 1 || pWrd (A 15) Y.1 2) = true → AW G κ cs ss 63 [lR a, lI (nI (lS (A 15) L P)), lI (nI (lC (A 15) L P))] [] σ2 by
        refine sX13_readRailway_44 hΓ rfl ?_
        refine sX13_readRailway_45 hΓ ?_
        refine sX13_readRailway_48 hΓ 0 0 (Nat.le_of_ble_eq_true rfl) h2.o (fun κ_48 hΓ_48 => sp_isWord hΓ_48 h2 hL hL5 hY (t := 1) (by decide) ?_)
        show AW G κ _ _ 51 _ _ _
        refine sX13_readRailway_51 hΓ (fun c51 => ?_) (fun c51 => ?_)
        · have w1 := bI_n0 c51
          exact at63 (by first | rw [w1]; rfl | rw [w2, Bool.or_true])
        · have w1 := bI_0 c51
          refine sX13_readRailway_54 hΓ rfl ?_
          refine sX13_readRailway_55 hΓ ?_
          refine sX13_readRailway_57 hΓ 0 0 (Nat.le_of_ble_eq_true rfl) h2.o (fun κ_57 hΓ_57 => sp_isWord hΓ_57 h2 hL hL5 hY (t := 2) (by decide) ?_)
          show AW G κ _ _ 60 _ _ _
          refine sX13_readRailway_60 hΓ (fun c60 => ?_) (fun c60 => ?_)
          · have w2 := bI_0 c60
            have eY := (qSecs_f (b := A 15) (L := L) (s := lS (A 15) L P) (m := m + 1) (Y := Y) (by rw [w1, w2]; rfl)).symm.trans e
            exact at87 _ (by rw [← eY]; exact hY) (by rw [← eY]; exact hY2) (by rw [← eY]; exact h2) f2
          · have w2 := bI_n0 c60
            exact at63 (by first | rw [w1]; rfl | rw [w2, Bool.or_true])
      intro hw
      have h0 : pR Y.1 = 0 := by
        rcases Bool.or_eq_true_iff.mp hw with c | c <;> exact pWrd_0 c
      have hm1 := hm h0
      have e1 : qSecs (A 15) L (lS (A 15) L P) m (qOne (A 15) L (lS (A 15) L P) (if pWrd (A 15) Y.1 1 = true then 10 else 34) Y) = lE (A 15) L P := (if_pos hw).symm.trans e
      refine sX13_readRailway_63 hΓ rfl ?_
      refine sX13_readRailway_64 hΓ rfl ?_
      refine sX13_readRailway_65 hΓ ?_
      refine sX13_readRailway_68 hΓ 0 0 (Nat.le_of_ble_eq_true rfl) h2.o (fun κ_68 hΓ_68 => sp_isWord hΓ_68 h2 hL hL5 hY (t := 1) (by decide) ?_)
      show AW G κ _ _ 71 _ _ _
      refine sX13_readRailway_71 hΓ (fun c71 => ?_) (fun c71 => ?_)
      · rw [if_neg (by rw [bI_0 c71]; exact Bool.false_ne_true)] at e1
        refine sX13_readRailway_79 hΓ ?_
        refine sX13_readRailway_81 hΓ 0 0 (Nat.le_of_ble_eq_true rfl) h2.o (fun κ_81 hΓ_81 => sp_readSection hΓ_81 h2 hL hL5 hY hY2.2.2 hs.1 hs.2 (w := 34) rfl (by decide) (fun σ61 h61 f61 => ?_))
        show AW G κ _ _ 84 _ _ _
        refine sX13_readRailway_84 hΓ ?_
        refine ih _ _ (qSec_ok hY) ?_ (fun c => ?_) e1 h61 (f2.tr f61)
        · show qOk (if _ then _ else _) _ _
          split
          · exact hY2.sec (by omega)
          · exact hY2
        · have := qSec_gt hY c
          show L < pE (qSec (A 15) L (lS (A 15) L P) Y.1) + m
          omega
      · rw [if_pos (bI_n0 c71)] at e1
        refine sX13_readRailway_74 hΓ ?_
        refine sX13_readRailway_76 hΓ ?_
        refine sX13_readRailway_81 hΓ 0 0 (Nat.le_of_ble_eq_true rfl) h2.o (fun κ_81 hΓ_81 => sp_readSection hΓ_81 h2 hL hL5 hY hY2.2.2 hs.1 hs.2 (w := 10) rfl (by decide) (fun σ62 h62 f62 => ?_))
        show AW G κ _ _ 84 _ _ _
        refine sX13_readRailway_84 hΓ ?_
        refine ih _ _ (qSec_ok hY) ?_ (fun c => ?_) e1 h62 (f2.tr f62)
        · show qOk (if _ then _ else _) _ _
          split
          · exact hY2.sec (by omega)
          · exact hY2
        · have := qSec_gt hY c
          show L < pE (qSec (A 15) L (lS (A 15) L P) Y.1) + m
          omega
  intro σ2 hY hY2 h2 f2
  suffices loop : ∀ (m : Nat) (Y : Yt) (σ2 : Hp), pOk (A 15) L Y.1 → qOk Y.2.1 Y.2.2 (lS (A 15) L P) → (pR Y.1 = 0 → 7 ≤ Y.2.2 + m) → qTrs (A 15) L (lS (A 15) L P) m Y = lF (A 15) L P → MV G σ2 a r (zP z Y.1) A rw Y.2.1 η → MF a r σ σ2 → AW G κ cs ss 91 [lR a, lI (nI (lS (A 15) L P)), lI (nI (lC (A 15) L P))] [] σ2 by
    refine sX13_readRailway_87 hΓ rfl ?_
    refine sX13_readRailway_88 hΓ 0 0 (Nat.le_of_ble_eq_true rfl) h2.o (fun κ_88 hΓ_88 => sp_readTrain hΓ_88 h2 hL hL5 hY hY2.2.2 hs.1 hs.2 (n := 0) hY2.1 (by decide) (fun σ81 h81 f81 => ?_))
    show AW G κ _ _ 91 _ _ _
    exact loop 7 (qTr (A 15) L (lS (A 15) L P) ((lE (A 15) L P).1, (lE (A 15) L P).2, 0)) _ (qF_ok hY) (qTr_ok (Y := ((lE (A 15) L P).1, (lE (A 15) L P).2, 0)) hY2) (fun _ => by omega) rfl h81 (f2.tr f81)
  intro m
  induction m with
  | zero =>
    intro Y σ3 hY hY2 hm e h3 f3
    have h0 : ¬ pR Y.1 = 0 := fun c => by have := hm c; have := hY2.2.1; omega
    have eY : Y = lF (A 15) L P := e
    refine sX13_readRailway_91 hΓ rfl ?_
    refine sX13_readRailway_92 hΓ h3.o rfl ?_
    refine sX13_readRailway_95 hΓ (fun c95 => ?_) (fun c95 => absurd (nR_0 hY.1 c95) h0)
    exact sX13_readRailway_112 hΓ (by subst eY; exact hq _ h3 f3)
  | succ m ih =>
    intro Y σ3 hY hY2 hm e h3 f3
    refine sX13_readRailway_91 hΓ rfl ?_
    refine sX13_readRailway_92 hΓ h3.o rfl ?_
    refine sX13_readRailway_95 hΓ (fun c95 => ?_) (fun c95 => ?_)
    · have eY := (qTrs_f (fun c => nR_n c95 c.1)).symm.trans e
      exact sX13_readRailway_112 hΓ (by subst eY; exact hq _ h3 f3)
    · have h0 := nR_0 hY.1 c95
      refine sX13_readRailway_98 hΓ rfl ?_
      refine sX13_readRailway_99 hΓ h3.o rfl ?_
      refine sX13_readRailway_102 hΓ (fun c102 => ?_) (fun c102 => ?_)
      · have eY := (qTrs_f (fun c => c.2 (nK_is (k := 0) hY.k3 (by decide) c102))).symm.trans e
        exact sX13_readRailway_112 hΓ (by subst eY; exact hq _ h3 f3)
      · have h1 := nK_ne (k := 0) c102
        have e1 : qTrs (A 15) L (lS (A 15) L P) m (qTr (A 15) L (lS (A 15) L P) Y) = lF (A 15) L P := (if_pos ⟨h0, h1⟩).symm.trans e
        have hm1 := hm h0
        refine sX13_readRailway_105 hΓ rfl ?_
        refine sX13_readRailway_106 hΓ 0 0 (Nat.le_of_ble_eq_true rfl) h3.o (fun κ_106 hΓ_106 => sp_readTrain hΓ_106 h3 hL hL5 hY hY2.2.2 hs.1 hs.2 (n := Y.2.2) hY2.1 hY2.2.1 (fun σ101 h101 f101 => ?_))
        show AW G κ _ _ 109 _ _ _
        refine sX13_readRailway_109 hΓ ?_
        refine ih (qTr (A 15) L (lS (A 15) L P) Y) _ (qF_ok hY) (qTr_ok hY2) (fun c => ?_) e1 h101 (f3.tr f101)
        have e2 : (qTr (A 15) L (lS (A 15) L P) Y).2.2 = Y.2.2 + 1 := if_pos c
        rw [e2]
        omega
end ModelLoad
