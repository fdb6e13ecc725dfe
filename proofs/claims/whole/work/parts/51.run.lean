/-! the class's runner: chains -/
section ClassRun
variable {G : Gl} {κ : Kx} {d : Nat} {Q : Option Value → Hp → Prop} {X : String → Hp → Prop} {cs ss pc : Nat} {M : List (Option LV)} {st : List Value} {σ σ1 : Hp} {c c1 : Nat → Nat} {w a n s oc : Nat} {nd : Nat → Nat} {D : Nat → Dt} {O : Nat → Int32} {C C1 : Ct} {R R1 : Rt}
/-- the state while a script runs -/
def SR (G : Gl) (σ : Hp) (c : Nat → Nat) (w a n s : Nat) (nd : Nat → Nat) (D : Nat → Dt) (oc : Nat) (R : Rt) (C : Ct) : Prop :=
  (σ w = some (.inr (6, [.ref a, .int (nI R.2)])) ∧ c w = w) ∧ RY G σ c a n C ∧ (CR R.1 n s C ∧ RV R.1 n s) ∧ CM G σ c nd D oc
theorem SR.o (h : SR G σ c w a n s nd D oc R C) : σ w = some (.inr (6, [.ref a, .int (nI R.2)])) := h.1.1
theorem SR.cm (h : SR G σ c w a n s nd D oc R C) {i : Nat} (hi : i < oc) : σ (nd i) = some (.inr (0, cmV G (D i))) := (h.2.2.2 i hi).1
theorem SR.wa (h : SR G σ c w a n s nd D oc R C) : w ≠ a := by
  obtain ⟨t, q, o⟩ := h.2.1.o
  exact obj_ne h.o o (by decide)
theorem SR.na (h : SR G σ c w a n s nd D oc R C) : ∀ i, i < oc → ¬ nd i = a := by
  obtain ⟨t, q, o⟩ := h.2.1.o
  exact h.2.2.2.ne o (by decide)
abbrev WR (a w : Nat) : Nat → Prop := fun x => x = a ∨ x = w
theorem SR.mv (h : SR G σ c w a n s nd D oc R C) {ρ1 : Nat → Int32} (h1 : RY G σ1 c a n C1) (h2 : CR ρ1 n s C1) (h3 : RV ρ1 n s) (f : KF (fun x => x = a) σ c σ1 c) : SR G σ1 c w a n s nd D oc (ρ1, R.2) C1 :=
  ⟨⟨(f _ _ h.1.1).2.1 (by rw [h.1.2]; exact h.wa), h.1.2⟩, h1, ⟨h2, h3⟩, h.2.2.2.keep f h.na⟩
theorem SR.up (h : SR G σ c w a n s nd D oc R C) : SR G (hset σ w (.inr (6, [.ref a, .int (nI (R.2 + 1))]))) c w a n s nd D oc (R.1, R.2 + 1) C ∧ KF (fun x => x = w) σ c (hset σ w (.inr (6, [.ref a, .int (nI (R.2 + 1))]))) c := by
  have f : KF (fun x => x = w) σ c (hset σ w (.inr (6, [.ref a, .int (nI (R.2 + 1))]))) c := KF.set h.o h.1.2
  exact ⟨⟨⟨hset_same _ _ _, h.1.2⟩, h.2.1.keep f (Ne.symm h.wa), h.2.2.1, h.2.2.2.keep f (h.2.2.2.ne h.o (by decide))⟩, f⟩
def ChSpec (G : Gl) (w a n s : Nat) (nd : Nat → Nat) (D : Nat → Dt) (oc : Nat) (O : Nat → Int32) (m : Nat) : Prop := ∀ (κ : Kx) (dd : Nat) (Q : Option Value → Hp → Prop) (X : String → Hp → Prop) (cs ss : Nat) (σ : Hp) (c : Nat → Nat) (C : Ct) (i j g : Nat) (h : Option Nat) (m1 : Nat) (R : Rt) (ra : Int32), 6 + 2 * g ≤ dd → Ok G κ mX9_runChain dd Q X → SR G σ c w a n s nd D oc R C → segOk O m g i j → cH nd D O m1 i j h → j ≤ oc → g ≤ 2 → ra = nI (2 - g) → (∀ (σ1 : Hp) (C1 : Ct), SR G σ1 c w a n s nd D oc (xRun n s O m i j R).2 C1 → KF (WR a w) σ c σ1 c → Q (some (.int (bI (xRun n s O m i j R).1))) σ1) → AW G κ cs ss 0 [lR w, some (.inr h), lI ra, none] [] σ
def LpSpec (G : Gl) (w a n s : Nat) (nd : Nat → Nat) (D : Nat → Dt) (oc : Nat) (O : Nat → Int32) (m : Nat) : Prop := ∀ (κ : Kx) (dd : Nat) (Q : Option Value → Hp → Prop) (X : String → Hp → Prop) (cs ss : Nat) (σ : Hp) (c : Nat → Nat) (C : Ct) (i j g : Nat) (h h0 : Option Nat) (m1 : Nat) (R : Rt) (ra : Int32), 6 + 2 * g ≤ dd → Ok G κ mX9_runChain dd Q X → SR G σ c w a n s nd D oc R C → segOk O m g i j → cH nd D O m1 i j h → j ≤ oc → g ≤ 2 → ra = nI (2 - g) → (∀ (σ1 : Hp) (C1 : Ct), SR G σ1 c w a n s nd D oc (xRun n s O m i j R).2 C1 → KF (WR a w) σ c σ1 c → Q (some (.int (bI (xRun n s O m i j R).1))) σ1) → AW G κ cs ss 9 [lR w, some (.inr h0), lI ra, some (.inr h)] [] σ
theorem ch_of_lp {m : Nat} (hl : LpSpec G w a n s nd D oc O m) : ChSpec G w a n s nd D oc O m := by
  intro κ dd Q X cs ss σ c C i j g h m1 R ra hd hΓ hS hg hc hj hg2 hra hq
  refine sX9_runChain_0 hΓ rfl ?_
  refine sX9_runChain_1 hΓ ?_
  refine sX9_runChain_2 hΓ (fun c2 => ?_) (fun c2 => absurd (lp_out (x := 2) (y := ra) (n := 2 - g) (i := 2) rfl hra (by omega) (by decide)) c2)
  refine sX9_runChain_7q hΓ rfl ?_
  refine sX9_runChain_8q hΓ ?_
  exact hl κ dd Q X cs ss σ c C i j g h h m1 R ra hd hΓ hS hg hc hj hg2 hra hq
/-- what one command does -/
noncomputable def xOne (n s : Nat) (O : Nat → Int32) (m i e : Nat) (R : Rt) : Bool × Rt :=
  if O (4 * i + 0) = 7 then xTimes (xRun n s O m (i + 1) e) (O (4 * i + 1)).toNatClampNeg R
  else if (xOp n s O i xZ R.1).1 = 0 then (true, ((xOp n s O i xZ R.1).2.2, R.2 + 1)) else ((false : Bool), R)
theorem sx_runCommand {m i e g m1 dd : Nat} {ra : Int32} (hch : ChSpec G w a n s nd D oc O m) (hd : 5 + 2 * g ≤ dd) (hΓ : Ok G κ mX9_runCommand dd Q X) (hS : SR G σ c w a n s nd D oc R C) (hi : i < oc) (hv : vOrd O i) (hk : dOk (D i) O i) (hg2 : g ≤ 2) (hra : ra = nI (2 - g)) (h7 : (D i).1 = 7 → 1 ≤ g ∧ segOk O m (g - 1) (i + 1) e ∧ cH nd D O m1 (i + 1) e (dIn (D i)) ∧ e ≤ oc) (hq : ∀ (σ1 : Hp) (C1 : Ct), SR G σ1 c w a n s nd D oc (xOne n s O m i e R).2 C1 → KF (WR a w) σ c σ1 c → Q (some (.int (bI (xOne n s O m i e R).1))) σ1) : AW G κ cs ss 0 [lR w, lR (nd i), lI ra, none] [] σ := by
  obtain ⟨d, rfl⟩ : ∃ d, dd = d + 5 := ⟨dd - 5, by omega⟩
  obtain ⟨U, H, hci⟩ := hΓ.cx
  have ho := hS.cm hi
  have hk8 : (D i).1 < 8 := hk.1
  have h7O : O (4 * i + 0) = 7 ↔ (D i).1 = 7 := by
    rw [hk.2.1]
    exact nI_eq (b := 7) (by omega) (by decide)
  refine sX9_runCommand_0 hΓ rfl ?_
  refine sX9_runCommand_1 hΓ ho rfl ?_
  refine sX9_runCommand_4 hΓ ?_
  refine sX9_runCommand_7 hΓ (rx := some (gE G (D i).1)) (ry := some (gE G 7)) (fun c7 => ?_) (fun c7 => ?_)
  · have e7 : ¬ (D i).1 = 7 := fun e9 => c7 (by rw [e9])
    have eX : ∀ b, xOne n s O m i e R = b → (if (xOp n s O i xZ R.1).1 = 0 then (true, ((xOp n s O i xZ R.1).2.2, R.2 + 1)) else ((false : Bool), R)) = b := fun b e9 => by
      rw [← e9]
      exact (if_neg (fun e8 => e7 (h7O.mp e8))).symm
    replace eX := eX _ rfl
    rw [← eX] at hq
    refine sX9_runCommand_44 hΓ rfl ?_
    refine sX9_runCommand_45 hΓ rfl ?_
    refine sX9_runCommand_46 hΓ 0 0 (Nat.le_of_ble_eq_true rfl) hS.o (fun κ_46 hΓ_46 => sx_execute hΓ_46 hS.o hS.2.1 hS.2.2.1.2 hS.2.2.1.1 ho hv hk e7 (fun e0 σ1 C1 h1 h2 f1 => ?_) (fun e0 => ?_))
    · show AW G κ _ _ 49 _ _ _
      rw [if_pos e0] at hq
      have h3 := hS.mv h1 h2 (rv_xOp hS.2.2.1.2 hv) f1
      obtain ⟨h4, f4⟩ := h3.up
      refine sX9_runCommand_49 hΓ ?_
      refine sX9_runCommand_50 hΓ rfl ?_
      refine sX9_runCommand_51 hΓ (fun c51 => absurd c51 (by decide)) (fun _ => ?_)
      refine sX9_runCommand_54 hΓ rfl ?_
      refine sX9_runCommand_55 hΓ ?_
      refine sX9_runCommand_56 hΓ h3.o rfl ?_
      refine sX9_runCommand_59 hΓ ?_
      refine sX9_runCommand_60 hΓ ?_
      refine sX9_runCommand_61 hΓ h3.o (Nat.le_of_ble_eq_true rfl) ?_
      rw [lp_1 (x := nI R.2) rfl]
      refine sX9_runCommand_64 hΓ rfl ?_
      exact sX9_runCommand_65 hΓ (Or.inr rfl) (hq _ C1 h4 ((f1.mo (fun x hx => Or.inl hx)).tr (f4.mo (fun x hx => Or.inr hx))))
    · show AW G κ _ _ 49 _ _ _
      rw [if_neg e0] at hq
      refine sX9_runCommand_49 hΓ ?_
      refine sX9_runCommand_50 hΓ rfl ?_
      refine sX9_runCommand_51 hΓ (fun _ => ?_) (fun c51 => absurd rfl c51)
      refine sX9_runCommand_64 hΓ rfl ?_
      exact sX9_runCommand_65 hΓ (Or.inl rfl) (hq _ C hS KF.rf)
  · have e7 : (D i).1 = 7 := ce_inj hci hk8 (by decide) (Option.some.inj c7)
    obtain ⟨g1, hg, hcH, heo⟩ := h7 e7
    obtain ⟨k0, A, _, _, v1, v2, _, _, v5, v6, _, _, _, _, _, v12, _, _⟩ := hv
    have hk0 : k0 = 7 := (nI_eq (b := 7) (by omega) (by decide)).mp (v5.symm.trans (h7O.mpr e7))
    obtain ⟨A2, A5⟩ := v12 hk0
    have ef : (D i).2.1 = nI A := hk.2.2.1.symm.trans v6
    have eX : xOne n s O m i e R = xTimes (xRun n s O m (i + 1) e) A R := by
      unfold xOne
      rw [if_pos (h7O.mpr e7), v6, nI_clamp (by omega)]
    suffices loop : ∀ (t r : Nat) (y : Int32) (σ1 : Hp) (C1 : Ct) (R1 : Rt), r + t = A → y = nI r → SR G σ1 c w a n s nd D oc R1 C1 → KF (WR a w) σ c σ1 c → xTimes (xRun n s O m (i + 1) e) t R1 = xOne n s O m i e R → AW G κ cs ss 12 [lR w, lR (nd i), lI ra, lI y] [] σ1 by
      refine sX9_runCommand_10 hΓ ?_
      refine sX9_runCommand_11 hΓ ?_
      exact loop A 0 0 σ C R (Nat.zero_add A) rfl hS KF.rf eX.symm
    intro t
    induction t with
    | zero =>
      intro r y σ1 C1 R1 hr hy h1 f1 eR
      refine sX9_runCommand_12 hΓ rfl ?_
      refine sX9_runCommand_13 hΓ rfl ?_
      refine sX9_runCommand_14 hΓ (h1.cm hi) rfl ?_
      refine sX9_runCommand_17 hΓ (fun c17 => ?_) (fun c17 => absurd (lp_out hy ef (by omega) (by omega)) c17)
      have eR : (true, R1) = xOne n s O m i e R := eR
      refine sX9_runCommand_42 hΓ ?_
      refine sX9_runCommand_43 hΓ (Or.inr rfl) ?_
      have hq := hq σ1 C1 (by rw [← eR]; exact h1) f1
      rw [← eR] at hq
      exact hq
    | succ t ih =>
      intro r y σ1 C1 R1 hr hy h1 f1 eR
      refine sX9_runCommand_12 hΓ rfl ?_
      refine sX9_runCommand_13 hΓ rfl ?_
      refine sX9_runCommand_14 hΓ (h1.cm hi) rfl ?_
      refine sX9_runCommand_17 hΓ (fun c17 => absurd c17 (lp_in hy ef (by omega) (by omega))) (fun c17 => ?_)
      refine sX9_runCommand_20 hΓ rfl ?_
      refine sX9_runCommand_21 hΓ rfl ?_
      refine sX9_runCommand_22 hΓ (h1.cm hi) rfl ?_
      refine sX9_runCommand_25 hΓ rfl ?_
      refine sX9_runCommand_26 hΓ ?_
      refine sX9_runCommand_27 hΓ ?_
      have hra1 : ra + 1 = nI (2 - (g - 1)) := by rw [lp_1 hra, show 2 - g + 1 = 2 - (g - 1) by omega]
      refine sX9_runCommand_28q hΓ 0 0 (Nat.le_of_ble_eq_true rfl) h1.o (fun κ_28 hΓ_28 => hch κ_28 _ _ _ 0 0 σ1 c C1 (i + 1) e (g - 1) (dIn (D i)) m1 R1 (ra + 1) (by omega) hΓ_28 h1 hg hcH heo (by omega) hra1 (fun σ2 C2 h2 f2 => ?_))
      show AW G κ _ _ 31 _ _ _
      have eR : (if (xRun n s O m (i + 1) e R1).1 = true then xTimes (xRun n s O m (i + 1) e) t (xRun n s O m (i + 1) e R1).2 else ((false : Bool), (xRun n s O m (i + 1) e R1).2)) = xOne n s O m i e R := eR
      refine sX9_runCommand_31 hΓ (fun c31 => ?_) (fun c31 => ?_)
      · have e1 := bI_n0 c31
        rw [if_pos e1] at eR
        refine sX9_runCommand_36 hΓ rfl ?_
        refine sX9_runCommand_39 hΓ ?_
        exact ih (r + 1) _ σ2 C2 _ (by omega) (lp_1 hy) h2 (f1.tr f2) eR
      · have e1 := bI_0 c31
        rw [if_neg (by rw [e1]; decide)] at eR
        have hq := hq σ2 C2 (by rw [← eR]; exact h2) (f1.tr f2)
        rw [← eR] at hq
        refine sX9_runCommand_34 hΓ ?_
        exact sX9_runCommand_35 hΓ (Or.inl rfl) hq
theorem lp_all (hoc : oc ≤ 20) : ∀ m, LpSpec G w a n s nd D oc O m := by
  intro m
  have fin : ∀ (m : Nat) (κ : Kx) (dd : Nat) (Q : Option Value → Hp → Prop) (X : String → Hp → Prop) (cs ss : Nat) (σ : Hp) (c : Nat → Nat) (C : Ct) (i j : Nat) (h h0 : Option Nat) (R : Rt) (ra : Int32), Ok G κ mX9_runChain dd Q X → SR G σ c w a n s nd D oc R C → i = j → h = none → (∀ (σ1 : Hp) (C1 : Ct), SR G σ1 c w a n s nd D oc (xRun n s O m i j R).2 C1 → KF (WR a w) σ c σ1 c → Q (some (.int (bI (xRun n s O m i j R).1))) σ1) → AW G κ cs ss 9 [lR w, some (.inr h0), lI ra, some (.inr h)] [] σ := by
    intro m κ dd Q X cs ss σ c C i j h h0 R ra hΓ hS e1 e2 hq
    subst e2
    have eX : xRun n s O m i j R = (true, R) := xRun_end (Nat.le_of_eq e1.symm)
    rw [eX] at hq
    refine sX9_runChain_9q hΓ rfl ?_
    refine sX9_runChain_10 hΓ (fun _ => ?_) (fun a9 c10 => by cases c10)
    refine sX9_runChain_32 hΓ ?_
    exact sX9_runChain_33 hΓ (Or.inr rfl) (hq σ C hS KF.rf)
  induction m with
  | zero =>
    intro κ dd Q X cs ss σ c C i j g h h0 m1 R ra hd hΓ hS hg hc hj hg2 hra hq
    have e1 : i = j := hg
    refine fin 0 κ dd Q X cs ss σ c C i j h h0 R ra hΓ hS e1 ?_ hq
    cases m1 with
    | zero => exact hc.2
    | succ m1 =>
      rcases hc with hc | hc
      · exact hc.2
      · exact absurd hc.1 (by omega)
  | succ m ih =>
    intro κ dd Q X cs ss σ c C i j g h h0 m1 R ra hd hΓ hS hg hc hj hg2 hra hq
    cases m1 with
    | zero => exact fin (m + 1) κ dd Q X cs ss σ c C i j h h0 R ra hΓ hS hc.1 hc.2 hq
    | succ m1 =>
    rcases hc with hc | ⟨hij, hh, x, hx1, hx2, ⟨hk, hin⟩, hnx⟩
    · exact fin (m + 1) κ dd Q X cs ss σ c C i j h h0 R ra hΓ hS hc.1 hc.2 hq
    subst hh
    have hi : i < oc := by omega
    have hk8 : (D i).1 < 8 := hk.1
    have h7O : O (4 * i + 0) = 7 ↔ (D i).1 = 7 := by
      rw [hk.2.1]
      exact nI_eq (b := 7) (by omega) (by decide)
    obtain ⟨d, rfl⟩ : ∃ d, dd = d + 1 := ⟨dd - 1, by omega⟩
    obtain ⟨hv, hrest, hsub⟩ : vOrd O i ∧ segOk O m g x j ∧ ((D i).1 = 7 → 1 ≤ g ∧ segOk O m (g - 1) (i + 1) x ∧ cH nd D O m1 (i + 1) x (dIn (D i)) ∧ x ≤ oc) := by
      rcases hg with e9 | ⟨_, hv, ⟨h7, h2⟩ | ⟨h7, e, he, he1, he2, hg1, h2, h3⟩⟩
      · omega
      · have e7 : ¬ (D i).1 = 7 := fun e9 => h7 (h7O.mpr e9)
        rcases hin with ⟨_, hx⟩ | ⟨e9, _⟩
        · rw [hx]; exact ⟨hv, h2, fun e9 => absurd e9 e7⟩
        · exact absurd e9 e7
      · have e7 := h7O.mp h7
        rcases hin with ⟨e9, _⟩ | ⟨_, hOx, hin⟩
        · exact absurd e7 e9
        · have ex : e = x := (nI_eq (by omega) (by omega)).mp (he.symm.trans hOx)
          subst ex
          exact ⟨hv, h3, fun _ => ⟨hg1, h2, hin, by omega⟩⟩
    have eX : xRun n s O (m + 1) i j R = if (xOne n s O m i x R).1 = true then xRun n s O m x j (xOne n s O m i x R).2 else ((false : Bool), (xOne n s O m i x R).2) := by
      have hn : ¬ j ≤ i := by omega
      by_cases e7 : O (4 * i + 0) = 7
      · have ex : xEnd O i = x := by
          rcases hin with ⟨e9, _⟩ | ⟨_, hOx, _⟩
          · exact absurd (h7O.mp e7) e9
          · exact xEnd_eq hOx (by omega)
        rw [show xRun n s O (m + 1) i j R = _ from (if_neg hn).trans (if_pos e7), ex]
        unfold xOne
        rw [if_pos e7]
      · have ex : x = i + 1 := by
          rcases hin with ⟨_, hx⟩ | ⟨e9, _⟩
          · exact hx
          · exact absurd (h7O.mpr e9) e7
        rw [show xRun n s O (m + 1) i j R = _ from (if_neg hn).trans (if_neg e7), ex]
        unfold xOne
        rw [if_neg e7]
        by_cases e0 : (xOp n s O i xZ R.1).1 = 0
        · rw [if_pos e0, if_pos e0]; rfl
        · rw [if_neg e0, if_neg e0]; rfl
    rw [eX] at hq
    refine sX9_runChain_9 hΓ rfl ?_
    refine sX9_runChain_10 hΓ (r := some (nd i)) (fun c10 => by cases c10) (fun a9 _ => ?_)
    refine sX9_runChain_13 hΓ rfl ?_
    refine sX9_runChain_14 hΓ rfl ?_
    refine sX9_runChain_15 hΓ rfl ?_
    refine sX9_runChain_16 hΓ 0 0 (Nat.le_of_ble_eq_true rfl) hS.o (fun κ_16 hΓ_16 => sx_runCommand (ch_of_lp ih) (by omega) hΓ_16 hS hi hv hk hg2 hra hsub (fun σ1 C1 h1 f1 => ?_))
    show AW G κ _ _ 19 _ _ _
    refine sX9_runChain_19 hΓ (fun c19 => ?_) (fun c19 => ?_)
    · have e1 := bI_n0 c19
      rw [if_pos e1] at hq
      refine sX9_runChain_24 hΓ rfl ?_
      refine sX9_runChain_25 hΓ (h1.cm hi) rfl ?_
      refine sX9_runChain_28q hΓ ?_
      refine sX9_runChain_29 hΓ ?_
      exact ih κ _ Q X _ _ σ1 c C1 x j g (dNx (D i)) h0 m1 _ ra hd hΓ h1 hrest hnx hj hg2 hra (fun σ2 C2 h2 f2 => hq σ2 C2 h2 (f1.tr f2))
    · have e1 := bI_0 c19
      rw [if_neg (by rw [e1]; decide)] at hq
      refine sX9_runChain_22 hΓ ?_
      exact sX9_runChain_23 hΓ (Or.inl rfl) (hq σ1 C1 h1 f1)
theorem sx_runChain (hΓ : Ok G κ mX9_runChain (d + 10) Q X) (hoc : oc ≤ 20) (hS : SR G σ c w a n s nd D oc R C) (hg : segOk O 20 2 0 oc) {m1 : Nat} {h : Option Nat} (hc : cH nd D O m1 0 oc h) (hq : ∀ (σ1 : Hp) (C1 : Ct), SR G σ1 c w a n s nd D oc (xRun n s O 20 0 oc R).2 C1 → KF (WR a w) σ c σ1 c → Q (some (.int (bI (xRun n s O 20 0 oc R).1))) σ1) : AW G κ cs ss 0 [lR w, some (.inr h), lI 0, none] [] σ :=
  ch_of_lp (lp_all hoc 20) κ _ Q X cs ss σ c C 0 oc 2 h m1 R 0 (by omega) hΓ hS hg hc (Nat.le_refl _) (Nat.le_refl 2) rfl hq
theorem sx_init (hΓ : Ok G κ mX9_init (d + 1) Q X) {fs : List Value} (h : σ w = some (.inr (6, fs))) (hl : 0 < fs.length) (hq : Q none (hset σ w (.inr (6, fs.set 0 (.ref a))))) : AW G κ cs ss 0 [lR w, lR a] [] σ := by
  refine sX9_init_0 hΓ rfl ?_
  refine sX9_init_1 hΓ (Nat.le_of_ble_eq_true rfl) ?_
  refine sX9_init_4 hΓ rfl ?_
  refine sX9_init_5 hΓ rfl ?_
  refine sX9_init_6 hΓ h hl ?_
  exact sX9_init_9 hΓ hq
end ClassRun
