/-! the class's parser: chains, scripts whole -/
section ClassScript2
variable {G : Gl} {κ : Kx} {d : Nat} {Q : Option Value → Hp → Prop} {X : String → Hp → Prop} {cs ss pc : Nat} {M : List (Option LV)} {st : List Value} {σ σ1 σ2 : Hp} {c c1 c2 : Nat → Nat} {pr tk inp : Nat} {b : Nat → Int32} {L : Nat} {cc cc1 cd og : Int32} {P P1 : Pt} {q : Nat}
def dSet (D : Dt) (t : Option Nat) : Dt := (D.1, D.2.1, D.2.2.1, D.2.2.2.1, D.2.2.2.2.1, t)
theorem sq_takeCommands {f : Zt → Zt} {x : Int32} {k : Nat} (hf : CmdSpec G pr tk inp b L f x k) (hst : ∀ Z, oInv b L Z → oStep b L Z (f Z)) (hsg : ∀ Z, oInv b L Z → ∀ q, q < 4 * Z.2.2 → (f Z).2.1 q = Z.2.1 q) : CmsSpec G pr tk inp b L f x (k + 1) := by
  intro κ dd Q X cs ss σ c nd D Z cc hdd hΓ h h0 hI hq
  obtain ⟨d, rfl⟩ : ∃ d, dd = d + 1 := ⟨dd - 1, by omega⟩
  suffices loop : ∀ (m i : Nat) (y : Int32) (Z1 : Zt) (σ1 : Hp) (c1 : Nat → Nat) (cc1 : Int32) (r1 r2 : Option Nat) (w : Option LV), i + m = 21 → y = nI i → PQ G σ1 c1 pr tk inp b L Z1.1 cc1 → KF (fun x => x = pr) σ c σ1 c1 → oInv b L Z1 → Z.2.2 ≤ Z1.2.2 → (pR Z1.1 = 0 → (cc1 = nI Z1.2.2 ∧ ∃ (nd1 : Nat → Nat) (D1 : Nat → Dt), (∀ i, i < Z.2.2 → nd1 i = nd i ∧ D1 i = D i) ∧ CM G σ1 c1 nd1 D1 Z1.2.2 ∧ (∀ i, Z.2.2 ≤ i → i < Z1.2.2 → σ (nd1 i) = none) ∧ ((r1 = none ∧ r2 = none ∧ Z1.2.2 = Z.2.2) ∨ ∃ mm li, cHl nd1 D1 Z1.2.1 mm Z.2.2 Z1.2.2 r1 li ∧ r2 = some (nd1 li) ∧ dNx (D1 li) = none))) → cLoop f m Z1 = (cLoop f 21 Z) → AW G κ (cs + ((cLoop f 21 Z).2.2 - Z1.2.2)) (ss + 6 * ((cLoop f 21 Z).2.2 - Z1.2.2)) 7 [lR pr, lI x, some (.inr r1), some (.inr r2), lI y, w] [] σ1 by
    obtain ⟨cs9, hcs⟩ : ∃ k, k = cs + ((cLoop f 21 Z).2.2 - Z.2.2) := ⟨_, rfl⟩
    obtain ⟨ss9, hss⟩ : ∃ k, k = ss + 6 * ((cLoop f 21 Z).2.2 - Z.2.2) := ⟨_, rfl⟩
    have g := loop 21 0 0 Z σ c cc none none none rfl rfl h KF.rf hI (Nat.le_refl _) (fun e => ⟨(h0 e).1, nd, D, fun _ _ => ⟨rfl, rfl⟩, (h0 e).2, fun i h1 h2 => absurd h1 (by omega), Or.inl ⟨rfl, rfl, rfl⟩⟩) rfl
    rw [← hcs, ← hss] at g ⊢
    refine sX7_takeCommands_0 hΓ ?_
    refine sX7_takeCommands_1q hΓ (r := none) ?_
    refine sX7_takeCommands_2 hΓ ?_
    refine sX7_takeCommands_3q hΓ (r := none) ?_
    refine sX7_takeCommands_4 hΓ ?_
    exact sX7_takeCommands_5 hΓ g
  have fin : ∀ (Z1 : Zt) (σ1 : Hp) (c1 : Nat → Nat) (cc1 : Int32) (r1 r2 : Option Nat) (w y : Option LV) (cs ss : Nat), PQ G σ1 c1 pr tk inp b L Z1.1 cc1 → KF (fun x => x = pr) σ c σ1 c1 → (pR Z1.1 = 0 → (cc1 = nI Z1.2.2 ∧ ∃ (nd1 : Nat → Nat) (D1 : Nat → Dt), (∀ i, i < Z.2.2 → nd1 i = nd i ∧ D1 i = D i) ∧ CM G σ1 c1 nd1 D1 Z1.2.2 ∧ (∀ i, Z.2.2 ≤ i → i < Z1.2.2 → σ (nd1 i) = none) ∧ ((r1 = none ∧ r2 = none ∧ Z1.2.2 = Z.2.2) ∨ ∃ mm li, cHl nd1 D1 Z1.2.1 mm Z.2.2 Z1.2.2 r1 li ∧ r2 = some (nd1 li) ∧ dNx (D1 li) = none))) → Z1 = (cLoop f 21 Z) → AW G κ cs ss 71 [lR pr, lI x, some (.inr r1), some (.inr r2), y, w] [] σ1 := by
    intro Z1 σ1 c1 cc1 r1 r2 w y cs ss h1 f1 hi eZ
    refine sX7_takeCommands_71q hΓ rfl ?_
    refine sX7_takeCommands_72q hΓ (hq σ1 c1 cc1 r1 ?_)
    rw [← eZ]
    refine ⟨h1, f1, fun e => ?_⟩
    obtain ⟨a1, nd1, D1, a2, a3, a4, a5⟩ := hi e
    rcases a5 with ⟨b1, b2, b3⟩ | ⟨mm, li, b1, b2, b3⟩
    · exact ⟨a1, nd1, D1, 0, a2, a3, a4, b3.symm, b1⟩
    · exact ⟨a1, nd1, D1, mm + 1, a2, a3, a4, cHl_end mm _ _ _ li b1 b3⟩
  intro m
  induction m with
  | zero =>
    intro i y Z1 σ1 c1 cc1 r1 r2 w hi hy h1 f1 hI1 hle hv eZ
    obtain ⟨cs9, hcs⟩ : ∃ k, k = cs + ((cLoop f 21 Z).2.2 - Z1.2.2) := ⟨_, rfl⟩
    obtain ⟨ss9, hss⟩ : ∃ k, k = ss + 6 * ((cLoop f 21 Z).2.2 - Z1.2.2) := ⟨_, rfl⟩
    rw [← hcs, ← hss]
    refine sX7_takeCommands_7 hΓ rfl ?_
    refine sX7_takeCommands_9 hΓ ?_
    refine sX7_takeCommands_11 hΓ (fun c11 => ?_) (fun c11 => absurd (by rw [hy, show i = 21 by omega]; decide) c11)
    exact fin Z1 σ1 c1 cc1 r1 r2 w _ _ _ h1 f1 hv eZ
  | succ m ih =>
    intro i y Z1 σ1 c1 cc1 r1 r2 w hi hy h1 f1 hI1 hle hv eZ
    obtain ⟨cs9, hcs⟩ : ∃ k, k = cs + ((cLoop f 21 Z).2.2 - Z1.2.2) := ⟨_, rfl⟩
    obtain ⟨ss9, hss⟩ : ∃ k, k = ss + 6 * ((cLoop f 21 Z).2.2 - Z1.2.2) := ⟨_, rfl⟩
    rw [← hcs, ← hss]
    obtain ⟨p, ht, hr⟩ := h1.t
    have hb : BB b L := by obtain ⟨-, p, hG, -⟩ := h1; exact hG.2.2.2.2
    refine sX7_takeCommands_7 hΓ rfl ?_
    refine sX7_takeCommands_9 hΓ ?_
    refine sX7_takeCommands_11 hΓ (fun c11 => absurd (nI_ltz (i := 20) rfl hy (by decide) (by omega) c11) (by omega)) (fun c11 => ?_)
    refine sX7_takeCommands_14 hΓ rfl ?_
    refine sX7_takeCommands_15 hΓ h1.o rfl ?_
    refine sX7_takeCommands_18 hΓ ht rfl ?_
    refine sX7_takeCommands_21 hΓ ?_
    refine sX7_takeCommands_22 hΓ (fun c22 => ?_) (fun c22 => ?_)
    · refine fin Z1 σ1 c1 cc1 r1 r2 w _ _ _ h1 f1 hv ((cLoop_f (fun e => c22 ?_)).symm.trans eZ)
      exact (tKd_lt hb (k := 1) (by decide)).mpr ((hr e.1).2.2.symm.trans e.2)
    refine sX7_takeCommands_25 hΓ rfl ?_
    refine sX7_takeCommands_26 hΓ 0 0 (Nat.le_of_ble_eq_true rfl) h1.o (fun κ_26 hΓ_26 => sq_hasFailed hΓ_26 h1 ?_)
    show AW G κ _ _ 29 _ _ _
    refine sX7_takeCommands_29 hΓ (fun c29 => ?_) (fun c29 => ?_)
    · have e0 : ¬ pR Z1.1 = 0 := fun e => c29 (by rw [e]; rfl)
      exact fin Z1 σ1 c1 cc1 r1 r2 w _ _ _ h1 f1 hv ((cLoop_f (fun e => e0 e.1)).symm.trans eZ)
    have e0 : pR Z1.1 = 0 := by
      cases e : pR Z1.1 == 0 with
      | true => exact beq_iff_eq.mp e
      | false => rw [e] at c29; exact absurd c29 (by decide)
    have ek : pK Z1.1 = 1 := (hr e0).2.2.trans ((tKd_lt hb (k := 1) (by decide)).mp c22)
    have eZ2 : cLoop f m (f Z1) = (cLoop f 21 Z) := (if_pos ⟨e0, ek⟩).symm.trans eZ
    obtain ⟨i1, i2, i3⟩ := hst Z1 hI1
    have i4 := (cLoop_ok hst m (f Z1) i1).2
    rw [eZ2] at i4
    obtain ⟨a1, nd1, D1, a2, a3, a4, a5⟩ := hv e0
    refine sX7_takeCommands_32 hΓ rfl ?_
    refine sX7_takeCommands_33 hΓ rfl ?_
    obtain ⟨cs8, hcs8⟩ : ∃ k, k = cs + ((cLoop f 21 Z).2.2 - (f Z1).2.2) := ⟨_, rfl⟩
    obtain ⟨ss8, hss8⟩ : ∃ k, k = ss + 6 * ((cLoop f 21 Z).2.2 - (f Z1).2.2) := ⟨_, rfl⟩
    refine aw_less (cs2 := cs8 + (0 + ((f Z1).2.2 - Z1.2.2))) (ss2 := ss8 + (0 + 6 * ((f Z1).2.2 - Z1.2.2))) (by omega) (by omega) ?_
    refine sX7_takeCommands_34 hΓ (cs := cs8) (ss := ss8) (0 + ((f Z1).2.2 - Z1.2.2)) (0 + 6 * ((f Z1).2.2 - Z1.2.2)) (Nat.le_of_ble_eq_true rfl) h1.o (fun κ_34 hΓ_34 => hf κ_34 _ _ _ 0 0 σ1 c1 nd1 D1 Z1 cc1 (by omega) hΓ_34 h1 e0 a1 a3 hI1 (fun σ2 c2 cc2 r h2 => ?_))
    show AW G κ _ _ 37 _ _ _
    obtain ⟨u1, u2, u3, u4⟩ := h2
    refine sX7_takeCommands_37q hΓ ?_
    refine sX7_takeCommands_39q hΓ rfl ?_
    refine sX7_takeCommands_41 hΓ (fun a c41 => ?_) (fun c41 => ?_)
    rotate_left
    · have en : ¬ pR (f Z1).1 = 0 := fun e => by
        obtain ⟨-, _, _, _, -, -, -, v1, -⟩ := u4 e
        rw [c41] at v1
        cases v1
      have eY : f Z1 = (cLoop f 21 Z) := (cLoop_f (fun e => en e.1)).symm.trans eZ2
      refine sX7_takeCommands_44q hΓ rfl ?_
      refine sX7_takeCommands_45q hΓ (hq σ2 c2 cc2 r1 ?_)
      rw [← eY]
      exact ⟨u1, f1.tr u2, fun e => absurd e en⟩
    subst c41
    refine sX7_takeCommands_46q hΓ rfl ?_
    refine sX7_takeCommands_47 hΓ (fun l c47 => ?_) (fun c47 => ?_)
    · rcases a5 with ⟨-, b2, -⟩ | ⟨mm, li, b1, b2, b3⟩
      · rw [b2] at c47; cases c47
      obtain ⟨hl1, hl2⟩ := cHl_le _ _ _ _ _ b1
      have el : l = nd1 li := Option.some.inj (c47.symm.trans b2)
      subst el
      have hM2 := a3.keep u2 (a3.ne h1.o (by decide))
      have o2 := (hM2 li hl2).1
      subst c47
      refine sX7_takeCommands_56 hΓ rfl ?_
      refine sX7_takeCommands_57 hΓ rfl ?_
      refine sX7_takeCommands_59 hΓ o2 (Nat.le_of_ble_eq_true rfl) ?_
      refine sX7_takeCommands_62 hΓ rfl ?_
      refine sX7_takeCommands_64 hΓ ?_
      refine sX7_takeCommands_65 hΓ rfl ?_
      refine sX7_takeCommands_68 hΓ ?_
      have g := ih (i + 1) _ (f Z1) (hset σ2 (nd1 li) (.inr (0, (cmV G (D1 li)).set 5 (.ref a)))) c2 cc2 r1 (some a) (some (.inr (some a))) (by omega) (lp_1 hy) (u1.cmd o2) ((f1.tr u2).fresh (a4 li hl1 hl2)) i1 (by omega) (fun e => ?_) eZ2
      · rw [← hcs8, ← hss8] at g
        exact g
      · obtain ⟨v1, nd3, D3, m2, g1, g2, g3, g4, g5, g6⟩ := u4 e
        have hlt := i3 e
        have en := (g1 li hl2).1
        have eD := (g1 li hl2).2
        refine ⟨v1, nd3, nU D3 li (dSet (D1 li) (some a)), fun j hj => ⟨((g1 j (by omega)).1).trans (a2 j hj).1, (nU_n (by omega)).trans (((g1 j (by omega)).2).trans (a2 j hj).2)⟩, ?_, fun j j1 j2 => ?_, Or.inr ⟨mm + m2, Z1.2.2, ?_, g4, ?_⟩⟩
        · have h9 := g2.put (li := li) (by omega) (nU D3 li (dSet (D1 li) (some a))) (fun j _ hj => nU_n hj)
          rw [nU_s, en] at h9
          exact h9
        · by_cases ej : j < Z1.2.2
          · rw [(g1 j ej).1]; exact a4 j j1 ej
          · exact f1.nn (g3 j (by omega) j2)
        · refine cHl_app mm m2 _ _ li b1 (fun q hq9 => ⟨(g1 q hq9).1, fun e9 => (nU_n e9).trans (g1 q hq9).2, fun w hw => hsg Z1 hI1 _ (by omega)⟩) ?_ hlt (cHl_cg m2 _ _ _ _ (fun q q1 q2 => ⟨rfl, nU_n (by omega), fun _ _ => rfl⟩) g5)
          rw [nU_s]
          exact ⟨rfl, rfl, rfl, rfl, rfl, rfl⟩
        · rw [nU_n (by omega)]; exact g6
    · rcases a5 with ⟨b1, b2, b3⟩ | ⟨mm, li, b1, b2, b3⟩
      rotate_left
      · rw [b2] at c47; cases c47
      refine sX7_takeCommands_50 hΓ rfl ?_
      refine sX7_takeCommands_52 hΓ ?_
      refine sX7_takeCommands_53 hΓ ?_
      refine sX7_takeCommands_62 hΓ rfl ?_
      refine sX7_takeCommands_64 hΓ ?_
      refine sX7_takeCommands_65 hΓ rfl ?_
      refine sX7_takeCommands_68 hΓ ?_
      have g := ih (i + 1) _ (f Z1) σ2 c2 cc2 (some a) (some a) (some (.inr (some a))) (by omega) (lp_1 hy) u1 (f1.tr u2) i1 (by omega) (fun e => ?_) eZ2
      · rw [← hcs8, ← hss8] at g
        exact g
      · obtain ⟨v1, nd3, D3, m2, g1, g2, g3, g4, g5, g6⟩ := u4 e
        refine ⟨v1, nd3, D3, fun j hj => ⟨((g1 j (by omega)).1).trans (a2 j hj).1, ((g1 j (by omega)).2).trans (a2 j hj).2⟩, g2, fun j j1 j2 => f1.nn (g3 j (by omega) j2), Or.inr ⟨m2, Z1.2.2, ?_, g4, g6⟩⟩
        rw [← b3]
        exact g5
theorem cmd0 : CmdSpec G pr tk inp b L (oOrd b L 0) (nI 2) 6 := sq_takeCommand (f := id) (e := 2) (K := 5) rfl (Nat.le_refl 2) rfl (Nat.le_refl 5) (fun e => Bool.noConfusion e)
theorem cms_g {g : Nat} {x : Int32} {k : Nat} (h : CmdSpec G pr tk inp b L (oOrd b L g) x k) : CmsSpec G pr tk inp b L (oOrd b L g) x (k + 1) := sq_takeCommands h (fun Z hZ => oOrd_ok g Z hZ) (fun Z hZ => (oOrd_seg g Z hZ).1)
theorem cmd1 : CmdSpec G pr tk inp b L (oOrd b L 1) (nI 1) 8 := sq_takeCommand (f := oOrd b L 0) (e := 1) (K := 7) rfl (by decide) rfl (by decide) (fun _ => ⟨cms_g cmd0, fun _ => rfl, fun Z h0 h1 => oOrd_nw h0 h1, fun Z hZ => oOrd_ok 0 Z hZ, fun Z hZ => (oOrd_seg 0 Z hZ).1⟩)
theorem cmd2 : CmdSpec G pr tk inp b L (oOrd b L 2) (nI 0) 10 := sq_takeCommand (f := oOrd b L 1) (e := 0) (K := 9) rfl (by decide) rfl (by decide) (fun _ => ⟨cms_g cmd1, fun _ => rfl, fun Z h0 h1 => oOrd_nw h0 h1, fun Z hZ => oOrd_ok 1 Z hZ, fun Z hZ => (oOrd_seg 1 Z hZ).1⟩)
/-- what a script's reading leaves -/
def ScrR (G : Gl) (σ : Hp) (c : Nat → Nat) (σ1 : Hp) (c1 : Nat → Nat) (pr tk inp : Nat) (b : Nat → Int32) (L : Nat) (Y : Zt) (cc1 : Int32) (r : Option Nat) : Prop :=
  PQ G σ1 c1 pr tk inp b L Y.1 cc1 ∧ KF (fun x => x = pr) σ c σ1 c1 ∧ (pR Y.1 = 0 → ∃ (nd : Nat → Nat) (D : Nat → Dt) (m : Nat), CM G σ1 c1 nd D Y.2.2 ∧ cH nd D Y.2.1 m 0 Y.2.2 r)
theorem sq_parseScript (hΓ : Ok G κ mX7_parseScript (d + 12) Q X) (h : PZ G σ c pr tk inp b cd og cc) {x : Int32} (hx : x = nI L) (hL5 : L ≤ 500) (hb : BB b L) (t : Nat) (O : Nat → Int32) (hq : ∀ (σ1 : Hp) (c1 : Nat → Nat) (cc1 : Int32) (r : Option Nat), ScrR G σ c σ1 c1 pr tk inp b L (oTop (oOrd b L 2) 21 (pBeg b L t, O, 0)) cc1 r → Q (some (va_rf r)) σ1) : AW G κ (cs + 20) (ss + 120) 0 [lR pr, lI x, none] [] σ := by
  have hI0 : oInv b L (pBeg b L t, O, 0) := ⟨pBeg_ok _ _ _, Nat.zero_le _⟩
  obtain ⟨t1, t2⟩ := oTop_c (b := b) (L := L) (f := oOrd b L 2) (fun Z h0 h1 => oOrd_nw h0 h1) (fun Z hZ => oOrd_ok 2 Z hZ) 21 (pBeg b L t, O, 0) hI0 (fun _ => by show 20 < 0 + 21; decide)
  have hIW := (cLoop_ok (b := b) (L := L) (f := oOrd b L 2) (fun Z hZ => oOrd_ok 2 Z hZ) 21 (pBeg b L t, O, 0) hI0).1
  have hoc := hIW.2
  refine sX7_parseScript_0 hΓ rfl ?_
  refine sX7_parseScript_1 hΓ rfl ?_
  refine sX7_parseScript_2 hΓ 0 0 (Nat.le_of_ble_eq_true rfl) h.1.1 (fun κ_2 hΓ_2 => sq_begin hΓ_2 h hx hL5 hb t (fun σ1 h1 f1 => ?_))
  show AW G κ _ _ 5 _ _ _
  refine sX7_parseScript_5 hΓ rfl ?_
  refine sX7_parseScript_6 hΓ ?_
  refine sX7_parseScript_7 hΓ h1.o (Nat.le_of_ble_eq_true rfl) (pq_cc h1 0 rfl (fun σ2 h2 f2 => ?_))
  have h10 := h2
  have f10 := ((KF.rf.tr f1).tr f2)
  obtain ⟨n1, hn1⟩ : ∃ k, k = (cLoop (oOrd b L 2) 21 (pBeg b L t, O, 0)).2.2 - 0 := ⟨_, rfl⟩
  refine sX7_parseScript_10 hΓ rfl ?_
  refine sX7_parseScript_11 hΓ ?_
  refine aw_less (cs2 := (cs + (20 - n1)) + (0 + n1)) (ss2 := (ss + 6 * (20 - n1)) + (0 + 6 * n1)) (by omega) (by omega) ?_
  refine sX7_parseScript_12 hΓ (cs := cs + (20 - n1)) (ss := ss + 6 * (20 - n1)) (0 + n1) (0 + 6 * n1) (Nat.le_of_ble_eq_true rfl) h10.o (fun κ_12 hΓ_12 => ?_)
  subst hn1
  refine cms_g (g := 2) cmd2 κ_12 _ _ _ 0 0 _ c id (fun _ => (0, 0, 0, 0, none, none)) (pBeg b L t, O, 0) 0 (by omega) hΓ_12 h10 (fun _ => ⟨rfl, fun i hi => absurd hi (Nat.not_lt_zero i)⟩) hI0 (fun σ3 c3 cc3 r h3 => ?_)
  show AW G κ _ _ 15 _ _ _
  obtain ⟨u1, u2, u3⟩ := h3
  obtain ⟨p, ht, hr⟩ := u1.t
  refine sX7_parseScript_15q hΓ ?_
  refine sX7_parseScript_16 hΓ rfl ?_
  refine sX7_parseScript_17 hΓ u1.o rfl ?_
  refine sX7_parseScript_20 hΓ ht rfl ?_
  have hk0 : tKd b L p = 0 ↔ tK b L p = 0 := tKd_lt hb (k := 0) (by decide)
  refine sX7_parseScript_23 hΓ (fun c23 => ?_) (fun c23 => ?_)
  · have e1 : (oTop (oOrd b L 2) 21 (pBeg b L t, O, 0)).1 = (cLoop (oOrd b L 2) 21 (pBeg b L t, O, 0)).1 := by
      rw [t2, if_neg (fun e => e.2 ((hr e.1).2.2.trans (hk0.mp c23)))]
    refine sX7_parseScript_38q hΓ rfl ?_
    refine sX7_parseScript_39q hΓ (hq σ3 c3 cc3 r ⟨by rw [e1]; exact u1, f10.tr u2, fun e => ?_⟩)
    rw [e1] at e
    obtain ⟨-, nd1, D1, m, -, a3, -, a5⟩ := u3 e
    rw [t1]
    exact ⟨nd1, D1, m, a3, a5⟩
  · refine sX7_parseScript_26 hΓ rfl ?_
    refine sX7_parseScript_27 hΓ ?_
    refine sX7_parseScript_28 hΓ rfl ?_
    refine sX7_parseScript_29 hΓ u1.o rfl ?_
    refine sX7_parseScript_32 hΓ ht rfl ?_
    refine sX7_parseScript_35 hΓ 0 0 (Nat.le_of_ble_eq_true rfl) u1.o (fun κ_35 hΓ_35 => sq_fail hΓ_35 u1 (n := 1) rfl (by decide) (by decide) (fun e0 => by rw [(hr e0).1]) (fun σ4 h4 f4 => ?_))
    show AW G κ _ _ 38 _ _ _
    have e1 : (oTop (oOrd b L 2) 21 (pBeg b L t, O, 0)).1 = pCk false 1 (cLoop (oOrd b L 2) 21 (pBeg b L t, O, 0)).1 := by
      rw [t2]
      by_cases e0 : pR (cLoop (oOrd b L 2) 21 (pBeg b L t, O, 0)).1 = 0
      · rw [if_pos ⟨e0, fun e => c23 (hk0.mpr ((hr e0).2.2.symm.trans e))⟩]
      · rw [if_neg (fun e => e0 e.1), pCk_id (Or.inr e0)]
    refine sX7_parseScript_38q hΓ rfl ?_
    refine sX7_parseScript_39q hΓ (hq σ4 c3 cc3 r ⟨by rw [e1]; exact h4, (f10.tr u2).tr f4, fun e => ?_⟩)
    rw [e1] at e
    obtain ⟨e8, -⟩ := pCk_z (by decide) e
    cases e8
end ClassScript2
