/-! the class: what a railway does -/
def sBit (x : Int32) : Int32 := 1 <<< (x &&& 31)
def sDig (S : Nat → Int32) (x : Int32) : Nat → Int32 := upd S 2 (S 2 ||| sBit x)
def sShort (S : Nat → Int32) (x : Int32) (b : Bool) : Nat → Int32 := upd S 3 (if b = true then S 3 ||| sBit x else S 3 &&& (sBit x ^^^ -1))
def cPower (S : Nat → Int32) (T : Nat → Nat → Int32) (n : Nat) : Nat → Int32 := if ¬ S 5 = 0 then upd S 5 (S 5 - 1) else if cMet S T n = true then upd (upd S 5 (S 1)) 6 (S 6 + 1) else S
def vAdv (v : Nat → Int32) : Nat → Int32 := upd v 4 (v 4 + v 5)
def vMove (S : Nat → Int32) (T : Nat → Nat → Int32) (n k : Nat) : Nat → Int32 :=
  if vAdv (T k) 4 < 100 then vAdv (T k) else if cFst (updT T k (vAdv (T k))) n 3 (cBeh S (vAdv (T k) 3)) = none then vEnter (cBeh S (vAdv (T k) 3)) (vAdv (T k)) else vBlock (vAdv (T k))
def vSent (x : Int32) : Bool := !(x == -1)
def vDrive (S : Nat → Int32) (x : Int32) (v : Nat → Int32) : Nat → Int32 :=
  vBri (S 5 == 0) (vSpd (S 5 == 0) (vSil (vSent x && vHas x (bitB (S 2) (v 3)) v) (if vSent x = true then vRecv x (bitB (S 2) (v 3)) v else v)))
def tDrive (S : Nat → Int32) (x : Int32) (T : Nat → Nat → Int32) (i : Nat) : Nat → Nat → Int32 := fun j => if j < i then vDrive S x (T j) else T j
def tMove (S : Nat → Int32) (n : Nat) (T : Nat → Nat → Int32) : Nat → Nat → Nat → Int32 := iter (fun T i => updT T i (vMove S T n i)) T
theorem tDrive_s (S : Nat → Int32) (x : Int32) (T : Nat → Nat → Int32) (i : Nat) : updT (tDrive S x T i) i (vDrive S x (T i)) = tDrive S x T (i + 1) := by
  funext j
  by_cases e : j = i
  · subst e
    rw [updT_same]
    exact (if_pos (Nat.lt_succ_self j)).symm
  · rw [updT_ne e]
    unfold tDrive
    by_cases c : j < i
    · rw [if_pos c, if_pos (by omega)]
    · rw [if_neg c, if_neg (by omega)]
theorem tDrive_0 (S : Nat → Int32) (x : Int32) (T : Nat → Nat → Int32) : tDrive S x T 0 = T := by
  funext j
  exact if_neg (Nat.not_lt_zero j)
theorem tDrive_i (S : Nat → Int32) (x : Int32) (T : Nat → Nat → Int32) (i : Nat) : tDrive S x T i i = T i := if_neg (Nat.lt_irrefl i)
theorem updT_updT (T : Nat → Nat → Int32) (k : Nat) (v w : Nat → Int32) : updT (updT T k v) k w = updT T k w := by
  funext j
  by_cases e : j = k
  · subst e; rw [updT_same, updT_same]
  · rw [updT_ne e, updT_ne e, updT_ne e]
theorem updT_id (T : Nat → Nat → Int32) (k : Nat) : updT T k (T k) = T := by
  funext j
  by_cases e : j = k
  · subst e; rw [updT_same]
  · rw [updT_ne e]
theorem not_eq_true_b {b : Bool} (h : ¬ bI (!b) = 0) : b = false := bN_n h
abbrev Ct : Type := (Nat → Int32) × (Nat → Int32) × (Nat → Int32) × (Nat → Nat → Int32)
def cX (C : Ct) : Int32 := if C.1 5 = 0 ∧ ¬ C.2.1 1 = 0 then C.2.2.1 0 else -1
def cU (C : Ct) : Nat → Int32 := if C.1 5 = 0 ∧ ¬ C.2.1 1 = 0 then uSend C.2.1 else C.2.1
def cK (C : Ct) : Nat → Int32 := if C.1 5 = 0 ∧ ¬ C.2.1 1 = 0 then kBack C.2.2.1 else C.2.2.1
def cT (n : Nat) (C : Ct) : Nat → Nat → Int32 := tMove C.1 n (tDrive C.1 (cX C) C.2.2.2 n) n
def cS (n : Nat) (C : Ct) : Nat → Int32 := upd (cPower C.1 (cT n C) n) 4 (cPower C.1 (cT n C) n 4 + 1)
def cTick (n : Nat) (C : Ct) : Ct := (cS n C, cU C, cK C, cT n C)
def cPs (n : Nat) (C : Ct) (t : Nat) : Ct := iter (fun C _ => cTick n C) C t
section ClassDo
variable {G : Gl} {κ : Kx} {d : Nat} {Q : Option Value → Hp → Prop} {X : String → Hp → Prop} {cs ss pc : Nat} {L : List (Option LV)} {st : List Value} {σ : Hp} {q p a t n : Nat} {tr : Nat → Nat} {S U K : Nat → Int32} {T : Nat → Nat → Int32}
theorem rg_T (h : RG G σ a t q p tr n S U K T) {k : Nat} (hk : k < n) {fs : List Value} (v : Nat → Int32) (hf : fs = tV v) (kk : ∀ σ1 : Hp, RG G σ1 a t q p tr n S U K (updT T k v) → CF a t q p tr n σ σ1 → AW G κ cs ss pc L st σ1) : AW G κ cs ss pc L st (hset σ (tr k) (.inr (9, fs))) := by
  subst hf
  exact kk _ (h.setT hk v).1 (h.setT hk v).2
theorem RG.tnS {v : Nat → Int32} {k : Nat} (h : RG G σ a t q p tr n S U K (updT T k v)) (hk : k < n) : σ (tr k) = some (.inr (9, tV v)) := by
  have h1 := h.tn hk
  rw [updT_same] at h1
  exact h1
theorem sr_digTunnel (hΓ : Ok G κ mX8_digTunnel (d + 0) Q X) (h : RG G σ a t q p tr n S U K T) {x : Int32} (hq : ∀ σ1 : Hp, RG G σ1 a t q p tr n (sDig S x) U K T → CF a t q p tr n σ σ1 → Q none σ1) : AW G κ cs ss 0 [lR a, lI x] [] σ := by
  have hn6 := h.n6
  refine sX8_digTunnel_0 hΓ rfl ?_
  refine sX8_digTunnel_1 hΓ ?_
  refine sX8_digTunnel_2 hΓ h.o rfl ?_
  refine sX8_digTunnel_5 hΓ ?_
  refine sX8_digTunnel_6 hΓ rfl ?_
  refine sX8_digTunnel_7 hΓ ?_
  refine sX8_digTunnel_8 hΓ ?_
  refine sX8_digTunnel_9 hΓ h.o  (Nat.le_of_ble_eq_true rfl) (rg_S h (sDig S x) rfl (fun σ1 h1 f1 => ?_))
  exact sX8_digTunnel_12 hΓ (hq _ h1 (CF.rf.tr f1))
theorem sr_changeShort (hΓ : Ok G κ mX8_changeShort (d + 1) Q X) (h : RG G σ a t q p tr n S U K T) {x y : Int32} {b : Bool} (hy : y = bI b) (hs : ∃ s, S 0 = nI s ∧ 4 ≤ s ∧ s ≤ 24) (hq0 : rIn x 0 (S 0 - 1) = false → Q (some (.int 0)) σ) (hq1 : rIn x 0 (S 0 - 1) = true → ∀ σ1 : Hp, RG G σ1 a t q p tr n (sShort S x b) U K T → CF a t q p tr n σ σ1 → Q (some (.int 1)) σ1) : AW G κ cs ss 0 [lR a, lI x, lI y, none] [] σ := by
  have hn6 := h.n6
  refine sX8_changeShort_0 hΓ rfl ?_
  refine sX8_changeShort_1 hΓ rfl ?_
  refine sX8_changeShort_2 hΓ 0 0 (Nat.le_of_ble_eq_true rfl) h.o (fun κ_2 hΓ_2 => sr_hasSection hΓ_2 h ?_ hs)
  show AW G κ _ _ 5 _ _ _
  refine sX8_changeShort_5 hΓ (fun c5 => ?_) (fun c5 => ?_)
  · have hq := hq1 (bI_n0 c5)
    refine sX8_changeShort_10 hΓ ?_
    refine sX8_changeShort_11 hΓ rfl ?_
    refine sX8_changeShort_12 hΓ ?_
    refine sX8_changeShort_13 hΓ ?_
    refine sX8_changeShort_14 hΓ rfl ?_
    refine sX8_changeShort_15 hΓ rfl ?_
    refine sX8_changeShort_16 hΓ (fun c16 => ?_) (fun c16 => ?_)
    · have e := bI_0 (hy.symm.trans c16)
      subst e
      refine sX8_changeShort_28 hΓ rfl ?_
      refine sX8_changeShort_29 hΓ h.o rfl ?_
      refine sX8_changeShort_32 hΓ rfl ?_
      refine sX8_changeShort_33 hΓ ?_
      refine sX8_changeShort_34 hΓ ?_
      refine sX8_changeShort_35 hΓ ?_
      refine sX8_changeShort_36 hΓ h.o  (Nat.le_of_ble_eq_true rfl) (rg_S h (sShort S x false) rfl (fun σ2 h2 f2 => ?_))
      refine sX8_changeShort_39 hΓ ?_
      exact sX8_changeShort_40 hΓ (Or.inr rfl) (hq _ h2 (CF.rf.tr f2))
    · have e := bI_n0 (fun e9 => c16 (hy.trans e9))
      subst e
      refine sX8_changeShort_19 hΓ rfl ?_
      refine sX8_changeShort_20 hΓ h.o rfl ?_
      refine sX8_changeShort_23 hΓ rfl ?_
      refine sX8_changeShort_24 hΓ ?_
      refine sX8_changeShort_25 hΓ ?_
      refine sX8_changeShort_36 hΓ h.o  (Nat.le_of_ble_eq_true rfl) (rg_S h (sShort S x true) rfl (fun σ3 h3 f3 => ?_))
      refine sX8_changeShort_39 hΓ ?_
      exact sX8_changeShort_40 hΓ (Or.inr rfl) (hq _ h3 (CF.rf.tr f3))
  · have hq := hq0 (bI_0 c5)
    refine sX8_changeShort_8 hΓ ?_
    exact sX8_changeShort_9 hΓ (Or.inl rfl) hq
theorem sr_changePower (hΓ : Ok G κ mX8_changePower (d + 2) Q X) (h : RG G σ a t q p tr n S U K T) (hq : ∀ σ1 : Hp, RG G σ1 a t q p tr n (cPower S T n) U K T → CF a t q p tr n σ σ1 → Q none σ1) : AW G κ cs ss 0 [lR a] [] σ := by
  have hn6 := h.n6
  refine sX8_changePower_0 hΓ rfl ?_
  refine sX8_changePower_1 hΓ 0 0 (Nat.le_of_ble_eq_true rfl) h.o (fun κ_1 hΓ_1 => sr_isPowered hΓ_1 h ?_)
  show AW G κ _ _ 4 _ _ _
  refine sX8_changePower_4 hΓ (fun c4 => ?_) (fun c4 => ?_)
  · have e : ¬ ¬ S 5 = 0 := Decidable.not_not.mpr (beq_iff_eq.mp (bI_n0 c4))
    refine sX8_changePower_20 hΓ rfl ?_
    refine sX8_changePower_21 hΓ 0 0 (Nat.le_of_ble_eq_true rfl) h.o (fun κ_21 hΓ_21 => sr_isShortMet hΓ_21 h ?_)
    show AW G κ _ _ 24 _ _ _
    refine sX8_changePower_24 hΓ (fun c24 => ?_) (fun c24 => ?_)
    · rw [show cPower S T n = S from (if_neg e).trans (if_neg (by rw [bI_0 c24]; exact Bool.false_ne_true))] at hq
      exact sX8_changePower_45 hΓ (hq _ h CF.rf)
    · rw [show cPower S T n = upd (upd S 5 (S 1)) 6 (S 6 + 1) from (if_neg e).trans (if_pos (bI_n0 c24))] at hq
      refine sX8_changePower_27 hΓ rfl ?_
      refine sX8_changePower_28 hΓ rfl ?_
      refine sX8_changePower_29 hΓ h.o rfl ?_
      refine sX8_changePower_32 hΓ h.o  (Nat.le_of_ble_eq_true rfl) (rg_S h (upd S 5 (S 1)) rfl (fun σ1 h1 f1 => ?_))
      refine sX8_changePower_35 hΓ rfl ?_
      refine sX8_changePower_36 hΓ ?_
      refine sX8_changePower_37 hΓ h1.o rfl ?_
      refine sX8_changePower_40 hΓ ?_
      refine sX8_changePower_41 hΓ ?_
      refine sX8_changePower_42 hΓ h1.o  (Nat.le_of_ble_eq_true rfl) (rg_S h1 (upd (upd S 5 (S 1)) 6 (S 6 + 1)) rfl (fun σ2 h2 f2 => ?_))
      exact sX8_changePower_45 hΓ (hq _ h2 ((CF.rf.tr f1).tr f2))
  · have e : ¬ S 5 = 0 := beq_eq_false_iff_ne.mp (bI_0 c4)
    rw [show cPower S T n = upd S 5 (S 5 - 1) from if_pos e] at hq
    refine sX8_changePower_7 hΓ rfl ?_
    refine sX8_changePower_8 hΓ ?_
    refine sX8_changePower_9 hΓ h.o rfl ?_
    refine sX8_changePower_12 hΓ ?_
    refine sX8_changePower_13 hΓ ?_
    refine sX8_changePower_14 hΓ h.o  (Nat.le_of_ble_eq_true rfl) (rg_S h (upd S 5 (S 5 - 1)) rfl (fun σ3 h3 f3 => ?_))
    refine sX8_changePower_17 hΓ ?_
    exact sX8_changePower_45 hΓ (hq _ h3 (CF.rf.tr f3))
theorem sr_move (hΓ : Ok G κ mX8_move (d + 1) Q X) (h : RG G σ a t q p tr n S U K T) {k : Nat} (hk : k < n) (hq : ∀ σ1 : Hp, RG G σ1 a t q p tr n S U K (updT T k (vMove S T n k)) → CF a t q p tr n σ σ1 → Q none σ1) : AW G κ cs ss 0 [lR a, lR (tr k), none] [] σ := by
  have hn6 := h.n6
  refine sX8_move_0 hΓ rfl ?_
  refine sX8_move_1 hΓ ?_
  refine sX8_move_2 hΓ (h.tn hk) rfl ?_
  refine sX8_move_5 hΓ rfl ?_
  refine sX8_move_6 hΓ (h.tn hk) rfl ?_
  refine sX8_move_9 hΓ ?_
  refine sX8_move_10 hΓ (h.tn hk) (Nat.le_of_ble_eq_true rfl) (rg_T h hk (vAdv (T k)) rfl (fun σ1 h1 f1 => ?_))
  refine sX8_move_13 hΓ rfl ?_
  refine sX8_move_14 hΓ 0 0 (Nat.le_of_ble_eq_true rfl) (h1.tnS hk) (fun κ_14 hΓ_14 => st_isAtSectionEnd hΓ_14 (h1.tnS hk) ?_)
  show AW G κ _ _ 17 _ _ _
  refine sX8_move_17 hΓ (fun c17 => ?_) (fun c17 => ?_)
  · have e : ¬ (vAdv (T k)) 4 < 100 := of_decide_eq_false (not_eq_true_b c17)
    refine sX8_move_21 hΓ rfl ?_
    refine sX8_move_22 hΓ rfl ?_
    refine sX8_move_23 hΓ (h1.tnS hk) rfl ?_
    refine sX8_move_26 hΓ 0 0 (Nat.le_of_ble_eq_true rfl) h1.o (fun κ_26 hΓ_26 => sr_sectionBehind hΓ_26 h1 ?_)
    show AW G κ _ _ 29 _ _ _
    refine sX8_move_29 hΓ ?_
    refine sX8_move_30 hΓ rfl ?_
    refine sX8_move_31 hΓ rfl ?_
    refine sX8_move_32 hΓ 0 0 (Nat.le_of_ble_eq_true rfl) h1.o (fun κ_32 hΓ_32 => sr_numberIn hΓ_32 h1 ?_)
    show AW G κ _ _ 35 _ _ _
    refine sX8_move_35 hΓ (fun c35 => ?_) (fun c35 => ?_)
    · have e2 : ¬ cFst (updT T k (vAdv (T k))) n 3 (cBeh S ((vAdv (T k)) 3)) = none := fun e9 => absurd ((oI_neg (fun k e => by have := cFst_lt e; omega)).mpr e9) (Int32.not_lt.mpr c35)
      rw [show vMove S T n k = vBlock (vAdv (T k)) from (if_neg e).trans (if_neg e2)] at hq
      refine sX8_move_46 hΓ rfl ?_
      refine sX8_move_47 hΓ 0 0 (Nat.le_of_ble_eq_true rfl) (h1.tnS hk) (fun κ_47 hΓ_47 => st_block hΓ_47 (h1.tnS hk) ?_)
      show AW G κ _ _ 50 _ _ _
      refine rg_T h1 hk (vBlock (vAdv (T k))) rfl (fun σ77 h77 f77 => ?_)
      rw [updT_updT] at h77
      show AW G κ _ _ 50 _ _ _
      exact sX8_move_50 hΓ (hq _ h77 ((CF.rf.tr f1).tr f77))
    · have e2 := (oI_neg (fun k e => by have := cFst_lt e; omega)).mp (Int32.not_le.mp c35)
      rw [show vMove S T n k = vEnter (cBeh S ((vAdv (T k)) 3)) (vAdv (T k)) from (if_neg e).trans (if_pos e2)] at hq
      refine sX8_move_38 hΓ rfl ?_
      refine sX8_move_39 hΓ rfl ?_
      refine sX8_move_40 hΓ 0 0 (Nat.le_of_ble_eq_true rfl) (h1.tnS hk) (fun κ_40 hΓ_40 => st_enter hΓ_40 (h1.tnS hk) ?_)
      show AW G κ _ _ 43 _ _ _
      refine rg_T h1 hk (vEnter (cBeh S ((vAdv (T k)) 3)) (vAdv (T k))) rfl (fun σ77 h77 f77 => ?_)
      rw [updT_updT] at h77
      show AW G κ _ _ 43 _ _ _
      refine sX8_move_43 hΓ ?_
      exact sX8_move_50 hΓ (hq _ h77 ((CF.rf.tr f1).tr f77))
  · have e : (vAdv (T k)) 4 < 100 := of_decide_eq_true (bN_0 c17)
    rw [show vMove S T n k = (vAdv (T k)) from if_pos e] at hq
    exact sX8_move_20 hΓ (hq _ h1 (CF.rf.tr f1))
theorem sr_driveTrains (hΓ : Ok G κ mX8_driveTrains (d + 2) Q X) (h : RG G σ a t q p tr n S U K T) {x : Int32} (hq : ∀ σ1 : Hp, RG G σ1 a t q p tr n S U K (tDrive S x T n) → CF a t q p tr n σ σ1 → Q none σ1) : AW G κ cs ss 0 [lR a, lI x, none, none, none, none, none, none, none] [] σ := by
  have hn6 := h.n6
  suffices loop : ∀ (m i : Nat) (y : Int32) (o7 o8 : Option LV) (σ2 : Hp), i + m = n → y = nI i → RG G σ2 a t q p tr n S U K (tDrive S x T i) → CF a t q p tr n σ σ2 → AW G κ cs ss 30 [lR a, lI x, lI (bI (vSent x)), lI (bI (S 5 == 0)), lR t, lI (nI n), lI y, o7, o8] [] σ2 by
    suffices at10 : AW G κ cs ss 11 [lR a, lI x, lI (bI (vSent x)), none, none, none, none, none, none] [] σ by
      refine sX8_driveTrains_0 hΓ rfl ?_
      refine sX8_driveTrains_1 hΓ ?_
      refine sX8_driveTrains_2 hΓ (fun c2 => ?_) (fun c2 => ?_)
      · have e : vSent x = false := by rw [vSent, beq_iff_eq.mpr c2]; rfl
        refine sX8_driveTrains_9 hΓ ?_
        refine sX8_driveTrains_10 hΓ ?_
        rw [e] at at10
        exact at10
      · have e : vSent x = true := by rw [vSent, beq_eq_false_iff_ne.mpr c2]; rfl
        refine sX8_driveTrains_5 hΓ ?_
        refine sX8_driveTrains_6 hΓ ?_
        refine sX8_driveTrains_10 hΓ ?_
        rw [e] at at10
        exact at10
    refine sX8_driveTrains_11 hΓ rfl ?_
    refine sX8_driveTrains_12 hΓ 0 0 (Nat.le_of_ble_eq_true rfl) h.o (fun κ_12 hΓ_12 => sr_isPowered hΓ_12 h ?_)
    show AW G κ _ _ 15 _ _ _
    refine sX8_driveTrains_15 hΓ ?_
    refine sX8_driveTrains_16 hΓ rfl ?_
    refine sX8_driveTrains_17 hΓ h.o rfl ?_
    refine sX8_driveTrains_20 hΓ ?_
    refine sX8_driveTrains_22 hΓ rfl ?_
    refine sX8_driveTrains_24q hΓ (Or.inr rfl) h.ts ?_
    refine sX8_driveTrains_25 hΓ ?_
    refine sX8_driveTrains_27 hΓ ?_
    refine sX8_driveTrains_28 hΓ ?_
    exact loop n 0 _ _ _ σ (Nat.zero_add n) rfl (by rw [tDrive_0]; exact h) CF.rf
  intro m
  induction m with
  | zero =>
    intro i y o7 o8 σ2 hi hy h2 f2
    have ei : i = n := by omega
    subst ei
    refine sX8_driveTrains_30 hΓ rfl ?_
    refine sX8_driveTrains_32 hΓ rfl ?_
    refine sX8_driveTrains_34 hΓ (fun c34 => ?_) (fun c34 => absurd (lp_out hy rfl (by omega) (by omega)) c34)
    exact sX8_driveTrains_98 hΓ (hq _ h2 f2)
  | succ m ih =>
    intro i y o7 o8 σ2 hi hy h2 f2
    have hin : i < n := by omega
    suffices at73 : ∀ (σ3 : Hp) (v1 : Nat → Int32) (ho : Bool), v1 = (if vSent x = true then vRecv x (bitB (S 2) (T i 3)) (T i) else T i) → ho = (vSent x && vHas x (bitB (S 2) (T i 3)) (T i)) → RG G σ3 a t q p tr n S U K (updT (tDrive S x T i) i v1) → CF a t q p tr n σ σ3 → AW G κ cs ss 73 [lR a, lI x, lI (bI (vSent x)), lI (bI (S 5 == 0)), lR t, lI (nI n), lI y, lR (tr i), lI (bI ho)] [] σ3 by
      have hti : σ2 (tr i) = some (.inr (9, tV (T i))) := by
        have h9 := h2.tn hin
        rw [tDrive_i] at h9
        exact h9
      refine sX8_driveTrains_30 hΓ rfl ?_
      refine sX8_driveTrains_32 hΓ rfl ?_
      refine sX8_driveTrains_34 hΓ (fun c34 => absurd c34 (lp_in hy rfl hin (by omega))) (fun c34 => ?_)
      refine sX8_driveTrains_37 hΓ rfl ?_
      refine sX8_driveTrains_39 hΓ rfl ?_
      refine sX8_driveTrains_41 hΓ (Or.inr rfl) h2.ts hy hin (by omega) ?_
      refine sX8_driveTrains_42 hΓ ?_
      refine sX8_driveTrains_44 hΓ rfl ?_
      refine sX8_driveTrains_45 hΓ (fun c45 => ?_) (fun c45 => ?_)
      · have e := bI_0 c45
        refine sX8_driveTrains_70 hΓ ?_
        refine sX8_driveTrains_71 hΓ ?_
        first | exact at73 _ (vRecv x (bitB (S 2) (T i 3)) (T i)) false (by rw [e, if_pos rfl]) (by rw [e, e2]; rfl) h2 f2 | exact at73 _ (vRecv x (bitB (S 2) (T i 3)) (T i)) true (by rw [e, if_pos rfl]) (by rw [e, e2]; rfl) h2 f2 | exact at73 _ (T i) false (by rw [e, if_neg Bool.false_ne_true]) (by rw [e]; rfl) (by rw [← tDrive_i S x T i, updT_id]; exact h2) f2
      · have e := bI_n0 c45
        refine sX8_driveTrains_48 hΓ rfl ?_
        refine sX8_driveTrains_50 hΓ rfl ?_
        refine sX8_driveTrains_51 hΓ rfl ?_
        refine sX8_driveTrains_52 hΓ rfl ?_
        refine sX8_driveTrains_54 hΓ hti rfl ?_
        refine sX8_driveTrains_57 hΓ 0 0 (Nat.le_of_ble_eq_true rfl) h2.o (fun κ_57 hΓ_57 => sr_isDug hΓ_57 h2 ?_)
        show AW G κ _ _ 60 _ _ _
        refine sX8_driveTrains_60 hΓ 0 0 (Nat.le_of_ble_eq_true rfl) hti (fun κ_60 hΓ_60 => st_receive hΓ_60 hti rfl ?_)
        show AW G κ _ _ 63 _ _ _
        refine rg_T h2 hin (vRecv x (bitB (S 2) (T i 3)) (T i)) rfl (fun σ77 h77 f77 => ?_)
        show AW G κ _ _ 63 _ _ _
        refine sX8_driveTrains_63 hΓ (fun c63 => ?_) (fun c63 => ?_)
        · have e2 := bI_0 c63
          refine sX8_driveTrains_70 hΓ ?_
          refine sX8_driveTrains_71 hΓ ?_
          first | exact at73 _ (vRecv x (bitB (S 2) (T i 3)) (T i)) false (by rw [e, if_pos rfl]) (by rw [e, e2]; rfl) h77 (f2.tr f77) | exact at73 _ (vRecv x (bitB (S 2) (T i 3)) (T i)) true (by rw [e, if_pos rfl]) (by rw [e, e2]; rfl) h77 (f2.tr f77) | exact at73 _ (T i) false (by rw [e, if_neg Bool.false_ne_true]) (by rw [e]; rfl) (by rw [← tDrive_i S x T i, updT_id]; exact h77) (f2.tr f77)
        · have e2 := bI_n0 c63
          refine sX8_driveTrains_66 hΓ ?_
          refine sX8_driveTrains_67 hΓ ?_
          refine sX8_driveTrains_71 hΓ ?_
          first | exact at73 _ (vRecv x (bitB (S 2) (T i 3)) (T i)) false (by rw [e, if_pos rfl]) (by rw [e, e2]; rfl) h77 (f2.tr f77) | exact at73 _ (vRecv x (bitB (S 2) (T i 3)) (T i)) true (by rw [e, if_pos rfl]) (by rw [e, e2]; rfl) h77 (f2.tr f77) | exact at73 _ (T i) false (by rw [e, if_neg Bool.false_ne_true]) (by rw [e]; rfl) (by rw [← tDrive_i S x T i, updT_id]; exact h77) (f2.tr f77)
    intro σ3 v1 ho e1 e2 h3 f3
    subst e1
    subst e2
    refine sX8_driveTrains_73 hΓ rfl ?_
    refine sX8_driveTrains_75 hΓ rfl ?_
    refine sX8_driveTrains_77 hΓ 0 0 (Nat.le_of_ble_eq_true rfl) (h3.tnS hin) (fun κ_77 hΓ_77 => st_countSilence hΓ_77 (h3.tnS hin) rfl ?_)
    show AW G κ _ _ 80 _ _ _
    refine rg_T h3 hin (vSil (vSent x && vHas x (bitB (S 2) (T i 3)) (T i)) (if vSent x = true then vRecv x (bitB (S 2) (T i 3)) (T i) else T i)) rfl (fun σ77 h77 f77 => ?_)
    rw [updT_updT] at h77
    show AW G κ _ _ 80 _ _ _
    refine sX8_driveTrains_80 hΓ rfl ?_
    refine sX8_driveTrains_82 hΓ rfl ?_
    refine sX8_driveTrains_83 hΓ 0 0 (Nat.le_of_ble_eq_true rfl) (h77.tnS hin) (fun κ_83 hΓ_83 => st_changeSpeed hΓ_83 (h77.tnS hin) rfl ?_)
    show AW G κ _ _ 86 _ _ _
    refine rg_T h77 hin (vSpd (S 5 == 0) (vSil (vSent x && vHas x (bitB (S 2) (T i 3)) (T i)) (if vSent x = true then vRecv x (bitB (S 2) (T i 3)) (T i) else T i))) rfl (fun σ78 h78 f78 => ?_)
    rw [updT_updT] at h78
    show AW G κ _ _ 86 _ _ _
    refine sX8_driveTrains_86 hΓ rfl ?_
    refine sX8_driveTrains_88 hΓ rfl ?_
    refine sX8_driveTrains_89 hΓ 0 0 (Nat.le_of_ble_eq_true rfl) (h78.tnS hin) (fun κ_89 hΓ_89 => st_changeBrightness hΓ_89 (h78.tnS hin) rfl ?_)
    show AW G κ _ _ 92 _ _ _
    refine rg_T h78 hin (vBri (S 5 == 0) (vSpd (S 5 == 0) (vSil (vSent x && vHas x (bitB (S 2) (T i 3)) (T i)) (if vSent x = true then vRecv x (bitB (S 2) (T i 3)) (T i) else T i)))) rfl (fun σ79 h79 f79 => ?_)
    rw [updT_updT] at h79
    show AW G κ _ _ 92 _ _ _
    refine sX8_driveTrains_92 hΓ rfl ?_
    refine sX8_driveTrains_95 hΓ ?_
    exact ih (i + 1) _ _ _ _ (by omega) (lp_1 hy) (by rw [← tDrive_s]; exact h79) (((f3.tr f77).tr f78).tr f79)
theorem sr_pass (hΓ : Ok G κ mX8_pass (d + 3) Q X) (h : RG G σ a t q p tr n S U K T) {k : Nat} {x : Int32} (hx : x = nI k) (hk : k < 1000000) (hq0 : 10000 < S 4 + x → Q (some (.int 0)) σ) (hq1 : ¬ 10000 < S 4 + x → ∀ σ1 : Hp, RG G σ1 a t q p tr n (cPs n (S, U, K, T) k).1 (cPs n (S, U, K, T) k).2.1 (cPs n (S, U, K, T) k).2.2.1 (cPs n (S, U, K, T) k).2.2.2 → CF a t q p tr n σ σ1 → Q (some (.int 1)) σ1) : AW G κ cs ss 0 [lR a, lI x, none, none, none, none, none] [] σ := by
  have hn6 := h.n6
  suffices loop : ∀ (m i : Nat) (y : Int32) (o3 o4 o5 o6 : Option LV) (σ2 : Hp) (C : Ct), i + m = k → y = nI i → RG G σ2 a t q p tr n C.1 C.2.1 C.2.2.1 C.2.2.2 → CF a t q p tr n σ σ2 → iter (fun C _ => cTick n C) (S, U, K, T) i = C → ¬ 10000 < S 4 + x → AW G κ cs ss 12 [lR a, lI x, lI y, o3, o4, o5, o6] [] σ2 by
    refine sX8_pass_0 hΓ rfl ?_
    refine sX8_pass_1 hΓ rfl ?_
    refine sX8_pass_2 hΓ 0 0 (Nat.le_of_ble_eq_true rfl) h.o (fun κ_2 hΓ_2 => sr_hasTicksLeft hΓ_2 h ?_)
    show AW G κ _ _ 5 _ _ _
    refine sX8_pass_5 hΓ (fun c5 => ?_) (fun c5 => ?_)
    · have hT := of_decide_eq_false (not_eq_true_b c5)
      refine sX8_pass_10 hΓ ?_
      refine sX8_pass_11 hΓ ?_
      exact loop k 0 _ _ _ _ _ σ (S, U, K, T) (Nat.zero_add k) rfl h CF.rf rfl hT
    · have hq := hq0 (of_decide_eq_true (bN_0 c5))
      refine sX8_pass_8 hΓ ?_
      exact sX8_pass_9 hΓ (Or.inl rfl) hq
  intro m
  induction m with
  | zero =>
    intro i y o3 o4 o5 o6 σ2 C hi hy h2 f2 eC hT
    have ei : i = k := by omega
    subst ei
    refine sX8_pass_12 hΓ rfl ?_
    refine sX8_pass_13 hΓ rfl ?_
    refine sX8_pass_14 hΓ (fun c14 => ?_) (fun c14 => absurd (by rw [hx]; exact lp_out hy rfl (Nat.le_refl _) (by omega)) c14)
    refine sX8_pass_96 hΓ ?_
    exact sX8_pass_97 hΓ (Or.inr rfl) (hq1 hT _ (by rw [show cPs n (S, U, K, T) i = C from eC]; exact h2) f2)
  | succ m ih =>
    intro i y o3 o4 o5 o6 σ2 C hi hy h2 f2 eC hT
    obtain ⟨S1, U1, K1, T1⟩ := C
    have h2 : RG G σ2 a t q p tr n S1 U1 K1 T1 := h2
    suffices at36 : ∀ (σ3 : Hp), RG G σ3 a t q p tr n S1 (cU (S1, U1, K1, T1)) (cK (S1, U1, K1, T1)) T1 → CF a t q p tr n σ σ3 → AW G κ cs ss 36 [lR a, lI x, lI y, o3, o4, o5, o6] [.int (cX (S1, U1, K1, T1)), .ref a] σ3 by
      refine sX8_pass_12 hΓ rfl ?_
      refine sX8_pass_13 hΓ rfl ?_
      refine sX8_pass_14 hΓ (fun c14 => absurd c14 (by rw [hx]; exact lp_in hy rfl (by omega) (by omega))) (fun c14 => ?_)
      refine sX8_pass_17 hΓ rfl ?_
      refine sX8_pass_18 hΓ rfl ?_
      refine sX8_pass_19 hΓ 0 0 (Nat.le_of_ble_eq_true rfl) h2.o (fun κ_19 hΓ_19 => sr_isPowered hΓ_19 h2 ?_)
      show AW G κ _ _ 22 _ _ _
      refine sX8_pass_22 hΓ (fun c22 => ?_) (fun c22 => ?_)
      · have e : ¬ (S1 5 = 0 ∧ ¬ U1 1 = 0) := fun e9 => beq_eq_false_iff_ne.mp (bI_0 c22) e9.1
        rw [show cX (S1, U1, K1, T1) = -1 from if_neg e, show cU (S1, U1, K1, T1) = U1 from if_neg e, show cK (S1, U1, K1, T1) = K1 from if_neg e] at at36
        refine sX8_pass_35 hΓ ?_
        exact at36 _ h2 f2
      · have e0 : S1 5 = 0 := beq_iff_eq.mp (bI_n0 c22)
        refine sX8_pass_25 hΓ rfl ?_
        refine sX8_pass_26 hΓ h2.o rfl ?_
        refine sX8_pass_29 hΓ 0 0 (Nat.le_of_ble_eq_true rfl) h2.qg.o (fun κ_29 hΓ_29 => su_sendFirst hΓ_29 h2.qg (fun e1 => ?_) (fun e1 σ77 h77 f77 => ?_) )
        · rw [show cX (S1, U1, K1, T1) = -1 from if_neg (fun e9 => e9.2 e1), show cU (S1, U1, K1, T1) = U1 from if_neg (fun e9 => e9.2 e1), show cK (S1, U1, K1, T1) = K1 from if_neg (fun e9 => e9.2 e1)] at at36
          show AW G κ _ _ 32 _ _ _
          refine sX8_pass_32 hΓ ?_
          exact at36 _ h2 f2
        · rw [show cX (S1, U1, K1, T1) = K1 0 from if_pos ⟨e0, e1⟩, show cU (S1, U1, K1, T1) = uSend U1 from if_pos ⟨e0, e1⟩, show cK (S1, U1, K1, T1) = kBack K1 from if_pos ⟨e0, e1⟩] at at36
          show AW G κ _ _ 32 _ _ _
          refine sX8_pass_32 hΓ ?_
          exact at36 _ (h2.setQ h77 f77).1 (f2.tr (h2.setQ h77 f77).2)
    intro σ3 h3 f3
    suffices inner : ∀ (m1 j : Nat) (y5 : Int32) (o6 : Option LV) (σ4 : Hp), j + m1 = n → y5 = nI j → RG G σ4 a t q p tr n S1 (cU (S1, U1, K1, T1)) (cK (S1, U1, K1, T1)) (tMove S1 n (tDrive S1 (cX (S1, U1, K1, T1)) T1 n) j) → CF a t q p tr n σ σ4 → AW G κ cs ss 51 [lR a, lI x, lI y, lR t, lI (nI n), lI y5, o6] [] σ4 by
      refine sX8_pass_36 hΓ 0 0 (Nat.le_of_ble_eq_true rfl) h3.o (fun κ_36 hΓ_36 => sr_driveTrains hΓ_36 h3 (fun σ21 h21 f21 => ?_))
      show AW G κ _ _ 39 _ _ _
      refine sX8_pass_39 hΓ rfl ?_
      refine sX8_pass_40 hΓ h21.o rfl ?_
      refine sX8_pass_43 hΓ ?_
      refine sX8_pass_44 hΓ rfl ?_
      refine sX8_pass_45q hΓ (Or.inr rfl) h21.ts ?_
      refine sX8_pass_46 hΓ ?_
      refine sX8_pass_48 hΓ ?_
      refine sX8_pass_49 hΓ ?_
      exact inner n 0 _ _ _ (Nat.zero_add n) rfl h21 (f3.tr f21)
    intro m1
    induction m1 with
    | zero =>
      intro j y5 o6 σ4 hj hy5 h4 f4
      have ej : j = n := by omega
      subst ej
      refine sX8_pass_51 hΓ rfl ?_
      refine sX8_pass_53 hΓ rfl ?_
      refine sX8_pass_55 hΓ (fun c55 => ?_) (fun c55 => absurd (lp_out hy5 rfl (Nat.le_refl _) (by omega)) c55)
      refine sX8_pass_76 hΓ rfl ?_
      refine sX8_pass_77 hΓ 0 0 (Nat.le_of_ble_eq_true rfl) h4.o (fun κ_77 hΓ_77 => sr_changePower hΓ_77 h4 (fun σ41 h41 f41 => ?_))
      show AW G κ _ _ 80 _ _ _
      refine sX8_pass_80 hΓ rfl ?_
      refine sX8_pass_81 hΓ ?_
      refine sX8_pass_82 hΓ h41.o rfl ?_
      refine sX8_pass_85 hΓ ?_
      refine sX8_pass_86 hΓ ?_
      refine sX8_pass_87 hΓ h41.o  (Nat.le_of_ble_eq_true rfl) (rg_S h41 (cS j (S1, U1, K1, T1)) rfl (fun σ42 h42 f42 => ?_))
      refine sX8_pass_90 hΓ rfl ?_
      refine sX8_pass_93 hΓ ?_
      exact ih (i + 1) _ _ _ _ _ _ (cTick j (S1, U1, K1, T1)) (by omega) (lp_1 hy) h42 ((f4.tr f41).tr f42) (by rw [← eC]; rfl) hT
    | succ m1 ih1 =>
      intro j y5 o6 σ4 hj hy5 h4 f4
      have hjn : j < n := by omega
      refine sX8_pass_51 hΓ rfl ?_
      refine sX8_pass_53 hΓ rfl ?_
      refine sX8_pass_55 hΓ (fun c55 => absurd c55 (lp_in hy5 rfl hjn (by omega))) (fun c55 => ?_)
      refine sX8_pass_58 hΓ rfl ?_
      refine sX8_pass_59 hΓ rfl ?_
      refine sX8_pass_61 hΓ (Or.inr rfl) h4.ts hy5 hjn (by omega) ?_
      refine sX8_pass_62 hΓ ?_
      refine sX8_pass_64 hΓ rfl ?_
      refine sX8_pass_65 hΓ rfl ?_
      refine sX8_pass_67 hΓ 0 0 (Nat.le_of_ble_eq_true rfl) h4.o (fun κ_67 hΓ_67 => sr_move hΓ_67 h4 hjn (fun σ61 h61 f61 => ?_))
      show AW G κ _ _ 70 _ _ _
      refine sX8_pass_70 hΓ rfl ?_
      refine sX8_pass_73 hΓ ?_
      exact ih1 (j + 1) _ _ _ (by omega) (lp_1 hy5) h61 (f4.tr f61)
end ClassDo
