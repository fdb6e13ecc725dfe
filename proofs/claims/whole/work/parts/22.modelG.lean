/-! the reference: output, undo, snapshots, text input -/
def rSign (ρ : Nat → Int32) (n j : Nat) : Int32 := match rFirst ρ n 3 (nI j) with
  | some k => 48 + nI k
  | none => if ρ (34 + j) = 1 then 33 else if ρ (10 + j) = 1 then 110 else 45
def rOut (ρ out : Nat → Int32) (n i : Nat) : Nat → Int32 := fun j => if j < i then rSign ρ n j else out j
theorem rOut_s (ρ out : Nat → Int32) (n i : Nat) : upd (rOut ρ out n i) i (rSign ρ n i) = rOut ρ out n (i + 1) := by
  funext j
  unfold rOut
  by_cases e : j = i
  · rw [e, upd_same, if_pos (Nat.lt_succ_self i)]
  · rw [upd_ne e]
    by_cases c : j < i
    · rw [if_pos c, if_pos (by omega)]
    · rw [if_neg c, if_neg (by omega)]
theorem rOut_0 (ρ out : Nat → Int32) (n : Nat) : rOut ρ out n 0 = out := by
  funext j
  exact if_neg (Nat.not_lt_zero j)
def hRow (H : Nat → Int32) (i : Nat) : Nat → Int32 := fun j => H (184 * i + j)
section ModelRest
variable {G : Gl} {κ : Kx} {d : Nat} {Q : Option Value → Hp → Prop} {X : String → Hp → Prop} {cs ss : Nat} {σ : Hp} {a : Nat} {r : Nat → Nat} {z : Nat → Int32} {A B : Nat → Nat → Int32} {rw : Nat} {ρ η : Nat → Int32}
theorem sp_signOf (hΓ : Ok G κ mX13_signOf (d + 2) Q X) (h : MV G σ a r z A rw ρ η) {n s j : Nat} (hR : RW ρ n s) {x : Int32} (hx : x = nI j) (hj : j < 24) (hq : Q (some (.int (rSign ρ n j))) σ) : AW G κ cs ss 0 [lR a, lI x, none] [] σ := by
  refine sX13_signOf_0 hΓ rfl ?_
  refine sX13_signOf_1 hΓ ?_
  refine sX13_signOf_2 hΓ rfl ?_
  refine sX13_signOf_3 hΓ 0 0 (Nat.le_of_ble_eq_true rfl) h.o (fun κ_3 hΓ_3 => sp_first hΓ_3 h hR.1 hR.2.1 (w := 3) rfl (by decide) ?_)
  show AW G κ _ _ 6 _ _ _
  refine sX13_signOf_6 hΓ ?_
  refine sX13_signOf_7 hΓ rfl ?_
  refine sX13_signOf_8 hΓ ?_
  refine sX13_signOf_9 hΓ (fun c9 => ?_) (fun c9 => ?_)
  · have e0 : rFirst ρ n 3 (nI j) = none := (oI_none (show oI (rFirst ρ n 3 (nI j)) = -1 by rw [← hx]; exact c9)).elim id (fun ⟨k1, e, e1⟩ => absurd (fsB_lt _ e).1 (by have := hR.2.1; omega))
    refine sX13_signOf_19 hΓ rfl ?_
    refine sX13_signOf_20 hΓ h.o rfl ?_
    refine sX13_signOf_23 hΓ ?_
    refine sX13_signOf_25 hΓ rfl ?_
    refine sX13_signOf_26 hΓ ?_
    refine sX13_signOf_27 hΓ h.row (ixS (k := 34) rfl hx) (by omega) (by decide) ?_
    refine sX13_signOf_28 hΓ ?_
    refine sX13_signOf_29 hΓ (fun c29 => ?_) (fun c29 => ?_)
    · refine sX13_signOf_37 hΓ rfl ?_
      refine sX13_signOf_38 hΓ h.o rfl ?_
      refine sX13_signOf_41 hΓ ?_
      refine sX13_signOf_43 hΓ rfl ?_
      refine sX13_signOf_44 hΓ ?_
      refine sX13_signOf_45 hΓ h.row (ixS (k := 10) rfl hx) (by omega) (by decide) ?_
      refine sX13_signOf_46 hΓ ?_
      refine sX13_signOf_47 hΓ (fun c47 => ?_) (fun c47 => ?_)
      · have e : rSign ρ n j = 45 := by rw [rSign, e0]; exact (if_neg c29).trans (if_neg c47)
        rw [e] at hq
        refine sX13_signOf_55 hΓ ?_
        exact sX13_signOf_57 hΓ hq
      · have e : rSign ρ n j = 110 := by rw [rSign, e0]; exact (if_neg c29).trans (if_pos c47)
        rw [e] at hq
        refine sX13_signOf_50 hΓ ?_
        refine sX13_signOf_52 hΓ ?_
        exact sX13_signOf_57 hΓ hq
    · have e : rSign ρ n j = 33 := by rw [rSign, e0]; exact if_pos c29
      rw [e] at hq
      refine sX13_signOf_32 hΓ ?_
      refine sX13_signOf_34 hΓ ?_
      exact sX13_signOf_57 hΓ hq
  · obtain ⟨k, e0⟩ : ∃ k, rFirst ρ n 3 (nI j) = some k := by
      cases e1 : rFirst ρ n 3 (nI j) with
      | some k => exact ⟨k, rfl⟩
      | none => exact absurd (show oI (rFirst ρ n 3 x) = -1 by rw [hx, e1]; rfl) c9
    have e : rSign ρ n j = 48 + oI (rFirst ρ n 3 x) := by rw [rSign, hx, e0]; rfl
    rw [e] at hq
    refine sX13_signOf_12 hΓ ?_
    refine sX13_signOf_14 hΓ rfl ?_
    refine sX13_signOf_15 hΓ ?_
    refine sX13_signOf_16 hΓ ?_
    exact sX13_signOf_57 hΓ hq
theorem rp_writeTrack (hΓ : Ok G κ mX13_writeTrack (d + 3) Q X) (h : MP G σ a r z B) {n s : Nat} (hR : RW (B 0) n s) (hq : ∀ σ1 : Hp, MP G σ1 a r (upd (upd z 9 0) 14 (nI s)) (updA B 13 (rOut (B 0) (B 13) n s)) → MF a r σ σ1 → Q (some (.int (nI s))) σ1) : AW G κ cs ss 0 [lR a, none] [] σ := by
  obtain ⟨A, h, hB⟩ := h
  have hs := hR.2.2.1
  have hs24 := hR.2.2.2.2.1
  refine sX13_writeTrack_0 hΓ rfl ?_
  refine sX13_writeTrack_1 hΓ ?_
  refine sX13_writeTrack_2 hΓ h.o  (Nat.le_of_ble_eq_true rfl) (mv_z h (upd z 9 0) rfl (fun σ1 h1 f1 => ?_))
  refine sX13_writeTrack_5 hΓ rfl ?_
  refine sX13_writeTrack_6 hΓ rfl ?_
  refine sX13_writeTrack_7 hΓ h1.o rfl ?_
  refine sX13_writeTrack_10 hΓ ?_
  refine sX13_writeTrack_11 hΓ h1.row (j := 1) rfl (by decide) (by decide) ?_
  refine sX13_writeTrack_12 hΓ h1.o  (Nat.le_of_ble_eq_true rfl) (mv_z h1 (upd (upd z 9 0) 14 (B 0 1)) rfl (fun σ2 h2 f2 => ?_))
  rw [hs] at h2
  suffices loop : ∀ (m i : Nat) (x : Int32) (σ3 : Hp), i + m = s → x = nI i → MV G σ3 a r (upd (upd z 9 0) 14 (nI s)) (updA A 13 (rOut (B 0) (A 13) n i)) 0 (B 0) (A 6) → MF a r σ σ3 → AW G κ cs ss 17 [lR a, lI x] [] σ3 by
    refine sX13_writeTrack_15 hΓ ?_
    refine sX13_writeTrack_16 hΓ ?_
    exact loop s 0 _ _ (Nat.zero_add s) rfl (by rw [rOut_0, updA_id]; exact h2) (f1.tr f2)
  intro m
  induction m with
  | zero =>
    intro i x σ3 hi hx h f
    refine sX13_writeTrack_17 hΓ rfl ?_
    refine sX13_writeTrack_18 hΓ rfl ?_
    refine sX13_writeTrack_19 hΓ h.o rfl ?_
    refine sX13_writeTrack_22 hΓ (fun c22 => ?_) (fun c22 => absurd (lp_out (n := s) hx (upd_same _ _ _) (by omega) (by omega)) c22)
    refine sX13_writeTrack_42 hΓ rfl ?_
    refine sX13_writeTrack_43 hΓ h.o rfl ?_
    exact sX13_writeTrack_46 hΓ (by rw [upd_same]; exact hq _ (MP.mk h (updA_ne (by decide)) (by rw [← hB 13 (Or.inr (Or.inr (Or.inl rfl))), show i = s by omega]; exact keyS hB 13 _)) f)
  | succ m ih =>
    intro i x σ3 hi hx h f
    refine sX13_writeTrack_17 hΓ rfl ?_
    refine sX13_writeTrack_18 hΓ rfl ?_
    refine sX13_writeTrack_19 hΓ h.o rfl ?_
    refine sX13_writeTrack_22 hΓ (fun c22 => absurd c22 (lp_in (n := s) hx (upd_same _ _ _) (by omega) (by omega))) (fun c22 => ?_)
    refine sX13_writeTrack_25 hΓ rfl ?_
    refine sX13_writeTrack_26 hΓ h.o rfl ?_
    refine sX13_writeTrack_29 hΓ rfl ?_
    refine sX13_writeTrack_30 hΓ rfl ?_
    refine sX13_writeTrack_31 hΓ rfl ?_
    refine sX13_writeTrack_32 hΓ 0 0 (Nat.le_of_ble_eq_true rfl) h.o (fun κ_32 hΓ_32 => sp_signOf hΓ_32 h hR hx (by omega) ?_)
    show AW G κ _ _ 35 _ _ _
    refine sX13_writeTrack_35 hΓ (h.arr 13 (Or.inr (Or.inl rfl)) (by decide) (by decide)) hx (by show i < 24; omega) (by decide) (mv_A h 13 (Or.inr (Or.inl rfl)) (by decide) (by decide) rfl (fun σ11 h11 f11 => ?_))
    refine sX13_writeTrack_36 hΓ rfl ?_
    refine sX13_writeTrack_39 hΓ ?_
    exact ih (i + 1) _ _ (by omega) (lp_1 hx) (by rw [updA_updA, updA_same, rOut_s] at h11; exact h11) (f.tr f11)
theorem rp_outputByte (hΓ : Ok G κ mX13_outputByte (d + 2) Q X) (h : MP G σ a r z B) {l : Nat} (hl : z 14 = nI l) (hl24 : l ≤ 24) {x : Int32} (hq : ∀ σ1 : Hp, MP G σ1 a r (upd z 9 (bI (!rIn x 0 (nI l - 1)))) B → MF a r σ σ1 → Q (some (.int (if rIn x 0 (nI l - 1) = true then B 13 x.toNatClampNeg else 0))) σ1) : AW G κ cs ss 0 [lR a, lI x] [] σ := by
  obtain ⟨A, h, hB⟩ := h
  refine sX13_outputByte_0 hΓ rfl ?_
  refine sX13_outputByte_1 hΓ rfl ?_
  refine sX13_outputByte_2 hΓ ?_
  refine sX13_outputByte_3 hΓ rfl ?_
  refine sX13_outputByte_4 hΓ h.o rfl ?_
  refine sX13_outputByte_7 hΓ ?_
  refine sX13_outputByte_8 hΓ ?_
  refine sX13_outputByte_9 hΓ 0 0 (Nat.le_of_ble_eq_true rfl) (fun κ_9 hΓ_9 => sp_inRange hΓ_9 ?_)
  show AW G κ _ _ 12 _ _ _
  refine sX13_outputByte_12 hΓ 0 0 (Nat.le_of_ble_eq_true rfl) h.o (fun κ_12 hΓ_12 => sp_lacks hΓ_12 h rfl (fun σ1 h1 f1 => ?_))
  show AW G κ _ _ 15 _ _ _
  refine sX13_outputByte_15 hΓ (fun c15 => ?_) (fun c15 => ?_)
  · have c := bN_0 c15
    rw [hl] at c h1
    obtain ⟨k, hk, hx⟩ := rIn_nI (n := l) (by omega) c
    rw [if_pos c, hx, nI_clamp (by omega), ← hx, ← hB 13 (Or.inr (Or.inr (Or.inl rfl)))] at hq
    refine sX13_outputByte_22 hΓ rfl ?_
    refine sX13_outputByte_23 hΓ h1.o rfl ?_
    refine sX13_outputByte_26 hΓ rfl ?_
    refine sX13_outputByte_27 hΓ (h1.arr 13 (Or.inr (Or.inl rfl)) (by decide) (by decide)) hx (by show k < 24; omega) (by decide) ?_
    exact sX13_outputByte_28 hΓ (hq _ (MP.mk h1 rfl hB) f1)
  · have c := bN_n c15
    rw [hl] at c h1
    rw [if_neg (by rw [c]; exact Bool.false_ne_true)] at hq
    refine sX13_outputByte_18 hΓ ?_
    refine sX13_outputByte_19 hΓ ?_
    exact sX13_outputByte_28 hΓ (hq _ (MP.mk h1 rfl hB) f1)
theorem rp_undoableCount (hΓ : Ok G κ mX13_undoableCount (d + 0) Q X) (h : MP G σ a r z B) (hq : ∀ σ1 : Hp, MP G σ1 a r (upd z 9 0) B → MF a r σ σ1 → Q (some (.int (z 8))) σ1) : AW G κ cs ss 0 [lR a] [] σ := by
  obtain ⟨A, h, hB⟩ := h
  refine sX13_undoableCount_0 hΓ rfl ?_
  refine sX13_undoableCount_1 hΓ ?_
  refine sX13_undoableCount_2 hΓ h.o  (Nat.le_of_ble_eq_true rfl) (mv_z h (upd z 9 0) rfl (fun σ1 h1 f1 => ?_))
  refine sX13_undoableCount_5 hΓ rfl ?_
  refine sX13_undoableCount_6 hΓ h1.o rfl ?_
  exact sX13_undoableCount_9 hΓ (hq _ (MP.mk h1 rfl hB) f1)
theorem rp_errorOffset (hΓ : Ok G κ mX13_errorOffset (d + 0) Q X) (h : MP G σ a r z B) (hq : ∀ σ1 : Hp, MP G σ1 a r (upd z 9 0) B → MF a r σ σ1 → Q (some (.int (z 23))) σ1) : AW G κ cs ss 0 [lR a] [] σ := by
  obtain ⟨A, h, hB⟩ := h
  refine sX13_errorOffset_0 hΓ rfl ?_
  refine sX13_errorOffset_1 hΓ ?_
  refine sX13_errorOffset_2 hΓ h.o  (Nat.le_of_ble_eq_true rfl) (mv_z h (upd z 9 0) rfl (fun σ1 h1 f1 => ?_))
  refine sX13_errorOffset_5 hΓ rfl ?_
  refine sX13_errorOffset_6 hΓ h1.o rfl ?_
  exact sX13_errorOffset_9 hΓ (hq _ (MP.mk h1 rfl hB) f1)
theorem rp_errorCode (hΓ : Ok G κ mX13_errorCode (d + 0) Q X) (h : MP G σ a r z B) (hq : ∀ σ1 : Hp, MP G σ1 a r (upd z 9 0) B → MF a r σ σ1 → Q (some (.int (z 10))) σ1) : AW G κ cs ss 0 [lR a] [] σ := by
  obtain ⟨A, h, hB⟩ := h
  refine sX13_errorCode_0 hΓ rfl ?_
  refine sX13_errorCode_1 hΓ ?_
  refine sX13_errorCode_2 hΓ h.o  (Nat.le_of_ble_eq_true rfl) (mv_z h (upd z 9 0) rfl (fun σ1 h1 f1 => ?_))
  refine sX13_errorCode_5 hΓ rfl ?_
  refine sX13_errorCode_6 hΓ h1.o rfl ?_
  exact sX13_errorCode_9 hΓ (hq _ (MP.mk h1 rfl hB) f1)
def uZ (z : Nat → Int32) (u : Nat) : Nat → Int32 := if u = 0 then upd z 9 1 else upd (upd z 9 0) 8 (nI (u - 1))
def uB (B : Nat → Nat → Int32) (u : Nat) : Nat → Nat → Int32 := if u = 0 then B else updA B 0 (hRow (B 5) (u - 1))
theorem rp_undo (hΓ : Ok G κ mX13_undo (d + 2) Q X) (h : MP G σ a r z B) {u : Nat} (hu : z 8 = nI u) (hu8 : u ≤ 8) (hq : ∀ σ1 : Hp, MP G σ1 a r (uZ z u) (uB B u) → MF a r σ σ1 → Q (some (.int (if u = 0 then 0 else nI (u - 1)))) σ1) : AW G κ cs ss 0 [lR a] [] σ := by
  obtain ⟨A, h, hB⟩ := h
  refine sX13_undo_0 hΓ rfl ?_
  refine sX13_undo_1 hΓ rfl ?_
  refine sX13_undo_2 hΓ h.o rfl ?_
  refine sX13_undo_5 hΓ (fun c5 => ?_) (fun c5 => ?_)
  · have u0 : u = 0 := Nat.eq_zero_of_not_pos (fun e => nI_nle e (by omega) (by rw [← hu]; exact c5))
    subst u0
    refine sX13_undo_12 hΓ ?_
    refine sX13_undo_13 hΓ 0 0 (Nat.le_of_ble_eq_true rfl) h.o (fun κ_13 hΓ_13 => sp_lacks hΓ_13 h (b := false) rfl (fun σ1 h1 f1 => ?_))
    show AW G κ _ _ 16 _ _ _
    refine sX13_undo_16 hΓ (fun c16 => absurd c16 (by decide)) (fun c16 => ?_)
    refine sX13_undo_19 hΓ ?_
    exact sX13_undo_20 hΓ (hq _ (MP.mk h1 rfl hB) f1)
  · have u0 : u ≠ 0 := fun e => c5 (by rw [hu, e]; decide)
    have eu : z 8 - 1 = nI (u - 1) := by rw [hu]; exact pk_sub (b := 1) (by omega)
    rw [uZ, if_neg u0, uB, if_neg u0, if_neg u0] at hq
    refine sX13_undo_8 hΓ ?_
    refine sX13_undo_9 hΓ ?_
    refine sX13_undo_13 hΓ 0 0 (Nat.le_of_ble_eq_true rfl) h.o (fun κ_13 hΓ_13 => sp_lacks hΓ_13 h (b := true) rfl (fun σ1 h1 f1 => ?_))
    show AW G κ _ _ 16 _ _ _
    refine sX13_undo_16 hΓ (fun c16 => ?_) (fun c16 => absurd rfl c16)
    refine sX13_undo_21 hΓ rfl ?_
    refine sX13_undo_22 hΓ ?_
    refine sX13_undo_23 hΓ h1.o rfl ?_
    refine sX13_undo_26 hΓ ?_
    refine sX13_undo_27 hΓ ?_
    refine sX13_undo_28 hΓ h1.o  (Nat.le_of_ble_eq_true rfl) (mv_z h1 (upd (upd z 9 0) 8 (z 8 - 1)) rfl (fun σ2 h2 f2 => ?_))
    refine sX13_undo_31 hΓ rfl ?_
    refine sX13_undo_32 hΓ h2.o rfl ?_
    refine sX13_undo_35 hΓ rfl ?_
    refine sX13_undo_36 hΓ h2.o rfl ?_
    refine sX13_undo_39 hΓ rfl ?_
    refine sX13_undo_40 hΓ h2.o rfl ?_
    refine sX13_undo_43 hΓ ?_
    refine sX13_undo_44 hΓ 0 0 (Nat.le_of_ble_eq_true rfl) (fun κ_44 hΓ_44 => sp_copy hΓ_44 (h2.arr 5 (Or.inl (by decide)) (by decide) (by decide)) h2.row (i := u - 1) (j := 0) ((upd_same _ _ _).trans eu) rfl (by show _ ≤ 1472; omega) (by decide) (by decide) (by decide) (f' := hRow (A 5) (u - 1)) (fun k hk => cpyI hk) (mv_row h2 (fun σ3 h3 f3 => ?_)))
    show AW G κ _ _ 47 _ _ _
    refine sX13_undo_47 hΓ rfl ?_
    refine sX13_undo_48 hΓ h3.o rfl ?_
    exact sX13_undo_51 hΓ (by rw [show upd (upd z 9 0) 8 (z 8 - 1) 8 = nI (u - 1) from (upd_same _ _ _).trans eu]; exact hq _ (MP.mk (by rw [eu] at h3; exact h3) ((updA_same _ _ _).trans (by rw [hB 5 (Or.inr (Or.inl rfl))])) (key0 hB _)) ((f1.tr f2).tr f3))
theorem rp_saveSnapshot (hΓ : Ok G κ mX13_saveSnapshot (d + 2) Q X) (h : MP G σ a r z B) (hq : ∀ σ1 : Hp, MP G σ1 a r (upd (upd z 9 0) 12 1) (updA B 4 (B 0)) → MF a r σ σ1 → Q none σ1) : AW G κ cs ss 0 [lR a] [] σ := by
  obtain ⟨A, h, hB⟩ := h
  refine sX13_saveSnapshot_0 hΓ rfl ?_
  refine sX13_saveSnapshot_1 hΓ ?_
  refine sX13_saveSnapshot_2 hΓ h.o  (Nat.le_of_ble_eq_true rfl) (mv_z h (upd z 9 0) rfl (fun σ1 h1 f1 => ?_))
  refine sX13_saveSnapshot_5 hΓ rfl ?_
  refine sX13_saveSnapshot_6 hΓ h1.o rfl ?_
  refine sX13_saveSnapshot_9 hΓ ?_
  refine sX13_saveSnapshot_10 hΓ rfl ?_
  refine sX13_saveSnapshot_11 hΓ h1.o rfl ?_
  refine sX13_saveSnapshot_14 hΓ ?_
  refine sX13_saveSnapshot_15 hΓ 0 0 (Nat.le_of_ble_eq_true rfl) (fun κ_15 hΓ_15 => sp_copy hΓ_15 h1.row (h1.arr 4 (Or.inl (by decide)) (by decide) (by decide)) (i := 0) (j := 0) rfl rfl (by decide) (by decide) (by decide) (by decide) (f' := B 0) (fun k hk => cpy0 hk) (mv_A h1 4 (Or.inl (by decide)) (by decide) (by decide) rfl (fun σ2 h2 f2 => ?_)))
  show AW G κ _ _ 18 _ _ _
  refine sX13_saveSnapshot_18 hΓ rfl ?_
  refine sX13_saveSnapshot_19 hΓ ?_
  refine sX13_saveSnapshot_20 hΓ h2.o (Or.inr rfl) (Nat.le_of_ble_eq_true rfl) (mv_z h2 (upd (upd z 9 0) 12 1) rfl (fun σ3 h3 f3 => ?_))
  exact sX13_saveSnapshot_23 hΓ (hq _ (MP.mk h3 (updA_ne (by decide)) (keyS hB 4 _)) ((f1.tr f2).tr f3))
def sZ (z : Nat → Int32) (b : Bool) : Nat → Int32 := if b = true then upd (upd z 9 0) 8 0 else upd z 9 1
def sB (B : Nat → Nat → Int32) (b : Bool) : Nat → Nat → Int32 := if b = true then updA B 0 (B 4) else B
theorem rp_restoreSnapshot (hΓ : Ok G κ mX13_restoreSnapshot (d + 2) Q X) (h : MP G σ a r z B) {b : Bool} (hb : z 12 = bI b) (hq : ∀ σ1 : Hp, MP G σ1 a r (sZ z b) (sB B b) → MF a r σ σ1 → Q (some (.int (if b = true then B 4 0 else 0))) σ1) : AW G κ cs ss 0 [lR a] [] σ := by
  obtain ⟨A, h, hB⟩ := h
  refine sX13_restoreSnapshot_0 hΓ rfl ?_
  refine sX13_restoreSnapshot_1 hΓ rfl ?_
  refine sX13_restoreSnapshot_2 hΓ h.o rfl ?_
  refine sX13_restoreSnapshot_5 hΓ 0 0 (Nat.le_of_ble_eq_true rfl) h.o (fun κ_5 hΓ_5 => sp_lacks hΓ_5 h hb (fun σ1 h1 f1 => ?_))
  show AW G κ _ _ 8 _ _ _
  refine sX13_restoreSnapshot_8 hΓ (fun c8 => ?_) (fun c8 => ?_)
  · have c := bN_0 c8
    subst c
    refine sX13_restoreSnapshot_13 hΓ rfl ?_
    refine sX13_restoreSnapshot_14 hΓ h1.o rfl ?_
    refine sX13_restoreSnapshot_17 hΓ ?_
    refine sX13_restoreSnapshot_18 hΓ rfl ?_
    refine sX13_restoreSnapshot_19 hΓ h1.o rfl ?_
    refine sX13_restoreSnapshot_22 hΓ ?_
    refine sX13_restoreSnapshot_23 hΓ 0 0 (Nat.le_of_ble_eq_true rfl) (fun κ_23 hΓ_23 => sp_copy hΓ_23 (h1.arr 4 (Or.inl (by decide)) (by decide) (by decide)) h1.row (i := 0) (j := 0) rfl rfl (by decide) (by decide) (by decide) (by decide) (f' := A 4) (fun k hk => cpy0 hk) (mv_row h1 (fun σ2 h2 f2 => ?_)))
    show AW G κ _ _ 26 _ _ _
    refine sX13_restoreSnapshot_26 hΓ rfl ?_
    refine sX13_restoreSnapshot_27 hΓ ?_
    refine sX13_restoreSnapshot_28 hΓ h2.o  (Nat.le_of_ble_eq_true rfl) (mv_z h2 (upd (upd z 9 0) 8 0) rfl (fun σ3 h3 f3 => ?_))
    refine sX13_restoreSnapshot_31 hΓ rfl ?_
    refine sX13_restoreSnapshot_32 hΓ h3.o rfl ?_
    refine sX13_restoreSnapshot_35 hΓ ?_
    refine sX13_restoreSnapshot_36 hΓ h3.row (j := 0) rfl (by decide) (by decide) ?_
    exact sX13_restoreSnapshot_37 hΓ (by rw [hB 4 (Or.inl rfl)] at h3 ⊢; exact hq _ (MP.mk h3 (show updA B 0 (B 4) 0 = B 4 from updA_same _ _ _) (show ∀ k, keyP k → A k = updA B 0 (B 4) k from key0 hB _)) ((f1.tr f2).tr f3))
  · have c := bN_n c8
    subst c
    refine sX13_restoreSnapshot_11 hΓ ?_
    exact sX13_restoreSnapshot_12 hΓ (hq _ (MP.mk h1 rfl hB) f1)
def wByte (x y v u w : Int32) (k : Nat) : Int32 := (if k < 4 then x else if k < 8 then y else if k < 12 then v else if k < 16 then u else w) >>> nI (24 - 8 * (k % 4)) &&& 255
def bApp (buf : Nat → Int32) (l : Nat) (x y v u w : Int32) (i : Nat) : Nat → Int32 := fun j => if l ≤ j ∧ j < l + i then wByte x y v u w (j - l) else buf j
theorem bApp_s (buf : Nat → Int32) (l : Nat) (x y v u w : Int32) (i : Nat) : upd (bApp buf l x y v u w i) (l + i) (wByte x y v u w i) = bApp buf l x y v u w (i + 1) := by
  funext j
  unfold bApp
  by_cases e : j = l + i
  · rw [e, upd_same, if_pos (by omega), Nat.add_sub_cancel_left]
  · rw [upd_ne e]
    by_cases c : l ≤ j ∧ j < l + i
    · rw [if_pos c, if_pos (by omega)]
    · rw [if_neg c, if_neg (by omega)]
theorem bApp_0 (buf : Nat → Int32) (l : Nat) (x y v u w : Int32) : bApp buf l x y v u w 0 = buf := by
  funext j
  exact if_neg (by omega)
theorem sh31 {m : Nat} (h : m < 32) : (nI m &&& 31) = nI m := (pk_andN (by omega) 5 (by decide)).trans (by rw [Nat.mod_eq_of_lt (by omega)])
theorem sh_k {x : Int32} {k : Nat} (hx : x = nI k) (hk : k < 20) : ((24 : Int32) - 8 * (x - x / 4 * 4)) &&& 31 = nI (24 - 8 * (k % 4)) := by
  have e1 : x - x / 4 * 4 = nI (k % 4) := by rw [hx]; exact pk_rem (d := 4) (by omega) (by decide) (by decide)
  have e2 : (8 : Int32) * nI (k % 4) = nI (8 * (k % 4)) := pk_mul 8 (k % 4)
  have h4 : k % 4 < 4 := Nat.mod_lt _ (by decide)
  have e3 : (24 : Int32) - nI (8 * (k % 4)) = nI (24 - 8 * (k % 4)) := pk_sub (a := 24) (by omega)
  rw [e1, e2, e3]
  exact sh31 (by omega)
theorem rp_appendText (hΓ : Ok G κ mX13_appendText (d + 0) Q X) (h : MP G σ a r z B) {l : Nat} (hl : z 16 = nI l) (hl5 : l ≤ 500) {x y v u w : Int32} (hq : ∀ σ1 : Hp, MP G σ1 a r (if l + 20 ≤ 500 then upd (upd z 9 0) 16 (nI (l + 20)) else upd z 9 0) (if l + 20 ≤ 500 then updA B 15 (bApp (B 15) l x y v u w 20) else B) → MF a r σ σ1 → Q (some (.int (if l + 20 ≤ 500 then nI (l + 20) else -1))) σ1) : AW G κ cs ss 0 [lR a, lI x, lI y, lI v, lI u, lI w, none, none] [] σ := by
  obtain ⟨A, h, hB⟩ := h
  refine sX13_appendText_0 hΓ rfl ?_
  refine sX13_appendText_1 hΓ ?_
  refine sX13_appendText_2 hΓ h.o  (Nat.le_of_ble_eq_true rfl) (mv_z h (upd z 9 0) rfl (fun σ1 h1 f1 => ?_))
  refine sX13_appendText_5 hΓ rfl ?_
  refine sX13_appendText_6 hΓ h1.o rfl ?_
  refine sX13_appendText_9 hΓ ?_
  refine sX13_appendText_11 hΓ ?_
  refine sX13_appendText_12 hΓ ?_
  refine sX13_appendText_15 hΓ (fun c15 => ?_) (fun c15 => ?_)
  · have c : l + 20 ≤ 500 := (nI_leI (by omega) (by decide)).mp (show nI (l + 20) ≤ nI 500 by rw [← nI_add, ← hl]; exact c15)
    rw [if_pos c, if_pos c, if_pos c] at hq
    suffices loop : ∀ (m i : Nat) (t : Int32) (o : Option LV) (σ3 : Hp), i + m = 20 → t = nI i → MV G σ3 a r (upd (upd z 9 0) 16 (nI (l + i))) (updA A 15 (bApp (A 15) l x y v u w i)) 0 (B 0) (A 6) → MF a r σ σ3 → AW G κ cs ss 23 [lR a, lI x, lI y, lI v, lI u, lI w, lI t, o] [] σ3 by
      refine sX13_appendText_20 hΓ ?_
      refine sX13_appendText_21 hΓ ?_
      exact loop 20 0 _ _ _ rfl rfl (by rw [bApp_0, updA_id, Nat.add_zero, upd_id _ 16 _ (show (upd z 9 0) 16 = nI l from hl)]; exact h1) f1
    intro m
    induction m with
    | zero =>
      intro i t o σ3 hi ht h f
      have ei : i = 20 := by omega
      subst ei
      refine sX13_appendText_23 hΓ rfl ?_
      refine sX13_appendText_25 hΓ ?_
      refine sX13_appendText_27 hΓ (fun c27 => ?_) (fun c27 => absurd (lp_out (n := 20) ht rfl (by decide) (by decide)) c27)
      refine sX13_appendText_120 hΓ rfl ?_
      refine sX13_appendText_121 hΓ h.o rfl ?_
      exact sX13_appendText_124 hΓ (hq _ (MP.mk h (updA_ne (by decide)) (by rw [← hB 15 (Or.inr (Or.inr (Or.inr (Or.inl rfl))))]; exact keyS hB 15 _)) f)
    | succ m ih =>
      intro i t o σ3 hi ht h f
      suffices fin : ∀ b : Int32, b = (if i < 4 then x else if i < 8 then y else if i < 12 then v else if i < 16 then u else w) → AW G κ cs ss 78 [lR a, lI x, lI y, lI v, lI u, lI w, lI t, lI b] [] σ3 by
        refine sX13_appendText_23 hΓ rfl ?_
        refine sX13_appendText_25 hΓ ?_
        refine sX13_appendText_27 hΓ (fun c27 => absurd c27 (lp_in (n := 20) ht rfl (by omega) (by decide))) (fun c27 => ?_)
        refine sX13_appendText_30 hΓ rfl ?_
        refine sX13_appendText_32 hΓ ?_
        refine sX13_appendText_33 hΓ (fun c33 => ?_) (fun c33 => ?_)
        · have d4 : ¬ i < 4 := fun e => lp_in (n := 4) ht rfl e (by decide) c33
          refine sX13_appendText_40 hΓ rfl ?_
          refine sX13_appendText_42 hΓ ?_
          refine sX13_appendText_44 hΓ (fun c44 => ?_) (fun c44 => ?_)
          · have d8 : ¬ i < 8 := fun e => lp_in (n := 8) ht rfl e (by decide) c44
            refine sX13_appendText_51 hΓ rfl ?_
            refine sX13_appendText_53 hΓ ?_
            refine sX13_appendText_55 hΓ (fun c55 => ?_) (fun c55 => ?_)
            · have d12 : ¬ i < 12 := fun e => lp_in (n := 12) ht rfl e (by decide) c55
              refine sX13_appendText_62 hΓ rfl ?_
              refine sX13_appendText_64 hΓ ?_
              refine sX13_appendText_66 hΓ (fun c66 => ?_) (fun c66 => ?_)
              · have d16 : ¬ i < 16 := fun e => lp_in (n := 16) ht rfl e (by decide) c66
                refine sX13_appendText_74 hΓ rfl ?_
                refine sX13_appendText_76 hΓ ?_
                exact fin _ (by simp only [*, if_true, if_false])
              · have d16 : i < 16 := Nat.lt_of_not_le (fun e => c66 (lp_out (n := 16) ht rfl e (by omega)))
                refine sX13_appendText_69 hΓ rfl ?_
                refine sX13_appendText_71 hΓ ?_
                refine sX13_appendText_76 hΓ ?_
                exact fin _ (by simp only [*, if_true, if_false])
            · have d12 : i < 12 := Nat.lt_of_not_le (fun e => c55 (lp_out (n := 12) ht rfl e (by omega)))
              refine sX13_appendText_58 hΓ rfl ?_
              refine sX13_appendText_59 hΓ ?_
              refine sX13_appendText_76 hΓ ?_
              exact fin _ (by simp only [*, if_true, if_false])
          · have d8 : i < 8 := Nat.lt_of_not_le (fun e => c44 (lp_out (n := 8) ht rfl e (by omega)))
            refine sX13_appendText_47 hΓ rfl ?_
            refine sX13_appendText_48 hΓ ?_
            refine sX13_appendText_76 hΓ ?_
            exact fin _ (by simp only [*, if_true, if_false])
        · have d4 : i < 4 := Nat.lt_of_not_le (fun e => c33 (lp_out (n := 4) ht rfl e (by omega)))
          refine sX13_appendText_36 hΓ rfl ?_
          refine sX13_appendText_37 hΓ ?_
          refine sX13_appendText_76 hΓ ?_
          exact fin _ (by simp only [*, if_true, if_false])
      intro b hb
      have eb : b >>> (24 - 8 * (t - t / 4 * 4) &&& 31) &&& 255 = wByte x y v u w i := by rw [wByte, ← hb, sh_k ht (by omega)]
      refine sX13_appendText_78 hΓ rfl ?_
      refine sX13_appendText_79 hΓ h.o rfl ?_
      refine sX13_appendText_82 hΓ rfl ?_
      refine sX13_appendText_83 hΓ h.o rfl ?_
      refine sX13_appendText_86 hΓ rfl ?_
      refine sX13_appendText_88 hΓ ?_
      refine sX13_appendText_90 hΓ ?_
      refine sX13_appendText_92 hΓ rfl ?_
      refine sX13_appendText_94 hΓ ?_
      refine sX13_appendText_95 hΓ (by decide) ?_
      refine sX13_appendText_96 hΓ ?_
      refine sX13_appendText_97 hΓ ?_
      refine sX13_appendText_98 hΓ ?_
      refine sX13_appendText_99 hΓ ?_
      refine sX13_appendText_102 hΓ ?_
      refine sX13_appendText_103 hΓ (h.arr 15 (Or.inr (Or.inr (Or.inl rfl))) (by decide) (by decide)) (j := l + i) (upd_same _ _ _) (by show l + i < 500; omega) (by decide) (mv_A h 15 (Or.inr (Or.inr (Or.inl rfl))) (by decide) (by decide) rfl (fun σ11 h11 f11 => ?_))
      refine sX13_appendText_104 hΓ rfl ?_
      refine sX13_appendText_105 hΓ ?_
      refine sX13_appendText_106 hΓ h11.o rfl ?_
      refine sX13_appendText_109 hΓ ?_
      refine sX13_appendText_110 hΓ ?_
      refine sX13_appendText_111 hΓ h11.o  (Nat.le_of_ble_eq_true rfl) (mv_z h11 (upd (upd (upd z 9 0) 16 (nI (l + i))) 16 ((upd (upd z 9 0) 16 (nI (l + i))) 16 + 1)) rfl (fun σ12 h12 f12 => ?_))
      refine sX13_appendText_114 hΓ rfl ?_
      refine sX13_appendText_117 hΓ ?_
      exact ih (i + 1) _ _ _ (by omega) (lp_1 ht) (by rw [eb, updA_updA, updA_same, bApp_s, updI_updI, upd_same, nI_1] at h12; exact h12) ((f.tr f11).tr f12)
  · have c : ¬ l + 20 ≤ 500 := fun e => c15 (by rw [show (upd z 9 0) 16 = nI l from hl]; exact (show nI l + nI 20 ≤ nI 500 by rw [nI_add]; exact nI_le e (by decide)))
    rw [if_neg c, if_neg c, if_neg c] at hq
    refine sX13_appendText_18 hΓ ?_
    exact sX13_appendText_19 hΓ (hq _ (MP.mk h1 rfl hB) f1)
end ModelRest
