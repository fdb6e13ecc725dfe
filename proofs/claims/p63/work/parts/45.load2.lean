/-! the class's parser: trains, a railway whole -/
theorem pGo_R {b : Nat → Int32} {L : Nat} {P : Pt} : pR (pGo b L P) = pR P := by
  by_cases e : pR P = 0
  · rw [pGo_0 e]; rfl
  · rw [pGo_n e]
theorem isNone_n {o : Option Nat} (h : o = none) : o.isNone = true := by rw [h]; rfl
theorem isNone_s {o : Option Nat} {k : Nat} (h : o = some k) : o.isNone = false := by rw [h]; rfl
theorem oI_lt6 {T : Nat → Nat → Int32} {n w : Nat} {x : Int32} (hn : n ≤ 6) (h : ¬ oI (cFst T n w x) < 0) : ∃ k, cFst T n w x = some k := by
  cases e : cFst T n w x with
  | none => rw [e] at h; exact absurd (by decide) h
  | some k => exact ⟨k, rfl⟩
theorem qLk_R {b : Nat → Int32} {lo hi : Nat} {P : Pt} (h : pR (pLook b lo hi P) = 0) : pR P = 0 := (pLook_z h).2.1
section ClassLoad2
variable {G : Gl} {κ : Kx} {d : Nat} {Q : Option Value → Hp → Prop} {X : String → Hp → Prop} {cs ss pc : Nat} {M : List (Option LV)} {st : List Value} {σ σ1 : Hp} {c c1 : Nat → Nat} {pr tk inp : Nat} {b : Nat → Int32} {L p a s n : Nat} {cc : Int32} {P : Pt} {ρ : Nat → Int32} {C : Ct} {W : Nat → Prop}
theorem RY.n6 (h : RY G σ c a n C) : n ≤ 6 := by
  obtain ⟨t, q, p, tr, h, -⟩ := h
  exact h.n6
theorem qA_R {b : Nat → Int32} {L n : Nat} {P : Pt} (h : pR (qA b L n P) = 0) : pR P = 0 := (pCk_z (by decide) (pCk_z (by decide) (pGo_z h)).2).2
theorem qD_R {b : Nat → Int32} {L n : Nat} {ρ : Nat → Int32} {P : Pt} (h : pR (qD b L n ρ P) = 0) : pR P = 0 := by
  have h1 : pR (qC b L n ρ P) = 0 := qLk_R (pGo_z h)
  have h2 : pR (qB b L n ρ P) = 0 := qLk_R (pGo_z h1)
  exact qA_R (qLk_R (pCk_z (by decide) (pGo_z h2)).2)
theorem sq_takeTrain (hΓ : Ok G κ mX7_takeTrain (d + 6) Q X) (h : LDS G σ c pr tk inp b L a s P ρ n cc) (hs1 : 4 ≤ s) (hs2 : s ≤ 24) (hq : ∀ (σ1 : Hp) (c1 : Nat → Nat), LDS G σ1 c1 pr tk inp b L a s (qTr b L s (P, ρ, n)).1 (qTr b L s (P, ρ, n)).2.1 (qTr b L s (P, ρ, n)).2.2 cc → KF (WA pr a) σ c σ1 c1 → Q none σ1) : AW G κ (cs + 2) (ss + 22) 0 [lR pr, lR a, none, none, none, none, none, none] [] σ := by
  obtain ⟨hQ, C, hR, hS, hC⟩ := h
  have hn6 := hR.n6
  obtain ⟨hap, hai⟩ := hQ.ne hR
  have hL5 : L ≤ 500 := by
    obtain ⟨-, p, hG, -⟩ := hQ
    exact hG.2.2.2.1
  suffices at34 : ∀ (σ2 : Hp) (P2 : Pt), pGo b L (pCk (pWrd b P2 3) 1 P2) = (qA b L n P) → PQ G σ2 c pr tk inp b L P2 cc → KF (fun x => x = pr) σ c σ2 c → AW G κ (cs + 2) (ss + 22) 34 [lR pr, lR a, none, none, none, none, none, none] [] σ2 by
    obtain ⟨t, q, p9, tr, g, -⟩ := hR
    obtain ⟨h4, p, hG, hr⟩ := hQ
    obtain ⟨v, nn, hI, -, -⟩ := hG.1.2.2
    have h0 : pR P = 0 → tWrd b L p 3 = pWrd b P 3 := fun e => (pWrd_t (hr e) e).symm
    have hQ : PQ G σ c pr tk inp b L P cc := ⟨h4, p, hG, hr⟩
    refine sX7_takeTrain_0 hΓ rfl ?_
    refine sX7_takeTrain_1 hΓ hG.o rfl ?_
    refine sX7_takeTrain_4 hΓ ?_
    refine sX7_takeTrain_6 hΓ 0 0 (Nat.le_of_ble_eq_true rfl) hG.t (fun κ_6 hΓ_6 => sk_isWord hΓ_6 hG.t hI rfl hL5 hG.2.2.2.2 hG.2.2.1 (t := 3) (by decide) ?_)
    show AW G κ _ _ 9 _ _ _
    refine sX7_takeTrain_9 hΓ (fun c9 => ?_) (fun c9 => ?_)
    · have e9 : (tWrd b L p 3 = true → n < 6) := fun e => by rw [bI_0 c9] at e; exact Bool.noConfusion e
      first | exact at34 _ P ((qA_eq h0).2 e9) hQ KF.rf | exact at34 _ (pCk false 4 P) ((qA_eq h0).1 w9 n9) hQ KF.rf
    · have w9 := bI_n0 c9
      refine sX7_takeTrain_12 hΓ rfl ?_
      refine sX7_takeTrain_13 hΓ g.o rfl ?_
      refine sX7_takeTrain_16q hΓ (Or.inr rfl) g.ts ?_
      refine sX7_takeTrain_17 hΓ ?_
      refine sX7_takeTrain_19 hΓ (fun c19 => ?_) (fun c19 => ?_)
      · have e9 : (tWrd b L p 3 = true → n < 6) := fun _ => nI_ltz (n := 6) rfl rfl (by omega) (by decide) c19
        first | exact at34 _ P ((qA_eq h0).2 e9) hQ KF.rf | exact at34 _ (pCk false 4 P) ((qA_eq h0).1 w9 n9) hQ KF.rf
      · have n9 : ¬ n < 6 := fun e => c19 (nI_lt (b := 6) e (by decide))
        refine sX7_takeTrain_22 hΓ rfl ?_
        refine sX7_takeTrain_23 hΓ ?_
        refine sX7_takeTrain_24 hΓ rfl ?_
        refine sX7_takeTrain_25 hΓ hG.o rfl ?_
        refine sX7_takeTrain_28 hΓ hG.t rfl ?_
        refine sX7_takeTrain_31 hΓ 0 0 (Nat.le_of_ble_eq_true rfl) hG.o (fun κ_31 hΓ_31 => sq_fail hΓ_31 hQ (n := 4) rfl (by decide) (by decide) (fun e0 => by rw [(hr e0).1]) (fun σ1 h1 f1 => ?_))
        show AW G κ _ _ 34 _ _ _
        first | exact at34 _ P ((qA_eq h0).2 e9) hQ KF.rf | exact at34 _ (pCk false 4 P) ((qA_eq h0).1 w9 n9) h1 (KF.rf.tr f1)
  intro σ2 P2 hqA hQ2 f2
  refine sX7_takeTrain_34 hΓ rfl ?_
  refine sX7_takeTrain_35 hΓ ?_
  refine sX7_takeTrain_37 hΓ 0 0 (Nat.le_of_ble_eq_true rfl) hQ2.o (fun κ_37 hΓ_37 => sq_takeWord hΓ_37 hQ2 (t := 3) (by decide) (fun σ11 h11 f11 => ?_))
  show AW G κ _ _ 40 _ _ _
  rw [hqA] at h11
  have hA0 := h11
  have fA0 := (f2.tr f11)
  obtain ⟨hA4, pA1, hAG, hAr⟩ := hA0
  have hA : PQ G _ c pr tk inp b L (qA b L n P) cc := ⟨hA4, pA1, hAG, hAr⟩
  suffices at70 : ∀ σ5 : Hp, PQ G σ5 c pr tk inp b L (qB b L n ρ P) cc → KF (fun x => x = pr) σ c σ5 c → AW G κ (cs + 2) (ss + 22) 70 [lR pr, lR a, lI (nI (tS b L pA1)), lI (nI (qAv b L n P)), none, none, none, none] [] σ5 by
    refine sX7_takeTrain_40 hΓ rfl ?_
    refine sX7_takeTrain_41 hΓ hAG.o rfl ?_
    refine sX7_takeTrain_44 hΓ hAG.t rfl ?_
    refine sX7_takeTrain_47 hΓ ?_
    refine sX7_takeTrain_48 hΓ rfl ?_
    refine sX7_takeTrain_49 hΓ ?_
    refine sX7_takeTrain_50 hΓ ?_
    refine sX7_takeTrain_52 hΓ 0 0 (Nat.le_of_ble_eq_true rfl) hA.o (fun κ_52 hΓ_52 => sq_takeNumber hΓ_52 hA (lo := 1) (hi := 127) rfl rfl (by decide) (by decide) (fun σ21 h21 f21 => ?_))
    show AW G κ _ _ 55 _ _ _
    have h55 : PQ G _ c pr tk inp b L (pGo b L (pLook b 1 127 (qA b L n P))) cc := h21
    have f55 := (fA0.tr f21)
    obtain ⟨t, q, p9, tr, g, -⟩ := hR.keep f55 hap
    have hcr : pR (pLook b 1 127 (qA b L n P)) = 0 → cFst C.2.2.2 n 0 (nI (qAv b L n P)) = rFirst ρ n 0 (nI (qAv b L n P)) := fun e => cFst_tw (by decide) (hC (qA_R (qLk_R e))).1.2.2.2.1
    refine sX7_takeTrain_55 hΓ ?_
    refine sX7_takeTrain_56 hΓ rfl ?_
    refine sX7_takeTrain_57 hΓ rfl ?_
    refine sX7_takeTrain_58 hΓ 0 0 (Nat.le_of_ble_eq_true rfl) g.o (fun κ_58 hΓ_58 => sr_numberWith hΓ_58 g ?_)
    show AW G κ _ _ 61 _ _ _
    refine sX7_takeTrain_61 hΓ (fun c61 => ?_) (fun c61 => ?_)
    · have en := (oI_neg (fun k e => by have := cFst_lt e; omega)).mp c61
      have eB : pGo b L (pLook b 1 127 (qA b L n P)) = (qB b L n ρ P) := by
        unfold qB
        by_cases e0 : pR (pLook b 1 127 (qA b L n P)) = 0
        · rw [isNone_n ((hcr e0).symm.trans en), qU_new]
        · rw [qU_err e0, pGo_n e0]
      exact at70 _ (by rw [← eB]; exact h55) f55
    · obtain ⟨k, ek⟩ := oI_lt6 hn6 c61
      have eB : pR (pLook b 1 127 (qA b L n P)) = 0 → (qB b L n ρ P) = pCk false 3 (pLook b 1 127 (qA b L n P)) := fun e0 => by
        unfold qB
        rw [isNone_s ((hcr e0).symm.trans ek)]
        exact (qU_old e0).1
      by_cases e0 : pR (pLook b 1 127 (qA b L n P)) = 0
      · refine sX7_takeTrain_64 hΓ rfl ?_
        refine sX7_takeTrain_65 hΓ ?_
        refine sX7_takeTrain_66 hΓ rfl ?_
        have e3 := (qU_old (b := b) (L := L) e0).2
        refine sX7_takeTrain_67 hΓ 0 0 (Nat.le_of_ble_eq_true rfl) h55.o (fun κ_f hΓ_f => sq_failTo hΓ_f h55 (P1 := (qB b L n ρ P)) (m := 3) rfl (by decide) (by decide) (pGo_R.trans e0) (by rw [eB e0]; exact e3.1) (by rw [eB e0, e3.2]; exact (show nI (tS b L pA1) = nI (pS (pLook b 1 127 (qA b L n P))) by rw [pLook_e.2.1, (hAr (qLk_R e0)).1])) (fun σ7 h7 f7 => ?_))
        show AW G κ _ _ 70 _ _ _
        exact at70 _ h7 (f55.tr f7)
      · refine sX7_takeTrain_64 hΓ rfl ?_
        refine sX7_takeTrain_65 hΓ ?_
        refine sX7_takeTrain_66 hΓ rfl ?_
        refine sX7_takeTrain_67 hΓ 0 0 (Nat.le_of_ble_eq_true rfl) h55.o (fun κ_f hΓ_f => sq_failNo hΓ_f h55 (by rw [pGo_R]; exact e0) ?_)
        show AW G κ _ _ 70 _ _ _
        refine at70 _ ?_ f55
        rw [show (qB b L n ρ P) = pGo b L (pLook b 1 127 (qA b L n P)) from (qU_err e0).trans (pGo_n e0).symm]
        exact h55
  intro σ5 h5 f5
  refine sX7_takeTrain_70 hΓ rfl ?_
  refine sX7_takeTrain_71 hΓ ?_
  refine sX7_takeTrain_72 hΓ ?_
  refine sX7_takeTrain_73 hΓ 0 0 (Nat.le_of_ble_eq_true rfl) h5.o (fun κ_73 hΓ_73 => sq_takeNumber hΓ_73 h5 (lo := 1) (hi := 5) rfl rfl (by decide) (by decide) (fun σ41 h41 f41 => ?_))
  show AW G κ _ _ 76 _ _ _
  refine sX7_takeTrain_76 hΓ ?_
  refine sX7_takeTrain_78 hΓ rfl ?_
  refine sX7_takeTrain_79 hΓ ?_
  refine sX7_takeTrain_80 hΓ ?_
  refine sX7_takeTrain_82 hΓ 0 0 (Nat.le_of_ble_eq_true rfl) h41.o (fun κ_82 hΓ_82 => sq_takeNumber hΓ_82 h41 (lo := 1) (hi := 9) rfl rfl (by decide) (by decide) (fun σ42 h42 f42 => ?_))
  show AW G κ _ _ 85 _ _ _
  refine sX7_takeTrain_85 hΓ ?_
  have hD0 : PQ G _ c pr tk inp b L (qD b L n ρ P) cc := h42
  have fD := ((f5.tr f41).tr f42)
  obtain ⟨hD4, pD1, hDG, hDr⟩ := hD0
  have hD : PQ G _ c pr tk inp b L (qD b L n ρ P) cc := ⟨hD4, pD1, hDG, hDr⟩
  have eS : C.1 0 - 1 = nI (s - 1) := by rw [hS]; exact pk_sub (b := 1) (by omega)
  suffices at125 : ∀ σ7 : Hp, PQ G σ7 c pr tk inp b L (qE b L n s ρ P) cc → KF (fun x => x = pr) σ c σ7 c → AW G κ (cs + 2) (ss + 22) 125 [lR pr, lR a, lI (nI (tS b L pA1)), lI (nI (qAv b L n P)), lI (nI (pVl b 1 5 (qB b L n ρ P))), lI (nI (pVl b 1 9 (qC b L n ρ P))), lI (nI (tS b L pD1)), lI (nI (qEv b L n s ρ P))] [] σ7 by
    obtain ⟨t0, q0, p0, tr0, g0, -⟩ := hR.keep fD hap
    refine sX7_takeTrain_87 hΓ rfl ?_
    refine sX7_takeTrain_88 hΓ hDG.o rfl ?_
    refine sX7_takeTrain_91 hΓ hDG.t rfl ?_
    refine sX7_takeTrain_94 hΓ ?_
    refine sX7_takeTrain_96 hΓ rfl ?_
    refine sX7_takeTrain_97 hΓ ?_
    refine sX7_takeTrain_98 hΓ rfl ?_
    refine sX7_takeTrain_99 hΓ g0.o rfl ?_
    refine sX7_takeTrain_102 hΓ ?_
    refine sX7_takeTrain_103 hΓ ?_
    refine sX7_takeTrain_104 hΓ 0 0 (Nat.le_of_ble_eq_true rfl) hD.o (fun κ_104 hΓ_104 => sq_takeNumber hΓ_104 hD (lo := 0) (hi := s - 1) rfl eS (by decide) (by omega) (fun σ51 h51 f51 => ?_))
    show AW G κ _ _ 107 _ _ _
    have h107 : PQ G _ c pr tk inp b L (pGo b L (pLook b 0 (s - 1) (qD b L n ρ P))) cc := h51
    have f107 := (fD.tr f51)
    obtain ⟨t, q, p9, tr, g, -⟩ := hR.keep f107 hap
    have hcr : pR (pLook b 0 (s - 1) (qD b L n ρ P)) = 0 → cFst C.2.2.2 n 3 (nI (qEv b L n s ρ P)) = rFirst ρ n 3 (nI (qEv b L n s ρ P)) := fun e => cFst_tw (by decide) (hC (qD_R (qLk_R e))).1.2.2.2.1
    refine sX7_takeTrain_107 hΓ ?_
    refine sX7_takeTrain_109 hΓ rfl ?_
    refine sX7_takeTrain_110 hΓ rfl ?_
    refine sX7_takeTrain_112 hΓ 0 0 (Nat.le_of_ble_eq_true rfl) g.o (fun κ_112 hΓ_112 => sr_numberIn hΓ_112 g ?_)
    show AW G κ _ _ 115 _ _ _
    refine sX7_takeTrain_115 hΓ (fun c115 => ?_) (fun c115 => ?_)
    · have en := (oI_neg (fun k e => by have := cFst_lt e; omega)).mp c115
      have eB : pGo b L (pLook b 0 (s - 1) (qD b L n ρ P)) = (qE b L n s ρ P) := by
        unfold qE
        by_cases e0 : pR (pLook b 0 (s - 1) (qD b L n ρ P)) = 0
        · rw [isNone_n ((hcr e0).symm.trans en), qU_new]
        · rw [qU_err e0, pGo_n e0]
      exact at125 _ (by rw [← eB]; exact h107) f107
    · obtain ⟨k, ek⟩ := oI_lt6 hn6 c115
      have eB : pR (pLook b 0 (s - 1) (qD b L n ρ P)) = 0 → (qE b L n s ρ P) = pCk false 3 (pLook b 0 (s - 1) (qD b L n ρ P)) := fun e0 => by
        unfold qE
        rw [isNone_s ((hcr e0).symm.trans ek)]
        exact (qU_old e0).1
      by_cases e0 : pR (pLook b 0 (s - 1) (qD b L n ρ P)) = 0
      · refine sX7_takeTrain_118 hΓ rfl ?_
        refine sX7_takeTrain_119 hΓ ?_
        refine sX7_takeTrain_120 hΓ rfl ?_
        have e3 := (qU_old (b := b) (L := L) e0).2
        refine sX7_takeTrain_122 hΓ 0 0 (Nat.le_of_ble_eq_true rfl) h107.o (fun κ_f hΓ_f => sq_failTo hΓ_f h107 (P1 := (qE b L n s ρ P)) (m := 3) rfl (by decide) (by decide) (pGo_R.trans e0) (by rw [eB e0]; exact e3.1) (by rw [eB e0, e3.2]; exact (show nI (tS b L pD1) = nI (pS (pLook b 0 (s - 1) (qD b L n ρ P))) by rw [pLook_e.2.1, (hDr (qLk_R e0)).1])) (fun σ7 h7 f7 => ?_))
        show AW G κ _ _ 125 _ _ _
        exact at125 _ h7 (f107.tr f7)
      · refine sX7_takeTrain_118 hΓ rfl ?_
        refine sX7_takeTrain_119 hΓ ?_
        refine sX7_takeTrain_120 hΓ rfl ?_
        refine sX7_takeTrain_122 hΓ 0 0 (Nat.le_of_ble_eq_true rfl) h107.o (fun κ_f hΓ_f => sq_failNo hΓ_f h107 (by rw [pGo_R]; exact e0) ?_)
        show AW G κ _ _ 125 _ _ _
        refine at125 _ ?_ f107
        rw [show (qE b L n s ρ P) = pGo b L (pLook b 0 (s - 1) (qD b L n ρ P)) from (qU_err e0).trans (pGo_n e0).symm]
        exact h107
  intro σ7 h7 f7
  refine sX7_takeTrain_125 hΓ rfl ?_
  refine sX7_takeTrain_126 hΓ ?_
  refine sX7_takeTrain_127 hΓ 0 0 (Nat.le_of_ble_eq_true rfl) h7.o (fun κ_127 hΓ_127 => sq_take hΓ_127 h7 (k := 3) rfl (by decide) (by decide) (fun σ71 h71 f71 => ?_))
  show AW G κ _ _ 130 _ _ _
  have hF : PQ G _ c pr tk inp b L (qF b L n s ρ P) cc := h71
  have fF := (f7.tr f71)
  have hR9 := hR.keep fF hap
  obtain ⟨t9, q9, o9⟩ := hR9.o
  refine sX7_takeTrain_130 hΓ rfl ?_
  refine sX7_takeTrain_131 hΓ 0 0 (Nat.le_of_ble_eq_true rfl) hF.o (fun κ_131 hΓ_131 => sq_hasFailed hΓ_131 hF ?_)
  show AW G κ _ _ 134 _ _ _
  refine sX7_takeTrain_134 hΓ (fun c134 => ?_) (fun c134 => ?_)
  · have e0 : ¬ pR (qF b L n s ρ P) = 0 := fun e => c134 (by rw [e]; rfl)
    refine sX7_takeTrain_148 hΓ (hq _ c ?_ (fF.eq (V := WA pr a) (Or.inl rfl)))
    rw [show (qTr b L s (P, ρ, n)) = ((qF b L n s ρ P), ρ, n) by unfold qTr qRow; rw [if_neg e0, if_neg e0]]
    exact ⟨hF, C, hR9, hS, fun e => absurd e e0⟩
  · have e0 : pR (qF b L n s ρ P) = 0 := by
      cases e9 : pR (qF b L n s ρ P) == 0 with
      | true => exact beq_iff_eq.mp e9
      | false => rw [e9] at c134; exact absurd c134 (by decide)
    obtain ⟨-, hn, -, -, e00⟩ := qF_z e0
    refine sX7_takeTrain_137 hΓ rfl ?_
    refine sX7_takeTrain_138 hΓ rfl ?_
    refine sX7_takeTrain_139 hΓ rfl ?_
    refine sX7_takeTrain_141 hΓ rfl ?_
    refine sX7_takeTrain_143 hΓ rfl ?_
    refine sX7_takeTrain_145 hΓ 2 22 (Nat.le_of_ble_eq_true rfl) o9 (fun κ_a hΓ_a => aw_less (cs2 := 0 + 1 + 1) (ss2 := 0 + 15 + (n + 1)) (by omega) (by omega) (sy_addTrain hΓ_a hR9 (by omega) (fun σ9 c9 h9 f9 => ?_)))
    show AW G κ _ _ 148 _ _ _
    refine sX7_takeTrain_148 hΓ (hq _ c9 ?_ ((fF.eq (V := WA pr a) (Or.inl rfl)).tr (f9.eq (V := WA pr a) (Or.inr rfl))))
    rw [show (qTr b L s (P, ρ, n)) = ((qF b L n s ρ P), rNewT ρ n (nI (qAv b L n P)) (nI (pVl b 1 5 (qB b L n ρ P))) (nI (pVl b 1 9 (qC b L n ρ P))) (nI (qEv b L n s ρ P)), n + 1) by unfold qTr qRow; rw [if_pos e0, if_pos e0]]
    have hcz := hC e00
    exact ⟨hF.keep f9 (Ne.symm hap) (Ne.symm hai), _, h9, hS, fun _ => ⟨add_cr hcz.1 hn (fun i hi => hcz.2 n (Nat.le_refl n) hn i hi), hcz.2.add⟩⟩
end ClassLoad2
