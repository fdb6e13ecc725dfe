/-! the class whole: forecasts -/
section Rel5
variable {G : Gl} {κ : Kx} {d : Nat} {Q : Option Value → Hp → Prop} {X : String → Hp → Prop} {cs ss pc : Nat} {σ σ1 : Hp} {c c1 A : Nat → Nat} {x am n n' n2 n2' s s' a t q p pr tk inp : Nat} {tr : Nat → Nat} {C C' C2 C2' : Ct} {Nh Nh' : Nat → Nat} {Ch Ch' : Nat → Ct} {u u' l l' cd cd' og og' hs hs' ol ol' cc : Int32} {b b' out out' S U K ρ : Nat → Int32} {T : Nat → Nat → Int32} {z z1 : Nat → Int32} {B B1 : Nat → Nat → Int32} {y : Int32} {W : Nat → Prop}
theorem rT_stop (h : ρ 0 = 10000) : rT n s ρ = ρ := by
  unfold rT rTick
  exact congrArg Prod.fst (if_pos h)
theorem rPs_stop {m : Nat} (hV : RV ρ n s) (hm : ρ 0 = nI m) (h9 : m ≤ 10000) : ∀ i, rPs n s ρ (10000 - m + i) = rPs n s ρ (10000 - m)
  | 0 => rfl
  | i + 1 => by
    have ih := rPs_stop hV hm h9 i
    have e0 : rPs n s ρ (10000 - m) 0 = 10000 := by
      rw [rPs_0 hV hm (10000 - m) (by omega), show m + (10000 - m) = 10000 by omega]
      rfl
    show rT n s (rPs n s ρ (10000 - m + i)) = _
    rw [ih, rT_stop e0]
theorem rPs_min {m k : Nat} (hV : RV ρ n s) (hm : ρ 0 = nI m) (h9 : m ≤ 10000) : rPs n s ρ k = rPs n s ρ (if 10000 - m < k then 10000 - m else k) := by
  by_cases e : 10000 - m < k
  · rw [if_pos e, show k = 10000 - m + (k - (10000 - m)) by omega]
    exact rPs_stop hV hm h9 _
  · rw [if_neg e]
theorem until_stop {v : Int32} (h : ρ 0 = 10000) (hv : ¬ v < ρ 5) : ∀ m i, rUntil n s v m i ρ = -1
  | 0, _ => rfl
  | m + 1, i => by
    show (if v < rT n s ρ 5 then nI i else rUntil n s v m (i + 1) (rT n s ρ)) = -1
    rw [rT_stop h, if_neg hv]
    exact until_stop h hv m (i + 1)
theorem tq_trainAfter (hΓ : Ok G κ mX12_trainAfter (d + 7) Q X) (h : TD G σ c x A am n C n2 C2 Nh Ch u b l cd og hs out ol) (hR : TR z B n s C n2 C2 Nh Ch u b l cd og hs out ol) {w : Int32} (hx1 : rIsT (B 0) y = false → X "java/lang/IndexOutOfBoundsException" σ) (hx2 : rIsT (B 0) y = true → rIn w 0 200 = false → X "java/lang/IllegalArgumentException" σ) (hq : (rIsT (B 0) y && rIn w 0 200) = true → ∀ (σ1 : Hp) (c1 : Nat → Nat) (q : Nat) (v : Nat → Int32), TD G σ1 c1 x A am n C n2 C2 Nh Ch u b l cd og hs out ol → KF (NA am) σ c σ1 c1 → σ1 q = some (.inr (9, tV v)) → (∀ i, i < 15 → v i = rPs n s (B 0) w.toNatClampNeg (58 + 15 * y.toNatClampNeg + i)) → Q (some (.ref q)) σ1) : AW G κ (cs + 7 + 1 + 1) (ss + 96 + 6 + 6) 0 [lR x, lI y, lI w, none, none] [] σ := by
  obtain ⟨⟨hV, hC⟩, -⟩ := id hR
  obtain ⟨t, q, p, tr, g, hc⟩ := h.m
  obtain ⟨n1, C1, hS⟩ := h.2.1.2.1
  obtain ⟨d1, d2, d3⟩ := h.2.2.2.2.2.1
  obtain ⟨m, hm, h0⟩ := hV.t0
  have hn := hV.n6
  refine sX12_trainAfter_0 hΓ rfl ?_
  refine sX12_trainAfter_1 hΓ rfl ?_
  refine sX12_trainAfter_2 hΓ 1 6 (Nat.le_of_ble_eq_true rfl) h.o (fun κ_2 hΓ_2 => tx_reqTrain hΓ_2 h.o g hV hC hx1 (fun j hj hy => ?_) )
  show AW G κ _ _ 5 _ _ _
  have eT := (told_ok hV hC (w := 0) hj hy (by decide)).1
  refine sX12_trainAfter_5 hΓ ?_
  refine sX12_trainAfter_6 hΓ rfl ?_
  refine sX12_trainAfter_7 hΓ ?_
  refine sX12_trainAfter_8 hΓ ?_
  refine sX12_trainAfter_11 hΓ 1 6 (Nat.le_of_ble_eq_true rfl) (fun κ_11 hΓ_11 => tx_reqRange hΓ_11 (hx2 eT) (fun e2 => ?_) )
  show AW G κ _ _ 14 _ _ _
  have hq := hq (by rw [eT, e2]; rfl)
  obtain ⟨kw, hkw, hw⟩ := rIn_le (n := 200) (by decide) e2
  refine sX12_trainAfter_14 hΓ rfl ?_
  refine sX12_trainAfter_15 hΓ h.o rfl ?_
  refine sX12_trainAfter_18 hΓ rfl ?_
  refine sX12_trainAfter_19 hΓ h.o rfl ?_
  refine sX12_trainAfter_22 hΓ 7 96 (Nat.le_of_ble_eq_true rfl) hS.o.choose_spec.choose_spec (fun κ_22 hΓ_22 => sy_copyFrom hΓ_22 hS h.m d1 (fun σ1 c1 j1 f1 => ?_) )
  show AW G κ _ _ 25 _ _ _
  have h1 := h.setScr f1 ⟨_, _, j1⟩
  obtain ⟨ts, qs, ps, trs, gs, hcs⟩ := j1
  have hcp : CR (B 0) n s (cCpy C1 C) := by
    obtain ⟨l9, hl9, hQ9⟩ := hV.1.2
    exact hC.cp (by rw [rQ_lt hQ9 hl9]; exact hl9)
  have eS : (cCpy C1 C).1 4 = nI m := hcp.1.1.symm.trans h0
  obtain ⟨tt, htt⟩ : ∃ tt, tt = (if 10000 - m < kw then 10000 - m else kw) := ⟨_, rfl⟩
  have ht9 : m + tt ≤ 10000 := by rw [htt]; split <;> omega
  have ht2 : tt ≤ 200 := by rw [htt]; split <;> omega
  have eM : (if nI 10000 - (cCpy C1 C).1 4 < w then nI 10000 - (cCpy C1 C).1 4 else w) = nI tt := by
    rw [eS, show nI 10000 - nI m = nI (10000 - m) from pk_sub hm, hw, htt]
    by_cases e : 10000 - m < kw
    · rw [if_pos e, if_pos (nI_lt e (by omega))]
    · rw [if_neg e, if_neg (nI_nlt (by omega) (by omega))]
  have eP : rPs n s (B 0) w.toNatClampNeg = rPs n s (B 0) tt := by
    rw [hw, nI_clamp (by omega), htt]
    exact rPs_min hV h0 hm
  refine sX12_trainAfter_25 hΓ rfl ?_
  refine sX12_trainAfter_26 hΓ h1.o rfl ?_
  refine sX12_trainAfter_29 hΓ rfl ?_
  refine sX12_trainAfter_30 hΓ ?_
  refine sX12_trainAfter_33 hΓ rfl ?_
  refine sX12_trainAfter_34 hΓ h1.o rfl ?_
  refine sX12_trainAfter_37 hΓ gs.o rfl ?_
  refine sX12_trainAfter_40 hΓ ?_
  refine sX12_trainAfter_41 hΓ (Nat.le_of_ble_eq_true rfl) ?_
  rw [show (10000 : Int32) = nI 10000 from rfl, eM]
  refine sX12_trainAfter_44 hΓ 0 0 (Nat.le_of_ble_eq_true rfl) gs.o (fun κ_44 hΓ_44 => sr_pass hΓ_44 gs rfl (by omega) (fun e => absurd e ?_) (fun e σ2 g2 f2 => ?_))
  · rw [eS, nI_add]
    exact nI_nlt (a := 10000) ht9 (by omega)
  show AW G κ _ _ 47 _ _ _
  have f3 := f2.kf hcs g2
  have h2 := h1.setScr f3 ⟨_, (cPs n (cCpy C1 C) tt), ts, qs, ps, trs, g2, hcs⟩
  have hcr := pass_cr (t := tt) hV hcp h0 ht9
  refine sX12_trainAfter_47i hΓ ?_
  refine sX12_trainAfter_48 hΓ rfl ?_
  refine sX12_trainAfter_49 hΓ h2.o rfl ?_
  refine sX12_trainAfter_52 hΓ rfl ?_
  refine sX12_trainAfter_53 hΓ 0 0 (Nat.le_of_ble_eq_true rfl) g2.o (fun κ_53 hΓ_53 => sr_trainAt hΓ_53 g2 (fun e9 => absurd e9 ?_) (fun i hi e9 => ?_) )
  · rw [rIn_ok (by omega) hj hy]; decide
  show AW G κ _ _ 56 _ _ _
  refine sX12_trainAfter_56 hΓ ?_
  refine sX12_trainAfter_58 hΓ rfl ?_
  refine sX12_trainAfter_60 hΓ (r := some (trs i)) (fun a9 _ => ?_) (fun c9 => by cases c9)
  refine sX12_trainAfter_67 hΓ rfl ?_
  refine sX12_trainAfter_69 hΓ (hq σ2 c1 (trs i) _ h2 ((h.ea (i := 1) (by decide) f1).tr (h1.ea (i := 1) (by decide) f3)) (g2.tn hi) (fun w1 hw1 => ?_))
  rw [eP, e9, nI_clamp (by omega)]
  have := hcr.2.2.2.1 i hi
  rw [show (cPs n ((cCpy C1 C).1, (cCpy C1 C).2.1, (cCpy C1 C).2.2.1, (cCpy C1 C).2.2.2) tt).2.2.2 i = tw (rPs n s (B 0) tt) i from this, tw_at hw1]
theorem tq_sectionAfter (hΓ : Ok G κ mX12_sectionAfter (d + 8) Q X) (h : TD G σ c x A am n C n2 C2 Nh Ch u b l cd og hs out ol) (hR : TR z B n s C n2 C2 Nh Ch u b l cd og hs out ol) {w : Int32} (hx1 : rIsT (B 0) y = false → X "java/lang/IndexOutOfBoundsException" σ) (hx2 : rIsT (B 0) y = true → rIn w 0 200 = false → X "java/lang/IllegalArgumentException" σ) (hq : (rIsT (B 0) y && rIn w 0 200) = true → ∀ (σ1 : Hp) (c1 : Nat → Nat), TD G σ1 c1 x A am n C n2 C2 Nh Ch u b l cd og hs out ol → KF (NA am) σ c σ1 c1 → Q (some (.int (rAft (B 0) n s y w 3))) σ1) : AW G κ (cs + 9) (ss + 108) 0 [lR x, lI y, lI w] [] σ := by
  refine sX12_sectionAfter_0 hΓ rfl ?_
  refine sX12_sectionAfter_1 hΓ rfl ?_
  refine sX12_sectionAfter_2 hΓ rfl ?_
  refine sX12_sectionAfter_3 hΓ 9 108 (Nat.le_of_ble_eq_true rfl) h.o (fun κ_3 hΓ_3 => tq_trainAfter (cs := 0) (ss := 0) hΓ_3 h hR hx1 hx2 (fun ec σ1 c1 q v h1 f1 hv ev => ?_) )
  show AW G κ _ _ 6 _ _ _
  have hq := hq ec σ1 c1 h1 f1
  unfold rAft at hq
  rw [if_pos ec, ← ev 3 (by decide)] at hq
  refine sX12_sectionAfter_6 hΓ hv rfl ?_
  exact sX12_sectionAfter_9 hΓ hq
theorem tq_speedAfter (hΓ : Ok G κ mX12_speedAfter (d + 8) Q X) (h : TD G σ c x A am n C n2 C2 Nh Ch u b l cd og hs out ol) (hR : TR z B n s C n2 C2 Nh Ch u b l cd og hs out ol) {w : Int32} (hx1 : rIsT (B 0) y = false → X "java/lang/IndexOutOfBoundsException" σ) (hx2 : rIsT (B 0) y = true → rIn w 0 200 = false → X "java/lang/IllegalArgumentException" σ) (hq : (rIsT (B 0) y && rIn w 0 200) = true → ∀ (σ1 : Hp) (c1 : Nat → Nat), TD G σ1 c1 x A am n C n2 C2 Nh Ch u b l cd og hs out ol → KF (NA am) σ c σ1 c1 → Q (some (.int (rAft (B 0) n s y w 5))) σ1) : AW G κ (cs + 9) (ss + 108) 0 [lR x, lI y, lI w] [] σ := by
  refine sX12_speedAfter_0 hΓ rfl ?_
  refine sX12_speedAfter_1 hΓ rfl ?_
  refine sX12_speedAfter_2 hΓ rfl ?_
  refine sX12_speedAfter_3 hΓ 9 108 (Nat.le_of_ble_eq_true rfl) h.o (fun κ_3 hΓ_3 => tq_trainAfter (cs := 0) (ss := 0) hΓ_3 h hR hx1 hx2 (fun ec σ1 c1 q v h1 f1 hv ev => ?_) )
  show AW G κ _ _ 6 _ _ _
  have hq := hq ec σ1 c1 h1 f1
  unfold rAft at hq
  rw [if_pos ec, ← ev 5 (by decide)] at hq
  refine sX12_speedAfter_6 hΓ hv rfl ?_
  exact sX12_speedAfter_9 hΓ hq
theorem tq_ticksToCutoff (hΓ : Ok G κ mX12_ticksToCutoff (d + 5) Q X) (h : TD G σ c x A am n C n2 C2 Nh Ch u b l cd og hs out ol) (hR : TR z B n s C n2 C2 Nh Ch u b l cd og hs out ol) (hq : ∀ (σ1 : Hp) (c1 : Nat → Nat), TD G σ1 c1 x A am n C n2 C2 Nh Ch u b l cd og hs out ol → KF (NA am) σ c σ1 c1 → Q (some (.int (rUntil n s (B 0 5) 200 1 (B 0)))) σ1) : AW G κ (cs + 7) (ss + 96) 0 [lR x, none] [] σ := by
  obtain ⟨⟨hV, hC⟩, -⟩ := id hR
  obtain ⟨n1, C1, hS⟩ := h.2.1.2.1
  obtain ⟨d1, d2, d3⟩ := h.2.2.2.2.2.1
  refine sX12_ticksToCutoff_0 hΓ rfl ?_
  refine sX12_ticksToCutoff_1 hΓ h.o rfl ?_
  refine sX12_ticksToCutoff_4 hΓ rfl ?_
  refine sX12_ticksToCutoff_5 hΓ h.o rfl ?_
  refine sX12_ticksToCutoff_8 hΓ 7 96 (Nat.le_of_ble_eq_true rfl) hS.o.choose_spec.choose_spec (fun κ_8 hΓ_8 => sy_copyFrom hΓ_8 hS h.m d1 (fun σ1 c1 j1 f1 => ?_) )
  show AW G κ _ _ 11 _ _ _
  have h1 := h.setScr f1 ⟨_, _, j1⟩
  have g1 := h.ea (i := 1) (by decide) f1
  have hcp : CR (B 0) n s (cCpy C1 C) := by
    obtain ⟨l9, hl9, hQ9⟩ := hV.1.2
    exact hC.cp (by rw [rQ_lt hQ9 hl9]; exact hl9)
  suffices loop : ∀ (m i : Nat) (y : Int32) (σ2 : Hp) (C3 : Ct) (ρ : Nat → Int32), i + m = 201 → y = nI i → TD G σ2 c1 x A am n C n2 C2 Nh Ch u b l cd og hs out ol → KF (NA am) σ c σ2 c1 → RY G σ2 c1 (A 1) n C3 → CR ρ n s C3 → RV ρ n s → ¬ B 0 5 < ρ 5 → rUntil n s (B 0 5) m i ρ = rUntil n s (B 0 5) 200 1 (B 0) → AW G κ cs ss 13 [lR x, lI y] [] σ2 by
    refine sX12_ticksToCutoff_11 hΓ ?_
    refine sX12_ticksToCutoff_12 hΓ ?_
    exact loop 200 1 1 σ1 _ (B 0) rfl rfl h1 g1 j1 hcp hV Int32.lt_irrefl rfl
  intro m
  induction m with
  | zero =>
    intro i y σ2 C3 ρ hi hy h2 g2 j2 hc2 hV2 hb eU
    refine sX12_ticksToCutoff_13 hΓ rfl ?_
    refine sX12_ticksToCutoff_14 hΓ ?_
    refine sX12_ticksToCutoff_17 hΓ (fun _ => ?_) (fun c17 => absurd (by rw [hy, show i = 201 by omega]; decide) c17)
    refine sX12_ticksToCutoff_56 hΓ ?_
    exact sX12_ticksToCutoff_57 hΓ (by rw [show (-1 : Int32) = rUntil n s (B 0 5) 200 1 (B 0) from eU]; exact hq σ2 c1 h2 g2)
  | succ m ih =>
    intro i y σ2 C3 ρ hi hy h2 g2 j2 hc2 hV2 hb eU
    obtain ⟨ts, qs, ps, trs, gs, hcs⟩ := j2
    obtain ⟨mm, hmm, h0⟩ := hV2.t0
    have eS : C3.1 4 = nI mm := hc2.1.1.symm.trans h0
    obtain ⟨tm, qm, om⟩ := h2.m.o
    refine sX12_ticksToCutoff_13 hΓ rfl ?_
    refine sX12_ticksToCutoff_14 hΓ ?_
    refine sX12_ticksToCutoff_17 hΓ (fun c17 => absurd (nI_ltz (i := 200) rfl hy (by decide) (by omega) c17) (by omega)) (fun _ => ?_)
    refine sX12_ticksToCutoff_20 hΓ rfl ?_
    refine sX12_ticksToCutoff_21 hΓ h2.o rfl ?_
    refine sX12_ticksToCutoff_24 hΓ ?_
    refine sX12_ticksToCutoff_25 hΓ 0 0 (Nat.le_of_ble_eq_true rfl) gs.o (fun κ_25 hΓ_25 => sr_pass hΓ_25 gs (k := 1) rfl (by decide) (fun e => ?_) (fun e σ3 g3 f3 => ?_))
    · show AW G κ _ _ 28 _ _ _
      have e9 : mm = 10000 := by
        rw [eS, show nI mm + 1 = nI (mm + 1) from nI_add mm 1] at e
        have := nI_ltz (i := 10000) rfl rfl (by decide) (by omega) e
        omega
      have hq := hq σ2 c1 h2 g2
      rw [← eU, until_stop (by rw [h0, e9]; rfl) hb] at hq
      refine sX12_ticksToCutoff_28 hΓ (fun _ => ?_) (fun c28 => absurd rfl c28)
      refine sX12_ticksToCutoff_56 hΓ ?_
      exact sX12_ticksToCutoff_57 hΓ hq
    · show AW G κ _ _ 28 _ _ _
      have h9 : mm + 1 ≤ 10000 := by
        rw [eS, show nI mm + 1 = nI (mm + 1) from nI_add mm 1] at e
        exact Nat.le_of_not_lt (fun e9 => e (nI_lt (a := 10000) e9 (by omega)))
      have f4 := f3.kf hcs g3
      have h3 := h2.setScr f4 ⟨_, (cPs n C3 1), ts, qs, ps, trs, g3, hcs⟩
      have g4 := g2.tr (h2.ea (i := 1) (by decide) f4)
      have hcr := pass_cr (t := 1) hV2 hc2 h0 h9
      have hV3 := hV2.rPs 1
      obtain ⟨tm, qm, om⟩ := h3.m.o
      have eU2 : (if B 0 5 < rPs n s ρ 1 5 then nI i else rUntil n s (B 0 5) m (i + 1) (rPs n s ρ 1)) = rUntil n s (B 0 5) 200 1 (B 0) := eU
      have eA : (cPs n C3 1).1 6 = rPs n s ρ 1 5 := hcr.1.2.2.2.2.1.symm
      have eB : C.1 6 = B 0 5 := hC.1.2.2.2.2.1.symm
      refine sX12_ticksToCutoff_28 hΓ (fun c28 => absurd c28 (by decide)) (fun _ => ?_)
      refine sX12_ticksToCutoff_31 hΓ rfl ?_
      refine sX12_ticksToCutoff_32 hΓ h3.o rfl ?_
      refine sX12_ticksToCutoff_35 hΓ g3.o rfl ?_
      refine sX12_ticksToCutoff_38 hΓ rfl ?_
      refine sX12_ticksToCutoff_39 hΓ h3.o rfl ?_
      refine sX12_ticksToCutoff_42 hΓ om rfl ?_
      refine sX12_ticksToCutoff_45 hΓ (fun c45 => ?_) (fun c45 => ?_)
      · have c9 : ¬ B 0 5 < rPs n s ρ 1 5 := by
          rw [← eA, ← eB]
          exact Int32.not_lt.mpr c45
        rw [if_neg c9] at eU2
        refine sX12_ticksToCutoff_50 hΓ rfl ?_
        refine sX12_ticksToCutoff_53 hΓ ?_
        exact ih (i + 1) _ σ3 (cPs n C3 1) (rPs n s ρ 1) (by omega) (lp_1 hy) h3 g4 ⟨ts, qs, ps, trs, g3, hcs⟩ hcr hV3 c9 eU2
      · have c9 : B 0 5 < rPs n s ρ 1 5 := by
          rw [← eA, ← eB]
          exact Int32.not_le.mp c45
        rw [if_pos c9] at eU2
        have hq := hq σ3 c1 h3 g4
        rw [← eU2, ← hy] at hq
        refine sX12_ticksToCutoff_48 hΓ rfl ?_
        exact sX12_ticksToCutoff_49 hΓ hq
end Rel5
