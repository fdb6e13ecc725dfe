/-! the law's loop, its start -/
theorem lp_cmp {n ii : Nat} (hn : n < 2 ^ 30) (hi : ii < 2 ^ 30) : nI n - 6 < nI ii ↔ n < ii + 6 := by
  rw [Int32.lt_iff_toInt_lt, show (nI n - 6 : Int32) = nI n - nI 6 from rfl, pk_sub_toInt hn (by decide), nI_toInt (show ii < 2 ^ 31 by omega)]
  omega
section LawLoop
variable {G : Gl} {κ : Kx} {d : Nat} {Q : Option Value → Hp → Prop} {X : String → Hp → Prop} {A r : Nat → Nat} {s0 x am o n : Nat} {xs : Nat → Int32}
theorem law_loop (hΓ : Ok G κ mL_law (d + 24) Q X) (hN : NcK κ) (hA : ArK G κ s0 n xs) (hn : n ≤ 3072) (hq : ∀ σ, Q (some (.int 1)) σ) : ∀ (k ii : Nat) (σ : Hp) (c : Nat → Nat) (z : Nat → Int32) (B : Nat → Nat → Int32) (f : Nat → Int64) (w5 w6 w7 w8 : Option LV), n < ii + 6 * k + 6 → ii ≤ 3072 → LSt G σ c x am o A r z B f → AW G κ (40 * k) (400 * k) 23 [lR s0, lR x, lR am, lR o, lI (nI ii), w5, w6, w7, w8] [] σ := by
  have hn1 : n < 2 ^ 31 := by omega
  intro k
  induction k with
  | zero =>
    intro ii σ c z B f w5 w6 w7 w8 hk hi hS
    refine sL_law_23 hΓ rfl ?_
    refine sL_law_25 hΓ rfl ?_
    refine sL_law_26 hΓ hA ?_
    refine sL_law_27 hΓ ?_
    refine sL_law_29 hΓ ?_
    refine sL_law_30 hΓ (fun _ => ?_) (fun c30 => absurd ((lp_cmp (by omega) (by omega)).mpr (by omega)) c30)
    exact sL_law_2965 hΓ (sL_law_2966 hΓ (Or.inr rfl) (hq σ))
  | succ k ih =>
    intro ii σ c z B f w5 w6 w7 w8 hk hi hS
    refine sL_law_23 hΓ rfl ?_
    refine sL_law_25 hΓ rfl ?_
    refine sL_law_26 hΓ hA ?_
    refine sL_law_27 hΓ ?_
    refine sL_law_29 hΓ ?_
    refine sL_law_30 hΓ (fun _ => ?_) (fun c30 => ?_)
    · exact sL_law_2965 hΓ (sL_law_2966 hΓ (Or.inr rfl) (hq σ))
    · have hb : ii + 6 ≤ n := Nat.not_lt.mp (fun e => c30 ((lp_cmp (by omega) (by omega)).mpr e))
      refine sL_law_33 hΓ rfl ?_
      refine sL_law_34 hΓ rfl ?_
      refine sL_law_36 hΓ hA (j := ii) rfl (by omega) hn1 ?_
      refine sL_law_37 hΓ ?_
      refine sL_law_39 hΓ ?_
      show AW G κ (40 * k + 40) (400 * k + 400) 40 _ _ _
      have kk : ∀ (σ1 : Hp) (c1 : Nat → Nat) (z1 : Nat → Int32) (B1 : Nat → Nat → Int32) (f1 : Nat → Int64) (v5 v6 v7 v8 : Option LV), LSt G σ1 c1 x am o A r z1 B1 f1 → AW G κ (40 * k) (400 * k) 2959 [lR s0, lR x, lR am, lR o, lI (nI ii), v5, v6, v7, v8] [] σ1 := fun σ1 c1 z1 B1 f1 v5 v6 v7 v8 h => by
        refine sL_law_2959 hΓ rfl ?_
        refine sL_law_2962 hΓ ?_
        have h2 := ih (ii + 6) σ1 c1 z1 B1 f1 v5 v6 v7 v8 (by omega) (by omega) h
        rw [← nI_add ii 6] at h2
        exact h2
      exact sL_law_40 hΓ (fun _ => op_appendText hΓ hN hA hn1 rfl hb hS kk) (fun _ => op_loadRailway hΓ hN hA hn1 rfl hb hS kk) (fun _ => op_errorCode hΓ hN hA hn1 rfl hb hS kk) (fun _ => op_errorOffset hΓ hN hA hn1 rfl hb hS kk) (fun _ => op_tick hΓ hN hA hn1 rfl hb hS kk) (fun _ => op_sectionCount hΓ hN hA hn1 rfl hb hS kk) (fun _ => op_isTunnel hΓ hN hA hn1 rfl hb hS kk) (fun _ => op_hasShort hΓ hN hA hn1 rfl hb hS kk) (fun _ => op_trainIn hΓ hN hA hn1 rfl hb hS kk) (fun _ => op_tunnelCount hΓ hN hA hn1 rfl hb hS kk) (fun _ => op_isPowerOn hΓ hN hA hn1 rfl hb hS kk) (fun _ => op_remainingCutoff hΓ hN hA hn1 rfl hb hS kk) (fun _ => op_cutoffs hΓ hN hA hn1 rfl hb hS kk) (fun _ => op_trainCount hΓ hN hA hn1 rfl hb hS kk) (fun _ => op_address hΓ hN hA hn1 rfl hb hS kk) (fun _ => op_trainWith hΓ hN hA hn1 rfl hb hS kk) (fun _ => op_sectionOf hΓ hN hA hn1 rfl hb hS kk) (fun _ => op_advance hΓ hN hA hn1 rfl hb hS kk) (fun _ => op_speed hΓ hN hA hn1 rfl hb hS kk) (fun _ => op_targetSpeed hΓ hN hA hn1 rfl hb hS kk) (fun _ => op_brightness hΓ hN hA hn1 rfl hb hS kk) (fun _ => op_duty hΓ hN hA hn1 rfl hb hS kk) (fun _ => op_silence hΓ hN hA hn1 rfl hb hS kk) (fun _ => op_sectionsEntered hΓ hN hA hn1 rfl hb hS kk) (fun _ => op_obeyed hΓ hN hA hn1 rfl hb hS kk) (fun _ => op_rejected hΓ hN hA hn1 rfl hb hS kk) (fun _ => op_unheard hΓ hN hA hn1 rfl hb hS kk) (fun _ => op_blockedTicks hΓ hN hA hn1 rfl hb hS kk) (fun _ => op_fastestTrain hΓ hN hA hn1 rfl hb hS kk) (fun _ => op_freeAhead hΓ hN hA hn1 rfl hb hS kk) (fun _ => op_meanSpeed hΓ hN hA hn1 rfl hb hS kk) (fun _ => op_obeyedShare hΓ hN hA hn1 rfl hb hS kk) (fun _ => op_queueLength hΓ hN hA hn1 rfl hb hS kk) (fun _ => op_packetAddress hΓ hN hA hn1 rfl hb hS kk) (fun _ => op_packetCommand hΓ hN hA hn1 rfl hb hS kk) (fun _ => op_isIntact hΓ hN hA hn1 rfl hb hS kk) (fun _ => op_packetsFor hΓ hN hA hn1 rfl hb hS kk) (fun _ => op_sentPackets hΓ hN hA hn1 rfl hb hS kk) (fun _ => op_checkOf hΓ hN hA hn1 rfl hb hS kk) (fun _ => op_gap hΓ hN hA hn1 rfl hb hS kk) (fun _ => op_brakingTicks hΓ hN hA hn1 rfl hb hS kk) (fun _ => op_brakingDistance hΓ hN hA hn1 rfl hb hS kk) (fun _ => op_sectionAfter hΓ hN hA hn1 rfl hb hS kk) (fun _ => op_speedAfter hΓ hN hA hn1 rfl hb hS kk) (fun _ => op_ticksToCutoff hΓ hN hA hn1 rfl hb hS kk) (fun _ => op_sendPacket hΓ hN hA hn1 rfl hb hS kk) (fun _ => op_setSpeed hΓ hN hA hn1 rfl hb hS kk) (fun _ => op_setLamp hΓ hN hA hn1 rfl hb hS kk) (fun _ => op_stop hΓ hN hA hn1 rfl hb hS kk) (fun _ => op_setShort hΓ hN hA hn1 rfl hb hS kk) (fun _ => op_clearQueue hΓ hN hA hn1 rfl hb hS kk) (fun _ => op_readdress hΓ hN hA hn1 rfl hb hS kk) (fun _ => op_passTicks hΓ hN hA hn1 rfl hb hS kk) (fun _ => op_runScript hΓ hN hA hn1 rfl hb hS kk) (fun _ => op_writeTrack hΓ hN hA hn1 rfl hb hS kk) (fun _ => op_outputByte hΓ hN hA hn1 rfl hb hS kk) (fun _ => op_undoableCount hΓ hN hA hn1 rfl hb hS kk) (fun _ => op_undo hΓ hN hA hn1 rfl hb hS kk) (fun _ => op_saveSnapshot hΓ hN hA hn1 rfl hb hS kk) (fun _ => op_restoreSnapshot hΓ hN hA hn1 rfl hb hS kk) (by intros; exact aw_less (by omega) (by omega) (kk σ c z B f w5 w6 w7 w8 hS))
/-- where nothing stood, the law's model stands, or what belongs to it -/
theorem law_body (hΓ : Ok G κ mL_law (d + 24) Q X) (hN : NcK κ) (hA : ArK G κ s0 n xs) (hn : n ≤ 3072) (hq : ∀ σ, Q (some (.int 1)) σ) : AW G κ 21000 209000 0 [lR s0, none, none, none, none, none, none, none, none] [] (fun _ => none) := by
  refine aw_less (cs2 := 40 * 512 + 1 + 11 + 1 + 57 + 1) (ss2 := 400 * 512 + 1 + 3010 + 29 + 867 + 10) (by omega) (by omega) ?_
  refine sL_law_0 hΓ (fun x hx0 hxb => ?_)
  refine sL_law_3 hΓ ?_
  refine sL_law_4 hΓ 57 867 (Nat.le_of_ble_eq_true rfl) (fun κ2 h2 => tq_init (cs := 0) (ss := 0) h2 (c := fun y => y) (hset_same _ _ _) rfl (fun σ1 c1 A C C2 Nh Ch hT hC f1 => ?_))
  show AW G κ _ _ 7 _ _ _
  refine sL_law_7 hΓ ?_
  refine sL_law_8 hΓ (fun am ham hamb => ?_)
  refine sL_law_11 hΓ ?_
  refine sL_law_12 hΓ 11 3010 (Nat.le_of_ble_eq_true rfl) (fun κ2 h2 => sp_mInit (cs := 0) (ss := 0) h2 (hset_same _ _ _) (fun σ3 r hM hk hr => ?_))
  show AW G κ _ _ 15 _ _ _
  refine sL_law_15 hΓ ?_
  refine sL_law_16 hΓ ?_
  refine sL_law_17 hΓ (n := 1) rfl (by decide) (fun o ho hob => ?_)
  refine sL_law_19 hΓ ?_
  refine sL_law_20 hΓ ?_
  refine sL_law_21 hΓ ?_
  have no : ∀ y e, σ1 y = some e → y ≠ am := fun y e hy e9 => by
    rw [e9, ham] at hy
    cases hy
  have h13 : ∀ y e, σ1 y = some e → σ3 y = some e := fun y e hy => hk y e (no y e hy) (by rw [hset_ne (no y e hy)]; exact hy)
  have h34 : ∀ y e, σ3 y = some e → hset σ3 o (eL G 1 (fun _ => 0)) y = some e := fun y e hy => by
    rw [hset_ne (fun e9 => by rw [e9, ho] at hy; cases hy)]
    exact hy
  have hTR : TR mZ0 mB0 2 8 C 0 C2 Nh Ch (nI 0) (fun _ => 0) (nI 0) 0 (-1) 0 (fun _ => 0) 0 :=
    ⟨⟨mRow0_ok, hC⟩, ⟨0, by decide, rfl, rfl, fun i hi => absurd hi (Nat.not_lt_zero i)⟩, ⟨false, rfl, rfl, fun h => by cases h⟩, ⟨0, by decide, rfl, rfl, fun i hi => absurd hi (Nat.not_lt_zero i)⟩, ⟨0, by decide, rfl, rfl, rfl, fun i hi => absurd hi (Nat.not_lt_zero i)⟩, rfl, rfl⟩
  have hR1 : RLx G σ1 c1 x A am mZ0 mB0 := ⟨2, 8, C, 0, C2, Nh, Ch, nI 0, fun _ => 0, nI 0, 0, -1, 0, fun _ => 0, 0, hT am ham, hTR⟩
  obtain ⟨c4, hc4⟩ : ∃ c4 : Nat → Nat, c4 = fun y => Option.elim (σ1 y) am (fun _ => c1 y) := ⟨_, rfl⟩
  have cN : ∀ y, σ1 y = none → c4 y = am := fun y hy => by rw [hc4]; show Option.elim (σ1 y) am (fun _ => c1 y) = am; rw [hy]; rfl
  have cS : ∀ y e, σ1 y = some e → c4 y = c1 y := fun y e hy => by rw [hc4]; show Option.elim (σ1 y) am (fun _ => c1 y) = c1 y; rw [hy]; rfl
  have hS : LSt G (hset σ3 o (eL G 1 (fun _ => 0))) c4 x am o A r mZ0 mB0 (fun _ => 0) := by
    have hcol : c4 am = am ∧ ∀ k, (mArr k ∨ k = 26) → c4 (r k) = am := ⟨cN am ham, fun k hk9 => cN _ (by
      have h9 := hr k hk9
      by_cases e9 : r k = am
      · rw [e9, hset_same] at h9; cases h9
      · rw [hset_ne e9] at h9; exact h9)⟩
    refine ⟨hR1.keep (KF.le (fun y e hy => h34 y e (h13 y e hy)) cS), hM.kp hcol (KF.le h34 (fun _ _ _ => rfl)), hcol, hset_same _ _ _, ?_⟩
    cases h9 : σ1 o with
    | none => exact cN o h9
    | some e => have h10 := h13 o e h9; rw [ho] at h10; cases h10
  exact law_loop hΓ hN hA hn hq 512 0 _ c4 mZ0 mB0 _ none none none none (by omega) (by omega) hS
end LawLoop
