/-! the class whole: what it wants of its arguments, what it tells -/
abbrev tdV (A : Nat → Nat) (hs ol : Int32) : List Value := [.ref (A 0), .ref (A 1), .ref (A 2), .int hs, .ref (A 4), .ref (A 5), .ref (A 6), .ref (A 7), .ref (A 8), .int ol]
theorem told_ok {ρ : Nat → Int32} {n s : Nat} {C : Ct} (hV : RV ρ n s) (hC : CR ρ n s C) {k w : Nat} {y : Int32} (hk : k < n) (hy : y = nI k) (hw : w < 15) : rIsT ρ y = true ∧ rTold ρ y w = C.2.2.2 k w := by
  have h3 : ρ 3 = nI n := hV.1.1.1
  have hn := hV.1.1.2.1
  have e : rIsT ρ y = true := by unfold rIsT; rw [h3]; exact rIn_ok (by omega) hk hy
  refine ⟨e, ?_⟩
  unfold rTold
  rw [if_pos e, hy, nI_clamp (by omega), hC.2.2.2.1 k hk, tw_at hw]
section ClassTell
variable {G : Gl} {κ : Kx} {d : Nat} {Q : Option Value → Hp → Prop} {X : String → Hp → Prop} {cs ss pc : Nat} {σ : Hp} {x t q p n s : Nat} {tr A : Nat → Nat} {hs ol : Int32} {C : Ct} {ρ : Nat → Int32} {y : Int32}
theorem tx_reqSection (hΓ : Ok G κ mX12_requireSection (d + 6) Q X) (hX : σ x = some (.inr (10, tdV A hs ol))) (g : RG G σ (A 0) t q p tr n C.1 C.2.1 C.2.2.1 C.2.2.2) (hV : RV ρ n s) (hC : CR ρ n s C) (hx : rIsS ρ y = false → X "java/lang/IndexOutOfBoundsException" σ) (hq : rIsS ρ y = true → Q none σ) : AW G κ (cs + 1) (ss + 6) 0 [lR x, lI y] [] σ := by
  have e1 : C.1 0 = ρ 1 := hC.1.2.1.symm
  obtain ⟨h1, h4, h24⟩ := hV.s4
  refine sX12_requireSection_0 hΓ rfl ?_
  refine sX12_requireSection_1 hΓ hX rfl ?_
  refine sX12_requireSection_4 hΓ rfl ?_
  refine sX12_requireSection_5 hΓ 0 0 (Nat.le_of_ble_eq_true rfl) g.o (fun κ_5 hΓ_5 => sr_hasSection hΓ_5 g ?_ ⟨s, e1.trans h1, h4, h24⟩ )
  show AW G κ _ _ 8 _ _ _
  rw [e1]
  refine sX12_requireSection_8 hΓ (fun c8 => ?_) (fun c8 => ?_)
  · have e := bI_n0 c8
    exact sX12_requireSection_22 hΓ (hq e)
  · have e := bI_0 c8
    exact sX12_requireSection_11 hΓ (Nat.le_of_ble_eq_true rfl) (hx e)
theorem tx_reqTrain (hΓ : Ok G κ mX12_requireTrain (d + 6) Q X) (hX : σ x = some (.inr (10, tdV A hs ol))) (g : RG G σ (A 0) t q p tr n C.1 C.2.1 C.2.2.1 C.2.2.2) (hV : RV ρ n s) (hC : CR ρ n s C) (hx : rIsT ρ y = false → X "java/lang/IndexOutOfBoundsException" σ) (hq : ∀ k, k < n → y = nI k → Q (some (.ref (tr k))) σ) : AW G κ (cs + 1) (ss + 6) 0 [lR x, lI y, none] [] σ := by
  have h3 : ρ 3 = nI n := hV.1.1.1
  refine sX12_requireTrain_0 hΓ rfl ?_
  refine sX12_requireTrain_1 hΓ hX rfl ?_
  refine sX12_requireTrain_4 hΓ rfl ?_
  refine sX12_requireTrain_5 hΓ 0 0 (Nat.le_of_ble_eq_true rfl) g.o (fun κ_5 hΓ_5 => sr_trainAt hΓ_5 g (fun e => ?_) (fun k hk e => ?_) )
  · show AW G κ _ _ 8 _ _ _
    refine sX12_requireTrain_8q hΓ (r := none) ?_
    refine sX12_requireTrain_9q hΓ rfl ?_
    refine sX12_requireTrain_10 hΓ (fun a c => by cases c) (fun _ => ?_)
    exact sX12_requireTrain_13 hΓ (Nat.le_of_ble_eq_true rfl) (hx (by unfold rIsT; rw [h3]; exact e))
  · show AW G κ _ _ 8 _ _ _
    refine sX12_requireTrain_8 hΓ ?_
    refine sX12_requireTrain_9 hΓ rfl ?_
    refine sX12_requireTrain_10 hΓ (r := some (tr k)) (fun a _ => ?_) (fun c => by cases c)
    refine sX12_requireTrain_24 hΓ rfl ?_
    exact sX12_requireTrain_25 hΓ (hq k hk e)
theorem tx_reqPacket (hΓ : Ok G κ mX12_requirePacket (d + 6) Q X) (hX : σ x = some (.inr (10, tdV A hs ol))) (g : RG G σ (A 0) t q p tr n C.1 C.2.1 C.2.2.1 C.2.2.2) (hV : RV ρ n s) (hC : CR ρ n s C) (hx : rIsP ρ y = false → X "java/lang/IndexOutOfBoundsException" σ) (hq : ∀ k, k < rQ ρ → y = nI k → Q (some (.int (C.2.2.1 k))) σ) : AW G κ (cs + 1) (ss + 6) 0 [lR x, lI y, none] [] σ := by
  obtain ⟨l, hl, hQ⟩ := hV.ql
  have hU : C.2.1 1 = nI l := hC.1.2.2.2.2.2.1.symm.trans hQ
  have hr : rQ ρ = l := rQ_lt hQ hl
  refine sX12_requirePacket_0 hΓ rfl ?_
  refine sX12_requirePacket_1 hΓ hX rfl ?_
  refine sX12_requirePacket_4 hΓ g.o rfl ?_
  refine sX12_requirePacket_7 hΓ rfl ?_
  refine sX12_requirePacket_8 hΓ 0 0 (Nat.le_of_ble_eq_true rfl) g.qg.1 (fun κ_8 hΓ_8 => su_packetAt hΓ_8 g.qg hU hl (fun e => ?_) (fun k hk e => ?_) )
  · show AW G κ _ _ 11 _ _ _
    refine sX12_requirePacket_11 hΓ ?_
    refine sX12_requirePacket_12 hΓ rfl ?_
    refine sX12_requirePacket_13 hΓ ?_
    refine sX12_requirePacket_14 hΓ (fun c => absurd rfl c) (fun _ => ?_)
    exact sX12_requirePacket_17 hΓ (Nat.le_of_ble_eq_true rfl) (hx (by unfold rIsP; rw [hQ]; exact e))
  · show AW G κ _ _ 11 _ _ _
    refine sX12_requirePacket_11 hΓ ?_
    refine sX12_requirePacket_12 hΓ rfl ?_
    refine sX12_requirePacket_13 hΓ ?_
    refine sX12_requirePacket_14 hΓ (fun c => ?_) (fun c => absurd c (hC.pA hV (by omega)).2.2.2)
    refine sX12_requirePacket_28 hΓ rfl ?_
    exact sX12_requirePacket_29 hΓ (hq k (by omega) e)
theorem tx_reqRoom (hΓ : Ok G κ mX12_requireRoomInQueue (d + 6) Q X) (hX : σ x = some (.inr (10, tdV A hs ol))) (g : RG G σ (A 0) t q p tr n C.1 C.2.1 C.2.2.1 C.2.2.2) (hV : RV ρ n s) (hC : CR ρ n s C) (hx : ρ 6 = 12 → X "java/lang/IllegalStateException" σ) (hq : ¬ ρ 6 = 12 → Q none σ) : AW G κ (cs + 1) (ss + 6) 0 [lR x] [] σ := by
  obtain ⟨l, hl, hQ⟩ := hV.ql
  have hU : C.2.1 1 = nI l := hC.1.2.2.2.2.2.1.symm.trans hQ
  have hr : rQ ρ = l := rQ_lt hQ hl
  have h12 : ρ 6 = 12 ↔ l = 12 := by
    rw [hQ]
    exact nI_eq (b := 12) (by omega) (by decide)
  refine sX12_requireRoomInQueue_0 hΓ rfl ?_
  refine sX12_requireRoomInQueue_1 hΓ hX rfl ?_
  refine sX12_requireRoomInQueue_4 hΓ g.o rfl ?_
  refine sX12_requireRoomInQueue_7 hΓ 0 0 (Nat.le_of_ble_eq_true rfl) g.qg.1 (fun κ_7 hΓ_7 => su_isFull hΓ_7 g.qg hU hl ?_)
  show AW G κ _ _ 10 _ _ _
  refine sX12_requireRoomInQueue_10 hΓ (fun c10 => ?_) (fun c10 => ?_)
  · have e := bI_0 c10
    exact sX12_requireRoomInQueue_24 hΓ (hq (fun e9 => absurd (h12.mp e9) (of_decide_eq_false e)))
  · have e := bI_n0 c10
    exact sX12_requireRoomInQueue_13 hΓ (Nat.le_of_ble_eq_true rfl) (hx (h12.mpr (of_decide_eq_true e)))
theorem tx_reqRange (hΓ : Ok G κ mX12_requireRange (d + 6) Q X) {lo hi : Int32} (hx : rIn y lo hi = false → X "java/lang/IllegalArgumentException" σ) (hq : rIn y lo hi = true → Q none σ) : AW G κ (cs + 1) (ss + 6) 0 [lI y, lI lo, lI hi] [] σ := by
  refine sX12_requireRange_0 hΓ rfl ?_
  refine sX12_requireRange_1 hΓ rfl ?_
  refine sX12_requireRange_2 hΓ (fun c2 => ?_) (fun c2 => ?_)
  · exact sX12_requireRange_10 hΓ (Nat.le_of_ble_eq_true rfl) (hx (rIn_lo c2))
  refine sX12_requireRange_5 hΓ rfl ?_
  refine sX12_requireRange_6 hΓ rfl ?_
  refine sX12_requireRange_7 hΓ (fun c7 => ?_) (fun c7 => ?_)
  · exact sX12_requireRange_21 hΓ (hq (rIn_in c2 (Int32.not_lt.mpr c7)))
  · exact sX12_requireRange_10 hΓ (Nat.le_of_ble_eq_true rfl) (hx (rIn_hi (Int32.not_le.mp c7)))
theorem tt_tick (hΓ : Ok G κ mX12_tick (d + 0) Q X) (hX : σ x = some (.inr (10, tdV A hs ol))) (g : RG G σ (A 0) t q p tr n C.1 C.2.1 C.2.2.1 C.2.2.2) (hV : RV ρ n s) (hC : CR ρ n s C) (hq : Q (some (.int (ρ 0))) σ) : AW G κ cs ss 0 [lR x] [] σ := by
  rw [show (ρ 0) = C.1 4 from hC.1.1] at hq
  refine sX12_tick_0 hΓ rfl ?_
  refine sX12_tick_1 hΓ hX rfl ?_
  refine sX12_tick_4 hΓ g.o rfl ?_
  exact sX12_tick_7 hΓ hq
theorem tt_sectionCount (hΓ : Ok G κ mX12_sectionCount (d + 0) Q X) (hX : σ x = some (.inr (10, tdV A hs ol))) (g : RG G σ (A 0) t q p tr n C.1 C.2.1 C.2.2.1 C.2.2.2) (hV : RV ρ n s) (hC : CR ρ n s C) (hq : Q (some (.int (ρ 1))) σ) : AW G κ cs ss 0 [lR x] [] σ := by
  rw [show (ρ 1) = C.1 0 from hC.1.2.1] at hq
  refine sX12_sectionCount_0 hΓ rfl ?_
  refine sX12_sectionCount_1 hΓ hX rfl ?_
  refine sX12_sectionCount_4 hΓ g.o rfl ?_
  exact sX12_sectionCount_7 hΓ hq
theorem tt_remainingCutoff (hΓ : Ok G κ mX12_remainingCutoff (d + 0) Q X) (hX : σ x = some (.inr (10, tdV A hs ol))) (g : RG G σ (A 0) t q p tr n C.1 C.2.1 C.2.2.1 C.2.2.2) (hV : RV ρ n s) (hC : CR ρ n s C) (hq : Q (some (.int (ρ 4))) σ) : AW G κ cs ss 0 [lR x] [] σ := by
  rw [show (ρ 4) = C.1 5 from hC.1.2.2.2.1] at hq
  refine sX12_remainingCutoff_0 hΓ rfl ?_
  refine sX12_remainingCutoff_1 hΓ hX rfl ?_
  refine sX12_remainingCutoff_4 hΓ g.o rfl ?_
  exact sX12_remainingCutoff_7 hΓ hq
theorem tt_cutoffs (hΓ : Ok G κ mX12_cutoffs (d + 0) Q X) (hX : σ x = some (.inr (10, tdV A hs ol))) (g : RG G σ (A 0) t q p tr n C.1 C.2.1 C.2.2.1 C.2.2.2) (hV : RV ρ n s) (hC : CR ρ n s C) (hq : Q (some (.int (ρ 5))) σ) : AW G κ cs ss 0 [lR x] [] σ := by
  rw [show (ρ 5) = C.1 6 from hC.1.2.2.2.2.1] at hq
  refine sX12_cutoffs_0 hΓ rfl ?_
  refine sX12_cutoffs_1 hΓ hX rfl ?_
  refine sX12_cutoffs_4 hΓ g.o rfl ?_
  exact sX12_cutoffs_7 hΓ hq
theorem tt_trainCount (hΓ : Ok G κ mX12_trainCount (d + 0) Q X) (hX : σ x = some (.inr (10, tdV A hs ol))) (g : RG G σ (A 0) t q p tr n C.1 C.2.1 C.2.2.1 C.2.2.2) (hV : RV ρ n s) (hC : CR ρ n s C) (hq : Q (some (.int (ρ 3))) σ) : AW G κ cs ss 0 [lR x] [] σ := by
  rw [show (ρ 3) = nI n from hV.1.1.1] at hq
  refine sX12_trainCount_0 hΓ rfl ?_
  refine sX12_trainCount_1 hΓ hX rfl ?_
  refine sX12_trainCount_4 hΓ g.o rfl ?_
  refine sX12_trainCount_7q hΓ (Or.inr rfl) g.ts ?_
  exact sX12_trainCount_8 hΓ hq
theorem tt_queueLength (hΓ : Ok G κ mX12_queueLength (d + 0) Q X) (hX : σ x = some (.inr (10, tdV A hs ol))) (g : RG G σ (A 0) t q p tr n C.1 C.2.1 C.2.2.1 C.2.2.2) (hV : RV ρ n s) (hC : CR ρ n s C) (hq : Q (some (.int (ρ 6))) σ) : AW G κ cs ss 0 [lR x] [] σ := by
  rw [show (ρ 6) = C.2.1 1 from hC.1.2.2.2.2.2.1] at hq
  refine sX12_queueLength_0 hΓ rfl ?_
  refine sX12_queueLength_1 hΓ hX rfl ?_
  refine sX12_queueLength_4 hΓ g.o rfl ?_
  refine sX12_queueLength_7 hΓ g.qg.1 rfl ?_
  exact sX12_queueLength_10 hΓ hq
theorem tt_sentPackets (hΓ : Ok G κ mX12_sentPackets (d + 0) Q X) (hX : σ x = some (.inr (10, tdV A hs ol))) (g : RG G σ (A 0) t q p tr n C.1 C.2.1 C.2.2.1 C.2.2.2) (hV : RV ρ n s) (hC : CR ρ n s C) (hq : Q (some (.int (ρ 8))) σ) : AW G κ cs ss 0 [lR x] [] σ := by
  rw [show (ρ 8) = C.2.1 3 from hC.1.2.2.2.2.2.2.2.1] at hq
  refine sX12_sentPackets_0 hΓ rfl ?_
  refine sX12_sentPackets_1 hΓ hX rfl ?_
  refine sX12_sentPackets_4 hΓ g.o rfl ?_
  refine sX12_sentPackets_7 hΓ g.qg.1 rfl ?_
  exact sX12_sentPackets_10 hΓ hq
theorem tt_tunnelCount (hΓ : Ok G κ mX12_tunnelCount (d + 1) Q X) (hX : σ x = some (.inr (10, tdV A hs ol))) (g : RG G σ (A 0) t q p tr n C.1 C.2.1 C.2.2.1 C.2.2.2) (hV : RV ρ n s) (hC : CR ρ n s C) (hq : Q (some (.int (rCnt ρ 10 s))) σ) : AW G κ cs ss 0 [lR x] [] σ := by
  rw [← bk_cnt hV (Or.inl rfl) hC.2.1.1 (fun j h1 h2 => (hC.2.2.1 j h1 h2).1)] at hq
  refine sX12_tunnelCount_0 hΓ rfl ?_
  refine sX12_tunnelCount_1 hΓ hX rfl ?_
  refine sX12_tunnelCount_4 hΓ g.o rfl ?_
  refine sX12_tunnelCount_7 hΓ 0 0 (Nat.le_of_ble_eq_true rfl) (fun κ_7 hΓ_7 => sj_bitCount hΓ_7 ?_)
  show AW G κ _ _ 10 _ _ _
  exact sX12_tunnelCount_10 hΓ hq
theorem tt_isPowerOn (hΓ : Ok G κ mX12_isPowerOn (d + 1) Q X) (hX : σ x = some (.inr (10, tdV A hs ol))) (g : RG G σ (A 0) t q p tr n C.1 C.2.1 C.2.2.1 C.2.2.2) (hV : RV ρ n s) (hC : CR ρ n s C) (hq : Q (some (.int (bI (ρ 4 == 0)))) σ) : AW G κ cs ss 0 [lR x] [] σ := by
  rw [show ρ 4 = C.1 5 from hC.1.2.2.2.1] at hq
  refine sX12_isPowerOn_0 hΓ rfl ?_
  refine sX12_isPowerOn_1 hΓ hX rfl ?_
  refine sX12_isPowerOn_4 hΓ 0 0 (Nat.le_of_ble_eq_true rfl) g.o (fun κ_4 hΓ_4 => sr_isPowered hΓ_4 g ?_)
  show AW G κ _ _ 7 _ _ _
  exact sX12_isPowerOn_7 hΓ (bI_01 _) hq
theorem tt_trainWith (hΓ : Ok G κ mX12_trainWith (d + 1) Q X) (hX : σ x = some (.inr (10, tdV A hs ol))) (g : RG G σ (A 0) t q p tr n C.1 C.2.1 C.2.2.1 C.2.2.2) (hV : RV ρ n s) (hC : CR ρ n s C) (hq : Q (some (.int (oI (rFirst ρ n 0 y)))) σ) : AW G κ cs ss 0 [lR x, lI y] [] σ := by
  rw [← cFst_tw (T := C.2.2.2) (by decide) hC.2.2.2.1] at hq
  refine sX12_trainWith_0 hΓ rfl ?_
  refine sX12_trainWith_1 hΓ hX rfl ?_
  refine sX12_trainWith_4 hΓ rfl ?_
  refine sX12_trainWith_5 hΓ 0 0 (Nat.le_of_ble_eq_true rfl) g.o (fun κ_5 hΓ_5 => sr_numberWith hΓ_5 g ?_)
  show AW G κ _ _ 8 _ _ _
  exact sX12_trainWith_8 hΓ hq
theorem tt_fastestTrain (hΓ : Ok G κ mX12_fastestTrain (d + 1) Q X) (hX : σ x = some (.inr (10, tdV A hs ol))) (g : RG G σ (A 0) t q p tr n C.1 C.2.1 C.2.2.1 C.2.2.2) (hV : RV ρ n s) (hC : CR ρ n s C) (hq : Q (some (.int (nI (rFast ρ (n - 1))))) σ) : AW G κ cs ss 0 [lR x] [] σ := by
  have h1 : 1 ≤ n := hV.2.1
  have e := fast_tw hV.2.2 g.n6 hC.2.2.2.1 (n - 1) (by omega)
  rw [show n - 1 + 1 = n by omega] at e
  rw [show rFast ρ (n - 1) = (cFast C.2.2.2 n).1 by rw [e]] at hq
  refine sX12_fastestTrain_0 hΓ rfl ?_
  refine sX12_fastestTrain_1 hΓ hX rfl ?_
  refine sX12_fastestTrain_4 hΓ 0 0 (Nat.le_of_ble_eq_true rfl) g.o (fun κ_4 hΓ_4 => sr_numberOfFastest hΓ_4 g ?_)
  show AW G κ _ _ 7 _ _ _
  exact sX12_fastestTrain_7 hΓ hq
theorem tt_gap (hΓ : Ok G κ mX12_gap (d + 1) Q X) (hX : σ x = some (.inr (10, tdV A hs ol))) (g : RG G σ (A 0) t q p tr n C.1 C.2.1 C.2.2.1 C.2.2.2) (hV : RV ρ n s) (hC : CR ρ n s C) (hq : Q (some (.int (rGap ρ n))) σ) : AW G κ cs ss 0 [lR x] [] σ := by
  unfold rGap at hq
  rw [← pairs_tw (T := C.2.2.2) hC.2.2.2.1, ← abs_tw, hC.1.2.2.2.2.2.2.1, hC.1.2.2.2.2.2.2.2.1, hC.1.2.2.2.2.2.2.2.2, hC.1.2.2.2.2.2.1] at hq
  refine sX12_gap_0 hΓ rfl ?_
  refine sX12_gap_1 hΓ hX rfl ?_
  refine sX12_gap_4 hΓ g.o rfl ?_
  refine sX12_gap_7 hΓ 0 0 (Nat.le_of_ble_eq_true rfl) g.qg.1 (fun κ_7 hΓ_7 => su_surplus hΓ_7 g.qg ?_)
  show AW G κ _ _ 10 _ _ _
  refine sX12_gap_10 hΓ (Nat.le_of_ble_eq_true rfl) ?_
  refine sX12_gap_13 hΓ rfl ?_
  refine sX12_gap_14 hΓ hX rfl ?_
  refine sX12_gap_17 hΓ 0 0 (Nat.le_of_ble_eq_true rfl) g.o (fun κ_17 hΓ_17 => sr_pairs hΓ_17 g ?_)
  show AW G κ _ _ 20 _ _ _
  refine sX12_gap_20 hΓ ?_
  exact sX12_gap_21 hΓ hq
theorem tt_isTunnel (hΓ : Ok G κ mX12_isTunnel (d + 7) Q X) (hX : σ x = some (.inr (10, tdV A hs ol))) (g : RG G σ (A 0) t q p tr n C.1 C.2.1 C.2.2.1 C.2.2.2) (hV : RV ρ n s) (hC : CR ρ n s C) (hx : rIsS ρ y = false → X "java/lang/IndexOutOfBoundsException" σ) (hq : rIsS ρ y = true → Q (some (.int (bI (rFlag ρ 10 y)))) σ) : AW G κ (cs + 1) (ss + 6) 0 [lR x, lI y] [] σ := by
  refine sX12_isTunnel_0 hΓ rfl ?_
  refine sX12_isTunnel_1 hΓ rfl ?_
  refine sX12_isTunnel_2 hΓ 1 6 (Nat.le_of_ble_eq_true rfl) hX (fun κ_2 hΓ_2 => tx_reqSection hΓ_2 hX g hV hC hx (fun e => ?_) )
  show AW G κ _ _ 5 _ _ _
  have hq := hq e
  have hS := hV.s4
  have e9 := e
  unfold rIsS at e9
  rw [hS.1] at e9
  obtain ⟨k, hk, hy⟩ := rIn_nI (by omega) e9
  have e2 : rFlag ρ 10 y = bitB (C.1 2) y := by
    unfold rFlag
    rw [e, hy, nI_clamp (by omega), bk_bit hC.2.1.1 (by omega)]
    rfl
  rw [e2] at hq
  refine sX12_isTunnel_5 hΓ rfl ?_
  refine sX12_isTunnel_6 hΓ hX rfl ?_
  refine sX12_isTunnel_9 hΓ rfl ?_
  refine sX12_isTunnel_10 hΓ 0 0 (Nat.le_of_ble_eq_true rfl) g.o (fun κ_10 hΓ_10 => sr_isDug hΓ_10 g ?_)
  show AW G κ _ _ 13 _ _ _
  exact sX12_isTunnel_13 hΓ (bI_01 _) hq
theorem tt_hasShort (hΓ : Ok G κ mX12_hasShort (d + 7) Q X) (hX : σ x = some (.inr (10, tdV A hs ol))) (g : RG G σ (A 0) t q p tr n C.1 C.2.1 C.2.2.1 C.2.2.2) (hV : RV ρ n s) (hC : CR ρ n s C) (hx : rIsS ρ y = false → X "java/lang/IndexOutOfBoundsException" σ) (hq : rIsS ρ y = true → Q (some (.int (bI (rFlag ρ 34 y)))) σ) : AW G κ (cs + 1) (ss + 6) 0 [lR x, lI y] [] σ := by
  refine sX12_hasShort_0 hΓ rfl ?_
  refine sX12_hasShort_1 hΓ rfl ?_
  refine sX12_hasShort_2 hΓ 1 6 (Nat.le_of_ble_eq_true rfl) hX (fun κ_2 hΓ_2 => tx_reqSection hΓ_2 hX g hV hC hx (fun e => ?_) )
  show AW G κ _ _ 5 _ _ _
  have hq := hq e
  have hS := hV.s4
  have e9 := e
  unfold rIsS at e9
  rw [hS.1] at e9
  obtain ⟨k, hk, hy⟩ := rIn_nI (by omega) e9
  have e2 : rFlag ρ 34 y = bitB (C.1 3) y := by
    unfold rFlag
    rw [e, hy, nI_clamp (by omega), bk_bit hC.2.1.2 (by omega)]
    rfl
  rw [e2] at hq
  refine sX12_hasShort_5 hΓ rfl ?_
  refine sX12_hasShort_6 hΓ hX rfl ?_
  refine sX12_hasShort_9 hΓ rfl ?_
  refine sX12_hasShort_10 hΓ 0 0 (Nat.le_of_ble_eq_true rfl) g.o (fun κ_10 hΓ_10 => sr_isShorted hΓ_10 g ?_)
  show AW G κ _ _ 13 _ _ _
  exact sX12_hasShort_13 hΓ (bI_01 _) hq
theorem tt_trainIn (hΓ : Ok G κ mX12_trainIn (d + 7) Q X) (hX : σ x = some (.inr (10, tdV A hs ol))) (g : RG G σ (A 0) t q p tr n C.1 C.2.1 C.2.2.1 C.2.2.2) (hV : RV ρ n s) (hC : CR ρ n s C) (hx : rIsS ρ y = false → X "java/lang/IndexOutOfBoundsException" σ) (hq : rIsS ρ y = true → Q (some (.int (rInS ρ n y))) σ) : AW G κ (cs + 1) (ss + 6) 0 [lR x, lI y] [] σ := by
  refine sX12_trainIn_0 hΓ rfl ?_
  refine sX12_trainIn_1 hΓ rfl ?_
  refine sX12_trainIn_2 hΓ 1 6 (Nat.le_of_ble_eq_true rfl) hX (fun κ_2 hΓ_2 => tx_reqSection hΓ_2 hX g hV hC hx (fun e => ?_) )
  show AW G κ _ _ 5 _ _ _
  have hq := hq e
  have hS := hV.s4
  have e9 := e
  unfold rIsS at e9
  rw [hS.1] at e9
  obtain ⟨k, hk, hy⟩ := rIn_nI (by omega) e9
  unfold rInS at hq
  rw [if_pos e, ← cFst_tw (T := C.2.2.2) (by decide) hC.2.2.2.1] at hq
  refine sX12_trainIn_5 hΓ rfl ?_
  refine sX12_trainIn_6 hΓ hX rfl ?_
  refine sX12_trainIn_9 hΓ rfl ?_
  refine sX12_trainIn_10 hΓ 0 0 (Nat.le_of_ble_eq_true rfl) g.o (fun κ_10 hΓ_10 => sr_numberIn hΓ_10 g ?_)
  show AW G κ _ _ 13 _ _ _
  exact sX12_trainIn_13 hΓ hq
theorem tt_address (hΓ : Ok G κ mX12_address (d + 7) Q X) (hX : σ x = some (.inr (10, tdV A hs ol))) (g : RG G σ (A 0) t q p tr n C.1 C.2.1 C.2.2.1 C.2.2.2) (hV : RV ρ n s) (hC : CR ρ n s C) (hx : rIsT ρ y = false → X "java/lang/IndexOutOfBoundsException" σ) (hq : rIsT ρ y = true → Q (some (.int (rTold ρ y 0))) σ) : AW G κ (cs + 1) (ss + 6) 0 [lR x, lI y] [] σ := by
  refine sX12_address_0 hΓ rfl ?_
  refine sX12_address_1 hΓ rfl ?_
  refine sX12_address_2 hΓ 1 6 (Nat.le_of_ble_eq_true rfl) hX (fun κ_2 hΓ_2 => tx_reqTrain hΓ_2 hX g hV hC hx (fun k hk hy => ?_) )
  show AW G κ _ _ 5 _ _ _
  have hn := hV.1.1.2.1
  have hq := hq (told_ok hV hC (w := 0) hk hy (by decide)).1
  rw [(told_ok hV hC (w := 0) hk hy (by decide)).2] at hq
  refine sX12_address_5 hΓ (g.tn hk) rfl ?_
  exact sX12_address_8 hΓ hq
theorem tt_sectionOf (hΓ : Ok G κ mX12_sectionOf (d + 7) Q X) (hX : σ x = some (.inr (10, tdV A hs ol))) (g : RG G σ (A 0) t q p tr n C.1 C.2.1 C.2.2.1 C.2.2.2) (hV : RV ρ n s) (hC : CR ρ n s C) (hx : rIsT ρ y = false → X "java/lang/IndexOutOfBoundsException" σ) (hq : rIsT ρ y = true → Q (some (.int (rTold ρ y 3))) σ) : AW G κ (cs + 1) (ss + 6) 0 [lR x, lI y] [] σ := by
  refine sX12_sectionOf_0 hΓ rfl ?_
  refine sX12_sectionOf_1 hΓ rfl ?_
  refine sX12_sectionOf_2 hΓ 1 6 (Nat.le_of_ble_eq_true rfl) hX (fun κ_2 hΓ_2 => tx_reqTrain hΓ_2 hX g hV hC hx (fun k hk hy => ?_) )
  show AW G κ _ _ 5 _ _ _
  have hn := hV.1.1.2.1
  have hq := hq (told_ok hV hC (w := 0) hk hy (by decide)).1
  rw [(told_ok hV hC (w := 3) hk hy (by decide)).2] at hq
  refine sX12_sectionOf_5 hΓ (g.tn hk) rfl ?_
  exact sX12_sectionOf_8 hΓ hq
theorem tt_advance (hΓ : Ok G κ mX12_advance (d + 7) Q X) (hX : σ x = some (.inr (10, tdV A hs ol))) (g : RG G σ (A 0) t q p tr n C.1 C.2.1 C.2.2.1 C.2.2.2) (hV : RV ρ n s) (hC : CR ρ n s C) (hx : rIsT ρ y = false → X "java/lang/IndexOutOfBoundsException" σ) (hq : rIsT ρ y = true → Q (some (.int (rTold ρ y 4))) σ) : AW G κ (cs + 1) (ss + 6) 0 [lR x, lI y] [] σ := by
  refine sX12_advance_0 hΓ rfl ?_
  refine sX12_advance_1 hΓ rfl ?_
  refine sX12_advance_2 hΓ 1 6 (Nat.le_of_ble_eq_true rfl) hX (fun κ_2 hΓ_2 => tx_reqTrain hΓ_2 hX g hV hC hx (fun k hk hy => ?_) )
  show AW G κ _ _ 5 _ _ _
  have hn := hV.1.1.2.1
  have hq := hq (told_ok hV hC (w := 0) hk hy (by decide)).1
  rw [(told_ok hV hC (w := 4) hk hy (by decide)).2] at hq
  refine sX12_advance_5 hΓ (g.tn hk) rfl ?_
  exact sX12_advance_8 hΓ hq
theorem tt_speed (hΓ : Ok G κ mX12_speed (d + 7) Q X) (hX : σ x = some (.inr (10, tdV A hs ol))) (g : RG G σ (A 0) t q p tr n C.1 C.2.1 C.2.2.1 C.2.2.2) (hV : RV ρ n s) (hC : CR ρ n s C) (hx : rIsT ρ y = false → X "java/lang/IndexOutOfBoundsException" σ) (hq : rIsT ρ y = true → Q (some (.int (rTold ρ y 5))) σ) : AW G κ (cs + 1) (ss + 6) 0 [lR x, lI y] [] σ := by
  refine sX12_speed_0 hΓ rfl ?_
  refine sX12_speed_1 hΓ rfl ?_
  refine sX12_speed_2 hΓ 1 6 (Nat.le_of_ble_eq_true rfl) hX (fun κ_2 hΓ_2 => tx_reqTrain hΓ_2 hX g hV hC hx (fun k hk hy => ?_) )
  show AW G κ _ _ 5 _ _ _
  have hn := hV.1.1.2.1
  have hq := hq (told_ok hV hC (w := 0) hk hy (by decide)).1
  rw [(told_ok hV hC (w := 5) hk hy (by decide)).2] at hq
  refine sX12_speed_5 hΓ (g.tn hk) rfl ?_
  exact sX12_speed_8 hΓ hq
theorem tt_targetSpeed (hΓ : Ok G κ mX12_targetSpeed (d + 7) Q X) (hX : σ x = some (.inr (10, tdV A hs ol))) (g : RG G σ (A 0) t q p tr n C.1 C.2.1 C.2.2.1 C.2.2.2) (hV : RV ρ n s) (hC : CR ρ n s C) (hx : rIsT ρ y = false → X "java/lang/IndexOutOfBoundsException" σ) (hq : rIsT ρ y = true → Q (some (.int (rTold ρ y 6))) σ) : AW G κ (cs + 1) (ss + 6) 0 [lR x, lI y] [] σ := by
  refine sX12_targetSpeed_0 hΓ rfl ?_
  refine sX12_targetSpeed_1 hΓ rfl ?_
  refine sX12_targetSpeed_2 hΓ 1 6 (Nat.le_of_ble_eq_true rfl) hX (fun κ_2 hΓ_2 => tx_reqTrain hΓ_2 hX g hV hC hx (fun k hk hy => ?_) )
  show AW G κ _ _ 5 _ _ _
  have hn := hV.1.1.2.1
  have hq := hq (told_ok hV hC (w := 0) hk hy (by decide)).1
  rw [(told_ok hV hC (w := 6) hk hy (by decide)).2] at hq
  refine sX12_targetSpeed_5 hΓ (g.tn hk) rfl ?_
  exact sX12_targetSpeed_8 hΓ hq
theorem tt_brightness (hΓ : Ok G κ mX12_brightness (d + 7) Q X) (hX : σ x = some (.inr (10, tdV A hs ol))) (g : RG G σ (A 0) t q p tr n C.1 C.2.1 C.2.2.1 C.2.2.2) (hV : RV ρ n s) (hC : CR ρ n s C) (hx : rIsT ρ y = false → X "java/lang/IndexOutOfBoundsException" σ) (hq : rIsT ρ y = true → Q (some (.int (rTold ρ y 7))) σ) : AW G κ (cs + 1) (ss + 6) 0 [lR x, lI y] [] σ := by
  refine sX12_brightness_0 hΓ rfl ?_
  refine sX12_brightness_1 hΓ rfl ?_
  refine sX12_brightness_2 hΓ 1 6 (Nat.le_of_ble_eq_true rfl) hX (fun κ_2 hΓ_2 => tx_reqTrain hΓ_2 hX g hV hC hx (fun k hk hy => ?_) )
  show AW G κ _ _ 5 _ _ _
  have hn := hV.1.1.2.1
  have hq := hq (told_ok hV hC (w := 0) hk hy (by decide)).1
  rw [(told_ok hV hC (w := 7) hk hy (by decide)).2] at hq
  refine sX12_brightness_5 hΓ (g.tn hk) rfl ?_
  exact sX12_brightness_8 hΓ hq
theorem tt_duty (hΓ : Ok G κ mX12_duty (d + 7) Q X) (hX : σ x = some (.inr (10, tdV A hs ol))) (g : RG G σ (A 0) t q p tr n C.1 C.2.1 C.2.2.1 C.2.2.2) (hV : RV ρ n s) (hC : CR ρ n s C) (hx : rIsT ρ y = false → X "java/lang/IndexOutOfBoundsException" σ) (hq : rIsT ρ y = true → Q (some (.int (rTold ρ y 8))) σ) : AW G κ (cs + 1) (ss + 6) 0 [lR x, lI y] [] σ := by
  refine sX12_duty_0 hΓ rfl ?_
  refine sX12_duty_1 hΓ rfl ?_
  refine sX12_duty_2 hΓ 1 6 (Nat.le_of_ble_eq_true rfl) hX (fun κ_2 hΓ_2 => tx_reqTrain hΓ_2 hX g hV hC hx (fun k hk hy => ?_) )
  show AW G κ _ _ 5 _ _ _
  have hn := hV.1.1.2.1
  have hq := hq (told_ok hV hC (w := 0) hk hy (by decide)).1
  rw [(told_ok hV hC (w := 8) hk hy (by decide)).2] at hq
  refine sX12_duty_5 hΓ (g.tn hk) rfl ?_
  exact sX12_duty_8 hΓ hq
theorem tt_silence (hΓ : Ok G κ mX12_silence (d + 7) Q X) (hX : σ x = some (.inr (10, tdV A hs ol))) (g : RG G σ (A 0) t q p tr n C.1 C.2.1 C.2.2.1 C.2.2.2) (hV : RV ρ n s) (hC : CR ρ n s C) (hx : rIsT ρ y = false → X "java/lang/IndexOutOfBoundsException" σ) (hq : rIsT ρ y = true → Q (some (.int (rTold ρ y 9))) σ) : AW G κ (cs + 1) (ss + 6) 0 [lR x, lI y] [] σ := by
  refine sX12_silence_0 hΓ rfl ?_
  refine sX12_silence_1 hΓ rfl ?_
  refine sX12_silence_2 hΓ 1 6 (Nat.le_of_ble_eq_true rfl) hX (fun κ_2 hΓ_2 => tx_reqTrain hΓ_2 hX g hV hC hx (fun k hk hy => ?_) )
  show AW G κ _ _ 5 _ _ _
  have hn := hV.1.1.2.1
  have hq := hq (told_ok hV hC (w := 0) hk hy (by decide)).1
  rw [(told_ok hV hC (w := 9) hk hy (by decide)).2] at hq
  refine sX12_silence_5 hΓ (g.tn hk) rfl ?_
  exact sX12_silence_8 hΓ hq
theorem tt_sectionsEntered (hΓ : Ok G κ mX12_sectionsEntered (d + 7) Q X) (hX : σ x = some (.inr (10, tdV A hs ol))) (g : RG G σ (A 0) t q p tr n C.1 C.2.1 C.2.2.1 C.2.2.2) (hV : RV ρ n s) (hC : CR ρ n s C) (hx : rIsT ρ y = false → X "java/lang/IndexOutOfBoundsException" σ) (hq : rIsT ρ y = true → Q (some (.int (rTold ρ y 10))) σ) : AW G κ (cs + 1) (ss + 6) 0 [lR x, lI y] [] σ := by
  refine sX12_sectionsEntered_0 hΓ rfl ?_
  refine sX12_sectionsEntered_1 hΓ rfl ?_
  refine sX12_sectionsEntered_2 hΓ 1 6 (Nat.le_of_ble_eq_true rfl) hX (fun κ_2 hΓ_2 => tx_reqTrain hΓ_2 hX g hV hC hx (fun k hk hy => ?_) )
  show AW G κ _ _ 5 _ _ _
  have hn := hV.1.1.2.1
  have hq := hq (told_ok hV hC (w := 0) hk hy (by decide)).1
  rw [(told_ok hV hC (w := 10) hk hy (by decide)).2] at hq
  refine sX12_sectionsEntered_5 hΓ (g.tn hk) rfl ?_
  exact sX12_sectionsEntered_8 hΓ hq
theorem tt_obeyed (hΓ : Ok G κ mX12_obeyed (d + 7) Q X) (hX : σ x = some (.inr (10, tdV A hs ol))) (g : RG G σ (A 0) t q p tr n C.1 C.2.1 C.2.2.1 C.2.2.2) (hV : RV ρ n s) (hC : CR ρ n s C) (hx : rIsT ρ y = false → X "java/lang/IndexOutOfBoundsException" σ) (hq : rIsT ρ y = true → Q (some (.int (rTold ρ y 11))) σ) : AW G κ (cs + 1) (ss + 6) 0 [lR x, lI y] [] σ := by
  refine sX12_obeyed_0 hΓ rfl ?_
  refine sX12_obeyed_1 hΓ rfl ?_
  refine sX12_obeyed_2 hΓ 1 6 (Nat.le_of_ble_eq_true rfl) hX (fun κ_2 hΓ_2 => tx_reqTrain hΓ_2 hX g hV hC hx (fun k hk hy => ?_) )
  show AW G κ _ _ 5 _ _ _
  have hn := hV.1.1.2.1
  have hq := hq (told_ok hV hC (w := 0) hk hy (by decide)).1
  rw [(told_ok hV hC (w := 11) hk hy (by decide)).2] at hq
  refine sX12_obeyed_5 hΓ (g.tn hk) rfl ?_
  exact sX12_obeyed_8 hΓ hq
theorem tt_rejected (hΓ : Ok G κ mX12_rejected (d + 7) Q X) (hX : σ x = some (.inr (10, tdV A hs ol))) (g : RG G σ (A 0) t q p tr n C.1 C.2.1 C.2.2.1 C.2.2.2) (hV : RV ρ n s) (hC : CR ρ n s C) (hx : rIsT ρ y = false → X "java/lang/IndexOutOfBoundsException" σ) (hq : rIsT ρ y = true → Q (some (.int (rTold ρ y 12))) σ) : AW G κ (cs + 1) (ss + 6) 0 [lR x, lI y] [] σ := by
  refine sX12_rejected_0 hΓ rfl ?_
  refine sX12_rejected_1 hΓ rfl ?_
  refine sX12_rejected_2 hΓ 1 6 (Nat.le_of_ble_eq_true rfl) hX (fun κ_2 hΓ_2 => tx_reqTrain hΓ_2 hX g hV hC hx (fun k hk hy => ?_) )
  show AW G κ _ _ 5 _ _ _
  have hn := hV.1.1.2.1
  have hq := hq (told_ok hV hC (w := 0) hk hy (by decide)).1
  rw [(told_ok hV hC (w := 12) hk hy (by decide)).2] at hq
  refine sX12_rejected_5 hΓ (g.tn hk) rfl ?_
  exact sX12_rejected_8 hΓ hq
theorem tt_unheard (hΓ : Ok G κ mX12_unheard (d + 7) Q X) (hX : σ x = some (.inr (10, tdV A hs ol))) (g : RG G σ (A 0) t q p tr n C.1 C.2.1 C.2.2.1 C.2.2.2) (hV : RV ρ n s) (hC : CR ρ n s C) (hx : rIsT ρ y = false → X "java/lang/IndexOutOfBoundsException" σ) (hq : rIsT ρ y = true → Q (some (.int (rTold ρ y 13))) σ) : AW G κ (cs + 1) (ss + 6) 0 [lR x, lI y] [] σ := by
  refine sX12_unheard_0 hΓ rfl ?_
  refine sX12_unheard_1 hΓ rfl ?_
  refine sX12_unheard_2 hΓ 1 6 (Nat.le_of_ble_eq_true rfl) hX (fun κ_2 hΓ_2 => tx_reqTrain hΓ_2 hX g hV hC hx (fun k hk hy => ?_) )
  show AW G κ _ _ 5 _ _ _
  have hn := hV.1.1.2.1
  have hq := hq (told_ok hV hC (w := 0) hk hy (by decide)).1
  rw [(told_ok hV hC (w := 13) hk hy (by decide)).2] at hq
  refine sX12_unheard_5 hΓ (g.tn hk) rfl ?_
  exact sX12_unheard_8 hΓ hq
theorem tt_blockedTicks (hΓ : Ok G κ mX12_blockedTicks (d + 7) Q X) (hX : σ x = some (.inr (10, tdV A hs ol))) (g : RG G σ (A 0) t q p tr n C.1 C.2.1 C.2.2.1 C.2.2.2) (hV : RV ρ n s) (hC : CR ρ n s C) (hx : rIsT ρ y = false → X "java/lang/IndexOutOfBoundsException" σ) (hq : rIsT ρ y = true → Q (some (.int (rTold ρ y 14))) σ) : AW G κ (cs + 1) (ss + 6) 0 [lR x, lI y] [] σ := by
  refine sX12_blockedTicks_0 hΓ rfl ?_
  refine sX12_blockedTicks_1 hΓ rfl ?_
  refine sX12_blockedTicks_2 hΓ 1 6 (Nat.le_of_ble_eq_true rfl) hX (fun κ_2 hΓ_2 => tx_reqTrain hΓ_2 hX g hV hC hx (fun k hk hy => ?_) )
  show AW G κ _ _ 5 _ _ _
  have hn := hV.1.1.2.1
  have hq := hq (told_ok hV hC (w := 0) hk hy (by decide)).1
  rw [(told_ok hV hC (w := 14) hk hy (by decide)).2] at hq
  refine sX12_blockedTicks_5 hΓ (g.tn hk) rfl ?_
  exact sX12_blockedTicks_8 hΓ hq
theorem tt_brakingTicks (hΓ : Ok G κ mX12_brakingTicks (d + 7) Q X) (hX : σ x = some (.inr (10, tdV A hs ol))) (g : RG G σ (A 0) t q p tr n C.1 C.2.1 C.2.2.1 C.2.2.2) (hV : RV ρ n s) (hC : CR ρ n s C) (hx : rIsT ρ y = false → X "java/lang/IndexOutOfBoundsException" σ) (hq : rIsT ρ y = true → Q (some (.int (rBrake ρ false y))) σ) : AW G κ (cs + 1) (ss + 6) 0 [lR x, lI y] [] σ := by
  refine sX12_brakingTicks_0 hΓ rfl ?_
  refine sX12_brakingTicks_1 hΓ rfl ?_
  refine sX12_brakingTicks_2 hΓ 1 6 (Nat.le_of_ble_eq_true rfl) hX (fun κ_2 hΓ_2 => tx_reqTrain hΓ_2 hX g hV hC hx (fun k hk hy => ?_) )
  show AW G κ _ _ 5 _ _ _
  have hn := hV.1.1.2.1
  have hq := hq (told_ok hV hC (w := 0) hk hy (by decide)).1
  obtain ⟨v2, hv2, ev2⟩ := hV.2.2.t (k := k) (w := 2) (by omega) (by decide) rfl
  have hv1 : 1 ≤ v2 := by
    have := hV.1.1.2.2.2.2.2.2 k hk
    rw [ev2] at this
    rcases Nat.eq_zero_or_pos v2 with e | e
    · exact absurd (by rw [e]; rfl) this
    · exact e
  unfold rBrake at hq
  rw [if_pos (told_ok hV hC (w := 0) hk hy (by decide)).1, hy, nI_clamp (by omega), ← dec_tw ev2 hv1 hv2] at hq
  have eT := hC.2.2.2.1 k hk
  have e5 : ρ (58 + 15 * k + 5) = C.2.2.2 k 5 := by rw [eT, tw_at (by decide)]
  rw [e5, ← eT] at hq
  refine sX12_brakingTicks_5 hΓ 0 0 (Nat.le_of_ble_eq_true rfl) (g.tn hk) (fun κ_5 hΓ_5 => st_decreasesToStop hΓ_5 (g.tn hk) ?_)
  show AW G κ _ _ 8 _ _ _
  exact sX12_brakingTicks_8 hΓ hq
theorem tt_brakingDistance (hΓ : Ok G κ mX12_brakingDistance (d + 7) Q X) (hX : σ x = some (.inr (10, tdV A hs ol))) (g : RG G σ (A 0) t q p tr n C.1 C.2.1 C.2.2.1 C.2.2.2) (hV : RV ρ n s) (hC : CR ρ n s C) (hx : rIsT ρ y = false → X "java/lang/IndexOutOfBoundsException" σ) (hq : rIsT ρ y = true → Q (some (.int (rBrake ρ true y))) σ) : AW G κ (cs + 1) (ss + 6) 0 [lR x, lI y] [] σ := by
  refine sX12_brakingDistance_0 hΓ rfl ?_
  refine sX12_brakingDistance_1 hΓ rfl ?_
  refine sX12_brakingDistance_2 hΓ 1 6 (Nat.le_of_ble_eq_true rfl) hX (fun κ_2 hΓ_2 => tx_reqTrain hΓ_2 hX g hV hC hx (fun k hk hy => ?_) )
  show AW G κ _ _ 5 _ _ _
  have hn := hV.1.1.2.1
  have hq := hq (told_ok hV hC (w := 0) hk hy (by decide)).1
  obtain ⟨v2, hv2, ev2⟩ := hV.2.2.t (k := k) (w := 2) (by omega) (by decide) rfl
  have hv1 : 1 ≤ v2 := by
    have := hV.1.1.2.2.2.2.2.2 k hk
    rw [ev2] at this
    rcases Nat.eq_zero_or_pos v2 with e | e
    · exact absurd (by rw [e]; rfl) this
    · exact e
  unfold rBrake at hq
  rw [if_pos (told_ok hV hC (w := 0) hk hy (by decide)).1, hy, nI_clamp (by omega), ← dist_tw ev2 hv1 hv2] at hq
  have eT := hC.2.2.2.1 k hk
  have e5 : ρ (58 + 15 * k + 5) = C.2.2.2 k 5 := by rw [eT, tw_at (by decide)]
  rw [e5, ← eT] at hq
  refine sX12_brakingDistance_5 hΓ 0 0 (Nat.le_of_ble_eq_true rfl) (g.tn hk) (fun κ_5 hΓ_5 => st_distanceToStop hΓ_5 (g.tn hk) ?_)
  show AW G κ _ _ 8 _ _ _
  exact sX12_brakingDistance_8 hΓ hq
theorem tt_packetsFor (hΓ : Ok G κ mX12_packetsFor (d + 7) Q X) (hX : σ x = some (.inr (10, tdV A hs ol))) (g : RG G σ (A 0) t q p tr n C.1 C.2.1 C.2.2.1 C.2.2.2) (hV : RV ρ n s) (hC : CR ρ n s C) (hx : rIsT ρ y = false → X "java/lang/IndexOutOfBoundsException" σ) (hq : rIsT ρ y = true → Q (some (.int (rPackets ρ (rQ ρ) y))) σ) : AW G κ (cs + 1) (ss + 6) 0 [lR x, lI y] [] σ := by
  refine sX12_packetsFor_0 hΓ rfl ?_
  refine sX12_packetsFor_1 hΓ hX rfl ?_
  refine sX12_packetsFor_4 hΓ g.o rfl ?_
  refine sX12_packetsFor_7 hΓ rfl ?_
  refine sX12_packetsFor_8 hΓ rfl ?_
  refine sX12_packetsFor_9 hΓ 1 6 (Nat.le_of_ble_eq_true rfl) hX (fun κ_9 hΓ_9 => tx_reqTrain hΓ_9 hX g hV hC hx (fun k hk hy => ?_) )
  show AW G κ _ _ 12 _ _ _
  have hn := hV.1.1.2.1
  have hq := hq (told_ok hV hC (w := 0) hk hy (by decide)).1
  obtain ⟨l, hl, hQ⟩ := hV.ql
  have hU : C.2.1 1 = nI l := hC.1.2.2.2.2.2.1.symm.trans hQ
  have hr : rQ ρ = l := rQ_lt hQ hl
  unfold rPackets at hq
  rw [if_pos (told_ok hV hC (w := 0) hk hy (by decide)).1, hy, nI_clamp (by omega), ← cnt_tw hV hC, ← tw_at (ρ := ρ) (k := k) (show 0 < 15 by decide), ← hC.2.2.2.1 k hk, hr] at hq
  refine sX12_packetsFor_12 hΓ (g.tn hk) rfl ?_
  refine sX12_packetsFor_15 hΓ 0 0 (Nat.le_of_ble_eq_true rfl) g.qg.1 (fun κ_15 hΓ_15 => su_numberFor hΓ_15 g.qg hU hl ?_)
  show AW G κ _ _ 18 _ _ _
  exact sX12_packetsFor_18 hΓ hq
theorem tt_freeAhead (hΓ : Ok G κ mX12_freeAhead (d + 7) Q X) (hX : σ x = some (.inr (10, tdV A hs ol))) (g : RG G σ (A 0) t q p tr n C.1 C.2.1 C.2.2.1 C.2.2.2) (hV : RV ρ n s) (hC : CR ρ n s C) (hx : rIsT ρ y = false → X "java/lang/IndexOutOfBoundsException" σ) (hq : rIsT ρ y = true → Q (some (.int (rFreeA ρ n s y))) σ) : AW G κ (cs + 1) (ss + 6) 0 [lR x, lI y] [] σ := by
  refine sX12_freeAhead_0 hΓ rfl ?_
  refine sX12_freeAhead_1 hΓ hX rfl ?_
  refine sX12_freeAhead_4 hΓ rfl ?_
  refine sX12_freeAhead_5 hΓ rfl ?_
  refine sX12_freeAhead_6 hΓ 1 6 (Nat.le_of_ble_eq_true rfl) hX (fun κ_6 hΓ_6 => tx_reqTrain hΓ_6 hX g hV hC hx (fun k hk hy => ?_) )
  show AW G κ _ _ 9 _ _ _
  have hn := hV.1.1.2.1
  have hq := hq (told_ok hV hC (w := 0) hk hy (by decide)).1
  obtain ⟨j, hj, ej⟩ := hV.1.1.2.2.2.2.2.1 k hk
  have hs := hV.s4
  unfold rFreeA at hq
  rw [if_pos (told_ok hV hC (w := 0) hk hy (by decide)).1, hy, nI_clamp (by omega), show rSec ρ k = j by unfold rSec; rw [ej]; exact nI_clamp (by omega), ← free_tw (by omega) hC.2.2.2.1 hk hj ej] at hq
  have e3 : C.2.2.2 k 3 = nI j := by rw [hC.2.2.2.1 k hk, tw_at (by decide)]; exact ej
  refine sX12_freeAhead_9 hΓ (g.tn hk) rfl ?_
  refine sX12_freeAhead_12 hΓ 0 0 (Nat.le_of_ble_eq_true rfl) g.o (fun κ_12 hΓ_12 => sr_freeBehind hΓ_12 g (hC.1.2.1.symm.trans hs.1) hs.2.1 hs.2.2 e3 hj ?_)
  show AW G κ _ _ 15 _ _ _
  exact sX12_freeAhead_15 hΓ hq
theorem tt_packetAddress (hΓ : Ok G κ mX12_packetAddress (d + 7) Q X) (hX : σ x = some (.inr (10, tdV A hs ol))) (g : RG G σ (A 0) t q p tr n C.1 C.2.1 C.2.2.1 C.2.2.2) (hV : RV ρ n s) (hC : CR ρ n s C) (hx : rIsP ρ y = false → X "java/lang/IndexOutOfBoundsException" σ) (hq : rIsP ρ y = true → Q (some (.int (rToldP ρ y 0))) σ) : AW G κ (cs + 1) (ss + 6) 0 [lR x, lI y] [] σ := by
  refine sX12_packetAddress_0 hΓ rfl ?_
  refine sX12_packetAddress_1 hΓ rfl ?_
  refine sX12_packetAddress_2 hΓ 1 6 (Nat.le_of_ble_eq_true rfl) hX (fun κ_2 hΓ_2 => tx_reqPacket hΓ_2 hX g hV hC hx (fun k hk hy => ?_) )
  show AW G κ _ _ 5 _ _ _
  obtain ⟨l, hl, hQ⟩ := hV.ql
  have hU : C.2.1 1 = nI l := hC.1.2.2.2.2.2.1.symm.trans hQ
  have hr : rQ ρ = l := rQ_lt hQ hl
  have eP : rIsP ρ y = true := by unfold rIsP; rw [hQ]; exact rIn_ok (by omega) (hr ▸ hk) hy
  have hq := hq eP
  obtain ⟨p1, p2, p3, -⟩ := hC.pA hV hk
  unfold rToldP at hq
  rw [if_pos eP, hy, nI_clamp (by omega), ← p1] at hq
  refine sX12_packetAddress_5 hΓ 0 0 (Nat.le_of_ble_eq_true rfl) (fun κ_5 hΓ_5 => st_addressOf hΓ_5 ?_)
  show AW G κ _ _ 8 _ _ _
  exact sX12_packetAddress_8 hΓ hq
theorem tt_packetCommand (hΓ : Ok G κ mX12_packetCommand (d + 7) Q X) (hX : σ x = some (.inr (10, tdV A hs ol))) (g : RG G σ (A 0) t q p tr n C.1 C.2.1 C.2.2.1 C.2.2.2) (hV : RV ρ n s) (hC : CR ρ n s C) (hx : rIsP ρ y = false → X "java/lang/IndexOutOfBoundsException" σ) (hq : rIsP ρ y = true → Q (some (.int (rToldP ρ y 1))) σ) : AW G κ (cs + 1) (ss + 6) 0 [lR x, lI y] [] σ := by
  refine sX12_packetCommand_0 hΓ rfl ?_
  refine sX12_packetCommand_1 hΓ rfl ?_
  refine sX12_packetCommand_2 hΓ 1 6 (Nat.le_of_ble_eq_true rfl) hX (fun κ_2 hΓ_2 => tx_reqPacket hΓ_2 hX g hV hC hx (fun k hk hy => ?_) )
  show AW G κ _ _ 5 _ _ _
  obtain ⟨l, hl, hQ⟩ := hV.ql
  have hU : C.2.1 1 = nI l := hC.1.2.2.2.2.2.1.symm.trans hQ
  have hr : rQ ρ = l := rQ_lt hQ hl
  have eP : rIsP ρ y = true := by unfold rIsP; rw [hQ]; exact rIn_ok (by omega) (hr ▸ hk) hy
  have hq := hq eP
  obtain ⟨p1, p2, p3, -⟩ := hC.pA hV hk
  unfold rToldP at hq
  rw [if_pos eP, hy, nI_clamp (by omega), ← p2] at hq
  refine sX12_packetCommand_5 hΓ 0 0 (Nat.le_of_ble_eq_true rfl) (fun κ_5 hΓ_5 => st_commandOf hΓ_5 ?_)
  show AW G κ _ _ 8 _ _ _
  exact sX12_packetCommand_8 hΓ hq
theorem tt_isIntact (hΓ : Ok G κ mX12_isIntact (d + 7) Q X) (hX : σ x = some (.inr (10, tdV A hs ol))) (g : RG G σ (A 0) t q p tr n C.1 C.2.1 C.2.2.1 C.2.2.2) (hV : RV ρ n s) (hC : CR ρ n s C) (hx : rIsP ρ y = false → X "java/lang/IndexOutOfBoundsException" σ) (hq : rIsP ρ y = true → Q (some (.int (bI (rIntact ρ y)))) σ) : AW G κ (cs + 1) (ss + 6) 0 [lR x, lI y] [] σ := by
  refine sX12_isIntact_0 hΓ rfl ?_
  refine sX12_isIntact_1 hΓ rfl ?_
  refine sX12_isIntact_2 hΓ 1 6 (Nat.le_of_ble_eq_true rfl) hX (fun κ_2 hΓ_2 => tx_reqPacket hΓ_2 hX g hV hC hx (fun k hk hy => ?_) )
  show AW G κ _ _ 5 _ _ _
  obtain ⟨l, hl, hQ⟩ := hV.ql
  have hU : C.2.1 1 = nI l := hC.1.2.2.2.2.2.1.symm.trans hQ
  have hr : rQ ρ = l := rQ_lt hQ hl
  have eP : rIsP ρ y = true := by unfold rIsP; rw [hQ]; exact rIn_ok (by omega) (hr ▸ hk) hy
  have hq := hq eP
  obtain ⟨p1, p2, p3, -⟩ := hC.pA hV hk
  unfold rIntact at hq
  rw [eP, Bool.true_and, hy, nI_clamp (by omega), ← p3] at hq
  refine sX12_isIntact_5 hΓ 0 0 (Nat.le_of_ble_eq_true rfl) (fun κ_5 hΓ_5 => st_isWhole hΓ_5 ?_)
  show AW G κ _ _ 8 _ _ _
  exact sX12_isIntact_8 hΓ (bI_01 _) hq
theorem tt_checkOf (hΓ : Ok G κ mX12_checkOf (d + 7) Q X) (hX : σ x = some (.inr (10, tdV A hs ol))) (g : RG G σ (A 0) t q p tr n C.1 C.2.1 C.2.2.1 C.2.2.2) (hV : RV ρ n s) (hC : CR ρ n s C) {z : Int32} (hx : (rByte y && rByte z) = false → X "java/lang/IllegalArgumentException" σ) (hq : (rByte y && rByte z) = true → Q (some (.int (y ^^^ z))) σ) : AW G κ (cs + 1 + 1) (ss + 6 + 6) 0 [lR x, lI y, lI z] [] σ := by
  refine sX12_checkOf_0 hΓ rfl ?_
  refine sX12_checkOf_1 hΓ ?_
  refine sX12_checkOf_2 hΓ ?_
  refine sX12_checkOf_5 hΓ 1 6 (Nat.le_of_ble_eq_true rfl) (fun κ_5 hΓ_5 => tx_reqRange hΓ_5 (fun e => hx (by unfold rByte; rw [e]; rfl)) (fun e1 => ?_) )
  show AW G κ _ _ 8 _ _ _
  refine sX12_checkOf_8 hΓ rfl ?_
  refine sX12_checkOf_9 hΓ ?_
  refine sX12_checkOf_10 hΓ ?_
  refine sX12_checkOf_13 hΓ 1 6 (Nat.le_of_ble_eq_true rfl) (fun κ_13 hΓ_13 => tx_reqRange hΓ_13 (fun e => hx (by unfold rByte; rw [e]; exact Bool.and_false _)) (fun e2 => ?_) )
  show AW G κ _ _ 16 _ _ _
  refine sX12_checkOf_16 hΓ rfl ?_
  refine sX12_checkOf_17 hΓ rfl ?_
  refine sX12_checkOf_18 hΓ 0 0 (Nat.le_of_ble_eq_true rfl) (fun κ_18 hΓ_18 => st_checkFor hΓ_18 ?_)
  show AW G κ _ _ 21 _ _ _
  exact sX12_checkOf_21 hΓ (hq (by unfold rByte; rw [e1, e2]; rfl))
end ClassTell
