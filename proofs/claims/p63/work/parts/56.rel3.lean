/-! the class whole: texts, what it writes -/
section Rel3
variable {G : Gl} {κ : Kx} {d : Nat} {Q : Option Value → Hp → Prop} {X : String → Hp → Prop} {cs ss pc : Nat} {σ σ1 : Hp} {c c1 A : Nat → Nat} {x am n n' n2 n2' s s' a t q p pr tk inp : Nat} {tr : Nat → Nat} {C C' C2 C2' : Ct} {Nh Nh' : Nat → Nat} {Ch Ch' : Nat → Ct} {u u' l l' cd cd' og og' hs hs' ol ol' cc : Int32} {b b' out out' S U K : Nat → Int32} {T : Nat → Nat → Int32} {z z1 : Nat → Int32} {B B1 : Nat → Nat → Int32} {y : Int32} {W : Nat → Prop}
theorem TR.in (h : TR z B n s C n2 C2 Nh Ch u b l cd og hs out ol) : ∃ k, k ≤ 500 ∧ l = nI k ∧ z 16 = nI k ∧ b = B 15 ∧ BB b k := h.2.2.2.2.1
/-- a text read: its error told, the buffer emptied -/
theorem TR.prs (h : TR z B n s C n2 C2 Nh Ch u b l cd og hs out ol) (P : Pt) (e0 : B1 0 = B 0) (e4 : B1 4 = B 4) (e5 : B1 5 = B 5) (e13 : B1 13 = B 13) (e15 : B1 15 = B 15) : TR (zEnd z P) B1 n s C n2 C2 Nh Ch u b (nI 0) (nI (pR P)) (oOf P) hs out ol := by
  obtain ⟨t1, t2, t3, t4, ⟨k, k1, k2, k3, k4, k5⟩, t6⟩ := h
  have z8 : zEnd z P 8 = z 8 := by unfold zEnd; rw [upd_ne (by decide), upd_ne (by decide), upd_ne (by decide), upd_ne (by decide)]
  have z12 : zEnd z P 12 = z 12 := by unfold zEnd; rw [upd_ne (by decide), upd_ne (by decide), upd_ne (by decide), upd_ne (by decide)]
  have z14 : zEnd z P 14 = z 14 := by unfold zEnd; rw [upd_ne (by decide), upd_ne (by decide), upd_ne (by decide), upd_ne (by decide)]
  have z16 : zEnd z P 16 = nI 0 := by unfold zEnd; rw [upd_ne (by decide), upd_ne (by decide), upd_same]; rfl
  have z10 : zEnd z P 10 = nI (pR P) := upd_same _ _ _
  have z23 : zEnd z P 23 = oOf P := by unfold zEnd; rw [upd_ne (by decide), upd_same]; rfl
  refine ⟨by rw [e0]; exact t1, by rw [e5, z8]; exact t2, by rw [e4, z12]; exact t3, by rw [e13, z14]; exact t4, ⟨0, Nat.zero_le _, rfl, z16, by rw [e15]; exact k4, fun j hj => absurd hj (Nat.not_lt_zero j)⟩, z10.symm, z23.symm⟩
theorem tx_reqText (hΓ : Ok G κ mX12_requireText (d + 6) Q X) (hX : σ x = some (.inr (10, tdV A hs ol))) {v k : Nat} (hi : σ (A 5) = some (.inr (3, [.ref v, .int (nI k)]))) (hk : k ≤ 500) (hx : rIn y 0 (nI k) = false → X "java/lang/IllegalArgumentException" σ) (hq : ∀ l0, l0 ≤ k → y = nI l0 → Q none σ) : AW G κ (cs + 1) (ss + 6) 0 [lR x, lI y] [] σ := by
  refine sX12_requireText_0 hΓ rfl ?_
  refine sX12_requireText_1 hΓ (fun c1 => ?_) (fun c1 => ?_)
  · exact sX12_requireText_15 hΓ (Nat.le_of_ble_eq_true rfl) (hx (rIn_lo c1))
  refine sX12_requireText_4 hΓ rfl ?_
  refine sX12_requireText_5 hΓ rfl ?_
  refine sX12_requireText_6 hΓ hX rfl ?_
  refine sX12_requireText_9 hΓ hi rfl ?_
  refine sX12_requireText_12 hΓ (fun c12 => ?_) (fun c12 => ?_)
  · obtain ⟨l0, h1, h2⟩ := rIn_le (by omega) (rIn_in c1 (Int32.not_lt.mpr c12))
    exact sX12_requireText_26 hΓ (hq l0 h1 h2)
  · exact sX12_requireText_15 hΓ (Nat.le_of_ble_eq_true rfl) (hx (rIn_hi (Int32.not_le.mp c12)))
theorem tt_undoableCount (hΓ : Ok G κ mX12_undoableCount (d + 0) Q X) (h : TD G σ c x A am n C n2 C2 Nh Ch u b l cd og hs out ol) (hR : TR z B n s C n2 C2 Nh Ch u b l cd og hs out ol) (hq : Q (some (.int (z 8))) σ) : AW G κ cs ss 0 [lR x] [] σ := by
  obtain ⟨v, hv⟩ := h.cnt
  obtain ⟨k, k1, k2, k3⟩ := hR.u8
  rw [k3, ← k2] at hq
  refine sX12_undoableCount_0 hΓ rfl ?_
  refine sX12_undoableCount_1 hΓ h.o rfl ?_
  refine sX12_undoableCount_4 hΓ hv rfl ?_
  exact sX12_undoableCount_7 hΓ hq
theorem tq_appendText (hΓ : Ok G κ mX12_appendText (d + 2) Q X) (h : TD G σ c x A am n C n2 C2 Nh Ch u b l cd og hs out ol) (hR : TR z B n s C n2 C2 Nh Ch u b l cd og hs out ol) {w1 w2 w3 w4 w5 : Int32} {k : Nat} (hz : z 16 = nI k) (hk : k ≤ 500) (hbb : k + 20 ≤ 500 → BB (bApp (B 15) k w1 w2 w3 w4 w5 20) (k + 20)) (hq0 : ¬ k + 20 ≤ 500 → Q (some (.int (-1))) σ) (hq1 : k + 20 ≤ 500 → ∀ (σ1 : Hp), RLx G σ1 c x A am (upd (upd z 9 0) 16 (nI (k + 20))) (updA B 15 (bApp (B 15) k w1 w2 w3 w4 w5 20)) → KF (NA am) σ c σ1 c → Q (some (.int (nI (k + 20)))) σ1) : AW G κ cs ss 0 [lR x, lI w1, lI w2, lI w3, lI w4, lI w5] [] σ := by
  obtain ⟨k2, k1, k3, k4, k5, k6⟩ := hR.in
  have ek : k2 = k := (nI_eq (by omega) (by omega)).mp (k4.symm.trans hz)
  subst ek
  subst k3
  obtain ⟨v, iv, -⟩ := id h.2.2.2.1.1
  have e20 : (!decide (500 < nI k2 + 20)) = decide (k2 + 20 ≤ 500) := by
    rw [show nI k2 + 20 = nI (k2 + 20) from nI_add k2 20]
    by_cases e : k2 + 20 ≤ 500
    · rw [decide_eq_true e, decide_eq_false (show ¬ (500 : Int32) < nI (k2 + 20) from fun e9 => absurd (nI_ltz (i := 500) (n := k2 + 20) rfl rfl (by decide) (by omega) e9) (by omega))]; rfl
    · rw [decide_eq_false e, decide_eq_true (show (500 : Int32) < nI (k2 + 20) from nI_lt (a := 500) (by omega) (by omega))]; rfl
  refine sX12_appendText_0 hΓ rfl ?_
  refine sX12_appendText_1 hΓ h.o rfl ?_
  refine sX12_appendText_4 hΓ ?_
  refine sX12_appendText_6 hΓ 0 0 (Nat.le_of_ble_eq_true rfl) iv (fun κ_6 hΓ_6 => si_hasRoomFor hΓ_6 h.2.2.2.1.1 ?_)
  show AW G κ _ _ 9 _ _ _
  rw [e20]
  refine sX12_appendText_9 hΓ (fun c9 => ?_) (fun c9 => ?_)
  rotate_left
  · have hq := hq0 (of_decide_eq_false (bI_0 c9))
    refine sX12_appendText_12 hΓ ?_
    exact sX12_appendText_13 hΓ hq
  have e5 := of_decide_eq_true (bI_n0 c9)
  have hq := hq1 e5
  obtain ⟨v1, iv1, -⟩ := id h.2.2.2.1.1
  refine sX12_appendText_14 hΓ rfl ?_
  refine sX12_appendText_15 hΓ h.o rfl ?_
  refine sX12_appendText_18 hΓ rfl ?_
  refine sX12_appendText_19 hΓ 0 0 (Nat.le_of_ble_eq_true rfl) iv1 (fun κ_19 hΓ_19 => si_appendFour hΓ_19 h.2.2.2.1.1 rfl (by omega) (fun σ1 j1 f1 => ?_) )
  show AW G κ _ _ 22 _ _ _
  have h1 := h.setIn (f1) j1
  obtain ⟨v2, iv2, -⟩ := id h1.2.2.2.1.1
  refine sX12_appendText_22 hΓ rfl ?_
  refine sX12_appendText_23 hΓ h1.o rfl ?_
  refine sX12_appendText_26 hΓ rfl ?_
  refine sX12_appendText_27 hΓ 0 0 (Nat.le_of_ble_eq_true rfl) iv2 (fun κ_27 hΓ_27 => si_appendFour hΓ_27 h1.2.2.2.1.1 rfl (by omega) (fun σ2 j2 f2 => ?_) )
  show AW G κ _ _ 30 _ _ _
  have h2 := h1.setIn (f2) j2
  obtain ⟨v3, iv3, -⟩ := id h2.2.2.2.1.1
  refine sX12_appendText_30 hΓ rfl ?_
  refine sX12_appendText_31 hΓ h2.o rfl ?_
  refine sX12_appendText_34 hΓ rfl ?_
  refine sX12_appendText_35 hΓ 0 0 (Nat.le_of_ble_eq_true rfl) iv3 (fun κ_35 hΓ_35 => si_appendFour hΓ_35 h2.2.2.2.1.1 rfl (by omega) (fun σ3 j3 f3 => ?_) )
  show AW G κ _ _ 38 _ _ _
  have h3 := h2.setIn (f3) j3
  obtain ⟨v4, iv4, -⟩ := id h3.2.2.2.1.1
  refine sX12_appendText_38 hΓ rfl ?_
  refine sX12_appendText_39 hΓ h3.o rfl ?_
  refine sX12_appendText_42 hΓ rfl ?_
  refine sX12_appendText_44 hΓ 0 0 (Nat.le_of_ble_eq_true rfl) iv4 (fun κ_44 hΓ_44 => si_appendFour hΓ_44 h3.2.2.2.1.1 rfl (by omega) (fun σ4 j4 f4 => ?_) )
  show AW G κ _ _ 47 _ _ _
  have h4 := h3.setIn (f4) j4
  obtain ⟨v5, iv5, -⟩ := id h4.2.2.2.1.1
  refine sX12_appendText_47 hΓ rfl ?_
  refine sX12_appendText_48 hΓ h4.o rfl ?_
  refine sX12_appendText_51 hΓ rfl ?_
  refine sX12_appendText_53 hΓ 0 0 (Nat.le_of_ble_eq_true rfl) iv5 (fun κ_53 hΓ_53 => si_appendFour hΓ_53 h4.2.2.2.1.1 rfl (by omega) (fun σ5 j5 f5 => ?_) )
  show AW G κ _ _ 56 _ _ _
  have h5 := h4.setIn (f5) j5
  obtain ⟨v6, iv6, -⟩ := id h5.2.2.2.1.1
  have ef : KF (NA am) σ c σ5 c := ((((h.ea (i := 5) (by decide) f1).tr (h1.ea (i := 5) (by decide) f2)).tr (h2.ea (i := 5) (by decide) f3)).tr (h3.ea (i := 5) (by decide) f4)).tr (h4.ea (i := 5) (by decide) f5)
  have hb5 := hbb e5
  obtain ⟨t1, t2, t3, t4, -, t6⟩ := hR
  have hT3 : TR (upd (upd z 9 0) 16 (nI (k2 + 20))) (updA B 15 (bApp (B 15) k2 w1 w2 w3 w4 w5 20)) n s C n2 C2 Nh Ch u (bApp (B 15) k2 w1 w2 w3 w4 w5 20) (nI (k2 + 20)) cd og hs out ol := by
    refine ⟨by rw [updA_ne (by decide)]; exact t1, ?_, ?_, ?_, ⟨k2 + 20, e5, rfl, upd_same _ _ _, (updA_same _ _ _).symm, hb5⟩, ?_⟩
    · rw [updA_ne (by decide), upd_ne (by decide), upd_ne (by decide)]; exact t2
    · rw [updA_ne (by decide), upd_ne (by decide), upd_ne (by decide)]; exact t3
    · rw [updA_ne (by decide), upd_ne (by decide), upd_ne (by decide)]; exact t4
    · rw [upd_ne (by decide), upd_ne (by decide), upd_ne (by decide), upd_ne (by decide)]; exact t6
  have h6 := h5
  rw [k5, show k2 + 4 + 4 = k2 + 8 by omega, show k2 + 8 + 4 = k2 + 12 by omega, show k2 + 12 + 4 = k2 + 16 by omega, bApp_eq] at h6
  have hq := hq σ5 ⟨n, s, C, n2, C2, Nh, Ch, u, _, _, cd, og, hs, out, ol, h6, hT3⟩ ef
  refine sX12_appendText_56 hΓ rfl ?_
  refine sX12_appendText_57 hΓ h5.o rfl ?_
  refine sX12_appendText_60 hΓ iv6 rfl ?_
  exact sX12_appendText_63 hΓ hq
end Rel3
