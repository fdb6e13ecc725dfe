/-! the class whole: loading, scripts, what it writes -/
section Rel4
variable {G : Gl} {κ : Kx} {d : Nat} {Q : Option Value → Hp → Prop} {X : String → Hp → Prop} {cs ss pc : Nat} {σ σ1 : Hp} {c c1 A : Nat → Nat} {x am n n' n2 n2' s s' a t q p pr tk inp : Nat} {tr : Nat → Nat} {C C' C2 C2' : Ct} {Nh Nh' : Nat → Nat} {Ch Ch' : Nat → Ct} {u u' l l' cd cd' og og' hs hs' ol ol' cc : Int32} {b b' out out' S U K : Nat → Int32} {T : Nat → Nat → Int32} {z z1 : Nat → Int32} {B B1 : Nat → Nat → Int32} {y : Int32} {W : Nat → Prop}
theorem tq_loadRailway (hΓ : Ok G κ mX12_loadRailway (d + 9) Q X) (h : TD G σ c x A am n C n2 C2 Nh Ch u b l cd og hs out ol) (hR : TR z B n s C n2 C2 Nh Ch u b l cd og hs out ol) {k : Nat} (hz : z 16 = nI k) (hk : k ≤ 500) (hx : rIn y 0 (nI k) = false → X "java/lang/IllegalArgumentException" σ) (hq : ∀ l0, l0 ≤ k → y = nI l0 → ∀ (σ1 : Hp) (c1 : Nat → Nat), RLx G σ1 c1 x A am (ldZ z (ldY B z l0).1) (ldB B (ldY B z l0)) → KF (NA am) σ c σ1 c1 → Q (some (.int (if pR (ldY B z l0).1 = 0 then (ldY B z l0).2.1 3 else -1))) σ1) : AW G κ (cs + 7 + 15 + 1) (ss + 96 + 154 + 6) 0 [lR x, lI y, none] [] σ := by
  obtain ⟨k2, k1, k3, k4, k5, k6⟩ := hR.in
  have ek : k2 = k := (nI_eq (by omega) (by omega)).mp (k4.symm.trans hz)
  subst ek
  subst k3
  subst k5
  obtain ⟨v, iv, -⟩ := id h.2.2.2.1.1
  obtain ⟨tk, cc, hp⟩ := h.2.2.2.1.2
  refine sX12_loadRailway_0 hΓ rfl ?_
  refine sX12_loadRailway_1 hΓ rfl ?_
  refine sX12_loadRailway_2 hΓ 1 6 (Nat.le_of_ble_eq_true rfl) h.o (fun κ_2 hΓ_2 => tx_reqText hΓ_2 h.o iv (by omega) hx (fun l0 hl0 hy => ?_) )
  show AW G κ _ _ 5 _ _ _
  have hq := hq l0 hl0 hy
  obtain ⟨n1, C1, hS⟩ := h.2.1.2.1
  obtain ⟨d1, d2, d3⟩ := h.2.2.2.2.2.1
  refine sX12_loadRailway_5 hΓ rfl ?_
  refine sX12_loadRailway_6 hΓ h.o rfl ?_
  refine sX12_loadRailway_9 hΓ rfl ?_
  refine sX12_loadRailway_10 hΓ rfl ?_
  refine sX12_loadRailway_11 hΓ h.o rfl ?_
  refine sX12_loadRailway_14 hΓ 15 154 (Nat.le_of_ble_eq_true rfl) hp.o (fun κ_14 hΓ_14 => sq_parseRailway hΓ_14 hp hS hy (by omega) (fun j hj => k6 j (by omega)) (at0 z) (fun σ1 c1 h1 f1 => ?_) )
  show AW G κ _ _ 17 _ _ _
  obtain ⟨hQ1, C7, hR7, hS7, hc7⟩ := h1
  have h2 := h.setLd f1 hQ1.z ⟨_, _, hR7⟩
  have g1 : KF (NA am) σ c σ1 c1 := f1.mo (fun y e => by rcases e with e | e <;> rw [e]; exact h.2.2.2.2.2.2.2 6 (by decide); exact h.2.2.2.2.2.2.2 1 (by decide))
  obtain ⟨Y, hY⟩ : ∃ Y, Y = lF (B 15) l0 (pBeg (B 15) l0 (at0 z)) := ⟨_, rfl⟩
  have hY0 : ldY B z l0 = Y := hY.symm
  rw [hY0] at hq
  rw [← hY] at hR7 hc7 h2 ⊢
  obtain ⟨v2, iv2, -⟩ := id h2.2.2.2.1.1
  obtain ⟨o, o0, o1, o2, o4, o5, o6, o7⟩ := h2.ob
  have t2 := hR.prs (B1 := B) Y.1 rfl rfl rfl rfl rfl
  refine sX12_loadRailway_17 hΓ ?_
  refine sX12_loadRailway_18 hΓ rfl ?_
  refine sX12_loadRailway_19 hΓ h2.o rfl ?_
  refine sX12_loadRailway_22 hΓ 0 0 (Nat.le_of_ble_eq_true rfl) iv2 (fun κ_22 hΓ_22 => si_clear hΓ_22 h2.2.2.2.1.1 (fun σ2 j2 f2 => ?_) )
  show AW G κ _ _ 25 _ _ _
  have h3 := h2.setIn f2 j2
  have g2 := g1.tr (h2.ea (i := 5) (by decide) f2)
  have hR8 := hR7.keep f2 (o1.ne o5 (by decide))
  refine sX12_loadRailway_25 hΓ rfl ?_
  refine sX12_loadRailway_26 hΓ (fun c26 => ?_) (fun c26 => ?_)
  rotate_left
  · have e0 : ¬ pR Y.1 = 0 := fun e => by rw [e] at c26; exact absurd c26 (by decide)
    unfold ldZ ldB at hq
    rw [if_neg e0, if_neg e0, if_neg e0] at hq
    refine sX12_loadRailway_29 hΓ ?_
    exact sX12_loadRailway_30 hΓ (hq σ2 c1 ⟨n, s, C, n2, C2, Nh, Ch, u, _, _, _, _, hs, out, ol, h3, t2⟩ g2)
  have e0 : pR Y.1 = 0 := beq_iff_eq.mp (bI_n0 c26)
  unfold ldZ ldB at hq
  rw [if_pos e0, if_pos e0, if_pos e0] at hq
  obtain ⟨c8, -⟩ := hc7 e0
  have hV8 : RV Y.2.1 Y.2.2 (lS (B 15) l0 (pBeg (B 15) l0 (at0 z))) := by rw [hY] at e0 ⊢; exact lF_RV e0
  have hcp : CR Y.2.1 Y.2.2 (lS (B 15) l0 (pBeg (B 15) l0 (at0 z))) (cCpy C C7) := by
    obtain ⟨l9, hl9, hQ9⟩ := hV8.1.2
    exact c8.cp (by rw [rQ_lt hQ9 hl9]; exact hl9)
  refine sX12_loadRailway_31 hΓ rfl ?_
  refine sX12_loadRailway_32 hΓ h3.o rfl ?_
  refine sX12_loadRailway_35 hΓ rfl ?_
  refine sX12_loadRailway_36 hΓ h3.o rfl ?_
  refine sX12_loadRailway_39 hΓ 7 96 (Nat.le_of_ble_eq_true rfl) h3.m.o.choose_spec.choose_spec (fun κ_39 hΓ_39 => sy_copyFrom hΓ_39 h3.m hR8 (Ne.symm d1) (fun σ4 c4 j4 f4 => ?_) )
  show AW G κ _ _ 42 _ _ _
  have h4 := h3.setMain f4 j4
  have g4 := g2.tr (h3.ea (i := 0) (by decide) f4)
  obtain ⟨v4, iv4⟩ := h4.cnt
  refine sX12_loadRailway_42 hΓ rfl ?_
  refine sX12_loadRailway_43 hΓ h4.o rfl ?_
  refine sX12_loadRailway_46 hΓ 0 0 (Nat.le_of_ble_eq_true rfl) iv4 (fun κ_46 hΓ_46 => td_clear hΓ_46 h4 (fun σ5 h5 f5 => ?_) )
  show AW G κ _ _ 49 _ _ _
  obtain ⟨h6, f6⟩ := h5.setO 0 ol
  refine sX12_loadRailway_49 hΓ rfl ?_
  refine sX12_loadRailway_50 hΓ ?_
  refine sX12_loadRailway_51 hΓ h5.o (Or.inl rfl) (Nat.le_of_ble_eq_true rfl) ?_
  show AW G κ _ _ 54 _ _ (hset σ5 x (.inr (10, tdV A 0 ol)))
  obtain ⟨t, q, p, tr, g, hc⟩ := h6.m
  have hT3 : TR (upd (upd (zEnd z Y.1) 8 0) 12 0) (updA B 0 Y.2.1) Y.2.2 (lS (B 15) l0 (pBeg (B 15) l0 (at0 z))) (cCpy C C7) n2 C2 Nh Ch 0 (B 15) (nI 0) (nI (pR Y.1)) (oOf Y.1) 0 out ol := by
    obtain ⟨u1, u2, u3, u4, u5, u6⟩ := t2
    refine ⟨⟨by rw [updA_same]; exact hV8, by rw [updA_same]; exact hcp⟩, ⟨0, by decide, rfl, ?_, fun i hi => absurd hi (Nat.not_lt_zero i)⟩, ⟨false, rfl, upd_same _ _ _, fun e => Bool.noConfusion e⟩, ?_, ?_, ?_⟩
    · rw [upd_ne (by decide)]; exact upd_same _ _ _
    · rw [updA_ne (by decide), upd_ne (by decide), upd_ne (by decide)]; exact u4
    · rw [updA_ne (by decide), upd_ne (by decide), upd_ne (by decide)]; exact u5
    · rw [upd_ne (by decide), upd_ne (by decide), upd_ne (by decide), upd_ne (by decide)]; exact u6
  have hq := hq _ c4 ⟨_, _, _, n2, C2, Nh, Ch, _, _, _, _, _, _, out, ol, h6, hT3⟩ ((g4.tr f5).tr (h5.ex f6))
  rw [show Y.2.1 3 = nI Y.2.2 from hV8.1.1.1] at hq
  refine sX12_loadRailway_54 hΓ rfl ?_
  refine sX12_loadRailway_55 hΓ h6.o rfl ?_
  refine sX12_loadRailway_58 hΓ g.o rfl ?_
  refine sX12_loadRailway_61q hΓ (Or.inr rfl) g.ts ?_
  exact sX12_loadRailway_62 hΓ hq
theorem tq_writeTrack (hΓ : Ok G κ mX12_writeTrack (d + 3) Q X) (h : TD G σ c x A am n C n2 C2 Nh Ch u b l cd og hs out ol) (hR : TR z B n s C n2 C2 Nh Ch u b l cd og hs out ol) (hq : ∀ σ1 : Hp, RLx G σ1 c x A am (upd (upd z 9 0) 14 (nI s)) (updA B 13 (rOut (B 0) (B 13) n s)) → KF (NA am) σ c σ1 c → Q (some (.int (nI s))) σ1) : AW G κ cs ss 0 [lR x, none] [] σ := by
  obtain ⟨⟨hV, hC⟩, -⟩ := id hR
  obtain ⟨t, q, p, tr, g, hc⟩ := h.m
  obtain ⟨s1, s4, s24⟩ := hV.s4
  have hS : C.1 0 = nI s := hC.1.2.1.symm.trans s1
  obtain ⟨h1, f1⟩ := h.setO hs (nI s)
  have eM : (if nI 24 < C.1 0 then nI 24 else C.1 0) = nI s := by rw [hS, if_neg (nI_nlt s24 (by decide))]
  suffices loop : ∀ (m i : Nat) (y : Int32) (σ1 : Hp), i + m = s → y = nI i → TD G σ1 c x A am n C n2 C2 Nh Ch u b l cd og hs (rOut (B 0) out n i) (nI s) → KF (NA am) σ c σ1 c → AW G κ cs ss 21 [lR x, lI y] [] σ1 by
    refine sX12_writeTrack_0 hΓ rfl ?_
    refine sX12_writeTrack_1 hΓ rfl ?_
    refine sX12_writeTrack_2 hΓ h.o rfl ?_
    refine sX12_writeTrack_5 hΓ g.o rfl ?_
    refine sX12_writeTrack_8 hΓ rfl ?_
    refine sX12_writeTrack_9 hΓ h.o rfl ?_
    refine sX12_writeTrack_12 hΓ h.1.2.2.1 ?_
    refine sX12_writeTrack_13 hΓ (Nat.le_of_ble_eq_true rfl) ?_
    rw [eM]
    refine sX12_writeTrack_16 hΓ h.o (Nat.le_of_ble_eq_true rfl) ?_
    show AW G κ _ _ 19 _ _ (hset σ x (.inr (10, tdV A hs (nI s))))
    refine sX12_writeTrack_19 hΓ ?_
    refine sX12_writeTrack_20 hΓ ?_
    have e0 : rOut (B 0) out n 0 = out := by funext j; exact if_neg (Nat.not_lt_zero j)
    exact loop s 0 0 _ (Nat.zero_add s) rfl (by rw [e0]; exact h1) (h.ex f1)
  intro m
  induction m with
  | zero =>
    intro i y σ1 hi hy h2 f2
    have ei : i = s := by omega
    subst ei
    refine sX12_writeTrack_21 hΓ rfl ?_
    refine sX12_writeTrack_22 hΓ rfl ?_
    refine sX12_writeTrack_23 hΓ h2.o rfl ?_
    refine sX12_writeTrack_26 hΓ (fun c26 => ?_) (fun c26 => absurd (lp_out hy rfl (Nat.le_refl _) (by omega)) c26)
    refine sX12_writeTrack_58 hΓ rfl ?_
    refine sX12_writeTrack_59 hΓ h2.o rfl ?_
    refine sX12_writeTrack_62 hΓ (hq σ1 ⟨n, i, C, n2, C2, Nh, Ch, u, b, l, cd, og, hs, _, _, h2, ?_⟩ f2)
    obtain ⟨t1, t2, t3, t4, t5, t6⟩ := hR
    refine ⟨by rw [updA_ne (by decide)]; exact t1, ?_, ?_, ⟨i, s24, rfl, upd_same _ _ _, fun j hj => ?_⟩, ?_, ?_⟩
    · rw [updA_ne (by decide), upd_ne (by decide), upd_ne (by decide)]; exact t2
    · rw [updA_ne (by decide), upd_ne (by decide), upd_ne (by decide)]; exact t3
    · rw [updA_same]
      unfold rOut
      rw [if_pos hj, if_pos hj]
    · rw [updA_ne (by decide), upd_ne (by decide), upd_ne (by decide)]; exact t5
    · rw [upd_ne (by decide), upd_ne (by decide), upd_ne (by decide), upd_ne (by decide)]; exact t6
  | succ m ih =>
    intro i y σ1 hi hy h2 f2
    obtain ⟨t2, q2, p2, tr2, g2, hc2⟩ := h2.m
    refine sX12_writeTrack_21 hΓ rfl ?_
    refine sX12_writeTrack_22 hΓ rfl ?_
    refine sX12_writeTrack_23 hΓ h2.o rfl ?_
    refine sX12_writeTrack_26 hΓ (fun c26 => absurd c26 (lp_in hy rfl (by omega) (by omega))) (fun c26 => ?_)
    refine sX12_writeTrack_29 hΓ rfl ?_
    refine sX12_writeTrack_30 hΓ rfl ?_
    refine sX12_writeTrack_31 hΓ h2.o rfl ?_
    refine sX12_writeTrack_34 hΓ h2.1.2.2.1 ?_
    refine sX12_writeTrack_35 hΓ (fun c35 => absurd c35 (lp_in hy (n := 24) rfl (by omega) (by decide))) (fun c35 => ?_)
    refine sX12_writeTrack_38 hΓ rfl ?_
    refine sX12_writeTrack_39 hΓ h2.o rfl ?_
    refine sX12_writeTrack_42 hΓ rfl ?_
    refine sX12_writeTrack_43 hΓ rfl ?_
    refine sX12_writeTrack_44 hΓ h2.o rfl ?_
    refine sX12_writeTrack_47 hΓ rfl ?_
    refine sX12_writeTrack_48 hΓ 0 0 (Nat.le_of_ble_eq_true rfl) g2.o (fun κ_48 hΓ_48 => sr_signOf hΓ_48 g2 ?_)
    show AW G κ _ _ 51 _ _ _
    refine sX12_writeTrack_51 hΓ h2.1.2.2.1 hy (by omega) (by decide) ?_
    obtain ⟨h3, f3⟩ := h2.setOut (upd (rOut (B 0) out n i) i (cSign C.1 C.2.2.2 n y))
    have eO : upd (rOut (B 0) out n i) i (cSign C.1 C.2.2.2 n y) = rOut (B 0) out n (i + 1) := by
      funext j
      unfold rOut
      by_cases e : j = i
      · subst e
        rw [upd_same, if_pos (by omega), hy, sign_tw hC (by omega)]
      · rw [upd_ne e]
        by_cases e1 : j < i
        · rw [if_pos e1, if_pos (by omega)]
        · rw [if_neg e1, if_neg (by omega)]
    rw [eO] at h3 f3 ⊢
    refine sX12_writeTrack_52 hΓ rfl ?_
    refine sX12_writeTrack_55 hΓ ?_
    exact ih (i + 1) _ _ (by omega) (lp_1 hy) h3 (f2.tr (h2.ex f3))
end Rel4
