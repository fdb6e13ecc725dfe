/-! the class whole: address, waiting, undoing, the snapshot -/
section Rel2
variable {G : Gl} {κ : Kx} {d : Nat} {Q : Option Value → Hp → Prop} {X : String → Hp → Prop} {cs ss pc : Nat} {σ σ1 : Hp} {c c1 A : Nat → Nat} {x am n n' n2 n2' s s' a t q p : Nat} {tr : Nat → Nat} {C C' C2 C2' : Ct} {Nh Nh' : Nat → Nat} {Ch Ch' : Nat → Ct} {u u' l l' cd cd' og og' hs hs' ol ol' : Int32} {b b' out out' S U K : Nat → Int32} {T : Nat → Nat → Int32} {z z1 : Nat → Int32} {B B1 : Nat → Nat → Int32} {y : Int32} {W : Nat → Prop}
theorem RG.kp (hR : RG G σ a t q p tr n S U K T) (hc : ∀ x, inR a t q p tr n x → c x = a) (f : KF W σ c σ1 c1) (hw : ¬ W a) : RG G σ1 a t q p tr n S U K T ∧ ∀ x, inR a t q p tr n x → c1 x = a := by
  have k : ∀ x e, inR a t q p tr n x → σ x = some e → σ1 x = some e := fun x e hi hx => (f x e hx).2.1 (by rw [hc x hi]; exact hw)
  refine ⟨⟨k _ _ (Or.inl rfl) hR.1, k _ _ (Or.inr (Or.inl rfl)) hR.2.1, fun j hj => k _ _ (Or.inr (Or.inr (Or.inr (Or.inr ⟨j, hj, rfl⟩)))) (hR.2.2.1 j hj), ⟨k _ _ (Or.inr (Or.inr (Or.inl rfl))) hR.2.2.2.1.1, k _ _ (Or.inr (Or.inr (Or.inr (Or.inl rfl)))) hR.2.2.2.1.2⟩, hR.2.2.2.2⟩, fun x hi => ?_⟩
  obtain ⟨e, he⟩ := hR.ex hi
  rw [(f x e he).1]
  exact hc x hi
theorem TD.cnt (h : TD G σ c x A am n C n2 C2 Nh Ch u b l cd og hs out ol) : ∃ v, σ (A 4) = some (.inr (2, [.ref v, .int u])) := by
  obtain ⟨ra, ⟨v, h1, -⟩, -⟩ := h.2.2.1
  exact ⟨v, h1⟩
theorem tq_readdress (hΓ : Ok G κ mX12_readdress (d + 8) Q X) (h : TD G σ c x A am n C n2 C2 Nh Ch u b l cd og hs out ol) (hR : TR z B n s C n2 C2 Nh Ch u b l cd og hs out ol) {k : Nat} (hk : k ≤ 8) (hu : u = nI k) (hz : z 8 = nI k) {w : Int32} (hx1 : rIsT (B 0) y = false → X "java/lang/IndexOutOfBoundsException" σ) (hx2 : rIsT (B 0) y = true → rIn w 1 127 = false → X "java/lang/IllegalArgumentException" σ) (hx3 : (rIsT (B 0) y && rIn w 1 127) = true → ¬ (oRead (upd z 9 0) (B 0) n y w).1 = 0 → X "java/lang/IllegalStateException" σ) (hq : (rIsT (B 0) y && rIn w 1 127) = true → (oRead (upd z 9 0) (B 0) n y w).1 = 0 → ∀ (σ1 : Hp) (c1 : Nat → Nat), RLx G σ1 c1 x A am (fZ (oRead (upd z 9 0) (B 0) n y w) k) (fB B (oRead (upd z 9 0) (B 0) n y w) k) → KF (NA am) σ c σ1 c1 → Q (some (.int ((oRead (upd z 9 0) (B 0) n y w).2.1 11))) σ1) : AW G κ (cs + 7 + 1 + 1 + 1) (ss + 96 + 6 + 6 + 6) 0 [lR x, lI y, lI w, none, none] [] σ := by
  obtain ⟨⟨hV, hC⟩, -⟩ := id hR
  obtain ⟨t, q, p, tr, g, hc⟩ := h.m
  subst hu
  refine sX12_readdress_0 hΓ rfl ?_
  refine sX12_readdress_1 hΓ rfl ?_
  refine sX12_readdress_2 hΓ 1 6 (Nat.le_of_ble_eq_true rfl) h.o (fun κ_2 hΓ_2 => tx_reqTrain hΓ_2 h.o g hV hC hx1 (fun j hj hy => ?_) )
  show AW G κ _ _ 5 _ _ _
  have hn := hV.n6
  have eT := (told_ok hV hC (w := 0) hj hy (by decide)).1
  refine sX12_readdress_5 hΓ ?_
  refine sX12_readdress_6 hΓ rfl ?_
  refine sX12_readdress_7 hΓ ?_
  refine sX12_readdress_8 hΓ ?_
  refine sX12_readdress_10 hΓ 1 6 (Nat.le_of_ble_eq_true rfl) (fun κ_10 hΓ_10 => tx_reqRange hΓ_10 (hx2 eT) (fun e2 => ?_) )
  show AW G κ _ _ 13 _ _ _
  have ec : (rIsT (B 0) y && rIn w 1 127) = true := by rw [eT, e2]; rfl
  have hx3 := hx3 ec
  have hq := hq ec
  have eS : C.2.2.2 j 5 = B 0 (58 + 15 * j + 5) := by rw [hC.2.2.2.1 j hj, tw_at (by decide)]
  have eA : C.2.2.2 j 0 = B 0 (58 + 15 * j + 0) := by rw [hC.2.2.2.1 j hj, tw_at (by decide)]
  have eF := cFst_tw (x := w) (T := C.2.2.2) (w := 0) (by decide) hC.2.2.2.1
  have e3 : ¬ (C.2.2.2 j 5 = 0 ∧ cFst C.2.2.2 n 0 w = none) → ¬ (oRead (upd z 9 0) (B 0) n y w).1 = 0 := fun e9 => by
    unfold oRead
    rw [hy, nI_clamp (by omega), ← eS, ← eF, if_neg e9]
    exact (show ¬ (3 : Int32) = 0 by decide)
  refine sX12_readdress_13 hΓ rfl ?_
  refine sX12_readdress_14 hΓ (g.tn hj) rfl ?_
  refine sX12_readdress_17 hΓ (fun c17 => ?_) (fun c17 => ?_)
  rotate_left
  · exact sX12_readdress_20 hΓ (Nat.le_of_ble_eq_true rfl) (hx3 (e3 (fun e9 => c17 e9.1)))
  refine sX12_readdress_31 hΓ rfl ?_
  refine sX12_readdress_32 hΓ h.o rfl ?_
  refine sX12_readdress_35 hΓ rfl ?_
  refine sX12_readdress_36 hΓ 0 0 (Nat.le_of_ble_eq_true rfl) g.o (fun κ_36 hΓ_36 => sr_numberWith hΓ_36 g ?_)
  show AW G κ _ _ 39 _ _ _
  refine sX12_readdress_39 hΓ (fun c39 => ?_) (fun c39 => ?_)
  rotate_left
  · exact sX12_readdress_42 hΓ (Nat.le_of_ble_eq_true rfl) (hx3 (e3 (fun e9 => c39 (by rw [e9.2]; decide))))
  have eN := (oI_neg (fun k e => by have := cFst_lt e; omega)).mp c39
  refine aw_less (cs2 := cs + 7) (ss2 := ss + 96) (by omega) (by omega) ?_
  refine sX12_readdress_53 hΓ rfl ?_
  refine sX12_readdress_54 hΓ h.o rfl ?_
  refine sX12_readdress_57 hΓ rfl ?_
  refine sX12_readdress_58 hΓ h.o rfl ?_
  refine sX12_readdress_61 hΓ 7 96 (Nat.le_of_ble_eq_true rfl) h.2.2.1.choose_spec.1.choose_spec.1 (fun κ_61 hΓ_61 => td_remember hΓ_61 h hk (fun σ1 c1 h1 f1 r1 => ?_) )
  show AW G κ _ _ 64 _ _ _
  obtain ⟨g1, hc1⟩ := g.kp hc r1 (fun e => e.1 rfl)
  have eO : oRead (upd z 9 0) (B 0) n y w = (0, upd (upd z 9 0) 11 (B 0 (58 + 15 * j + 0)), upd (B 0) (58 + 15 * j + 0) w) := by
    unfold oRead
    rw [hy, nI_clamp (by omega), ← eS, ← eF, if_pos ⟨c17, eN⟩]
  rw [eO] at hq
  refine sX12_readdress_64 hΓ rfl ?_
  refine sX12_readdress_65 hΓ (g1.tn hj) rfl ?_
  refine sX12_readdress_68 hΓ ?_
  refine sX12_readdress_70 hΓ rfl ?_
  refine sX12_readdress_71 hΓ rfl ?_
  refine sX12_readdress_72 hΓ (g1.tn hj) (Nat.le_of_ble_eq_true rfl) ?_
  show AW G κ _ _ 75 _ _ (hset σ1 (tr j) (.inr (9, tV (upd (C.2.2.2 j) 0 w))))
  obtain ⟨g2, f2⟩ := g1.setT hj (upd (C.2.2.2 j) 0 w)
  have h3 : RY G (hset σ1 (tr j) (.inr (9, tV (upd (C.2.2.2 j) 0 w)))) c1 (A 0) n (C.1, C.2.1, C.2.2.1, updT C.2.2.2 j (upd (C.2.2.2 j) 0 w)) := ⟨t, q, p, tr, g2, hc1⟩
  have f4 := f2.kf hc1 g2
  have hT3 := hR.op (0, upd (upd z 9 0) 11 (B 0 (58 + 15 * j + 0)), upd (B 0) (58 + 15 * j + 0) w) rfl (fun i h9 h11 => (upd_ne h11).trans (upd_ne h9)) hz hk (hV.addr (by omega)) (addr_cr hC hn hj)
  have hq := hq rfl _ c1 ⟨n, s, _, n2, C2, _, _, _, b, l, cd, og, hs, out, ol, h1.setMain f4 h3, hT3⟩ (f1.tr (h1.ea (i := 0) (by decide) f4))
  rw [show (0, upd (upd z 9 0) 11 (B 0 (58 + 15 * j + 0)), upd (B 0) (58 + 15 * j + 0) w).2.1 11 = C.2.2.2 j 0 from (upd_same (upd z 9 0) 11 _).trans eA.symm] at hq
  refine sX12_readdress_75 hΓ rfl ?_
  exact sX12_readdress_77 hΓ hq
theorem tq_passTicks (hΓ : Ok G κ mX12_passTicks (d + 8) Q X) (h : TD G σ c x A am n C n2 C2 Nh Ch u b l cd og hs out ol) (hR : TR z B n s C n2 C2 Nh Ch u b l cd og hs out ol) {k : Nat} (hk : k ≤ 8) (hu : u = nI k) (hz : z 8 = nI k) (hx1 : rIn y 1 60 = false → X "java/lang/IllegalArgumentException" σ) (hx2 : rIn y 1 60 = true → ¬ (oWait n s (upd z 9 0) (B 0) y).1 = 0 → X "java/lang/IllegalStateException" σ) (hq : rIn y 1 60 = true → (oWait n s (upd z 9 0) (B 0) y).1 = 0 → ∀ (σ1 : Hp) (c1 : Nat → Nat), RLx G σ1 c1 x A am (fZ (oWait n s (upd z 9 0) (B 0) y) k) (fB B (oWait n s (upd z 9 0) (B 0) y) k) → KF (NA am) σ c σ1 c1 → Q (some (.int ((oWait n s (upd z 9 0) (B 0) y).2.1 11))) σ1) : AW G κ (cs + 7 + 1 + 1) (ss + 96 + 6 + 6) 0 [lR x, lI y, none] [] σ := by
  refine sX12_passTicks_0 hΓ rfl ?_
  refine sX12_passTicks_1 hΓ ?_
  refine sX12_passTicks_2 hΓ ?_
  refine sX12_passTicks_4 hΓ 1 6 (Nat.le_of_ble_eq_true rfl) (fun κ_4 hΓ_4 => tx_reqRange hΓ_4 hx1 (fun ec => ?_) )
  show AW G κ _ _ 7 _ _ _
  have hx2 := hx2 ec
  have hq := hq ec
  obtain ⟨⟨hV, hC⟩, -⟩ := id hR
  obtain ⟨t, q, p, tr, g, hc⟩ := h.m
  subst hu
  have hS : C.1 4 = B 0 0 := hC.1.1.symm
  obtain ⟨m, hm, h0⟩ := hV.t0
  obtain ⟨kk, hkk, hy⟩ : ∃ kk, kk ≤ 60 ∧ y = nI kk := by
    obtain ⟨e1, e2⟩ := rIn_t ec
    refine rIn_le (n := 60) (by decide) (rIn_in ?_ (Int32.not_lt.mpr e2))
    exact Int32.not_lt.mpr (Int32.le_trans (by decide) e1)
  refine sX12_passTicks_7 hΓ rfl ?_
  refine sX12_passTicks_8 hΓ h.o rfl ?_
  refine sX12_passTicks_11 hΓ rfl ?_
  refine sX12_passTicks_12 hΓ 0 0 (Nat.le_of_ble_eq_true rfl) g.o (fun κ_12 hΓ_12 => sr_hasTicksLeft hΓ_12 g ?_)
  show AW G κ _ _ 15 _ _ _
  refine sX12_passTicks_15 hΓ (fun c15 => ?_) (fun c15 => ?_)
  rotate_left
  · exact sX12_passTicks_18 hΓ (Nat.le_of_ble_eq_true rfl) (hx2 (by have e9 := of_decide_eq_true (bN_0 c15); unfold oWait; rw [if_pos (by rw [← hS]; exact e9)]; exact (show ¬ (2 : Int32) = 0 by decide)))
  have e15 : ¬ 10000 < B 0 0 + y := by
    have e9 := bN_n c15
    rw [hS] at e9
    exact of_decide_eq_false e9
  refine aw_less (cs2 := cs + 7) (ss2 := ss + 96) (by omega) (by omega) ?_
  refine sX12_passTicks_29 hΓ rfl ?_
  refine sX12_passTicks_30 hΓ h.o rfl ?_
  refine sX12_passTicks_33 hΓ rfl ?_
  refine sX12_passTicks_34 hΓ h.o rfl ?_
  refine sX12_passTicks_37 hΓ 7 96 (Nat.le_of_ble_eq_true rfl) h.2.2.1.choose_spec.1.choose_spec.1 (fun κ_37 hΓ_37 => td_remember hΓ_37 h hk (fun σ1 c1 h1 f1 r1 => ?_) )
  show AW G κ _ _ 40 _ _ _
  obtain ⟨t1, q1, p1, tr1, g1, hc1⟩ := h1.m
  refine sX12_passTicks_40 hΓ rfl ?_
  refine sX12_passTicks_41 hΓ h1.o rfl ?_
  refine sX12_passTicks_44 hΓ g1.o rfl ?_
  refine sX12_passTicks_47 hΓ g1.qg.1 rfl ?_
  refine sX12_passTicks_50 hΓ ?_
  refine sX12_passTicks_51 hΓ rfl ?_
  refine sX12_passTicks_52 hΓ h1.o rfl ?_
  refine sX12_passTicks_55 hΓ rfl ?_
  refine sX12_passTicks_56 hΓ 0 0 (Nat.le_of_ble_eq_true rfl) g1.o (fun κ_56 hΓ_56 => sc_wait hΓ_56 h1.m hV hC hy (by omega) (upd z 9 0) (fun e0 => absurd (by unfold oWait; rw [if_neg e15]) e0) (fun e0 σ2 C7 h3 h2 f2 => ?_) )
  · show AW G κ _ _ 59 _ _ _
    have hT2 := h1.setMain f2 h3
    obtain ⟨t2, q2, p2, tr2, g2, hc2⟩ := h3
    have eO : oWait n s (upd z 9 0) (B 0) y = (0, upd (upd z 9 0) 11 (rPsN n s (B 0) kk), rPs n s (B 0) kk) := by
      unfold oWait
      rw [if_neg e15, hy, nI_clamp (by omega)]
    have hmk : m + kk ≤ 10000 := by
      rw [h0, hy, nI_add] at e15
      exact Nat.le_of_not_lt (fun e9 => e15 (nI_lt (a := 10000) e9 (by omega)))
    have hT3 := hR.op (oWait n s (upd z 9 0) (B 0) y) e0 (fun j h9 h11 => by rw [eO]; exact (upd_ne h11).trans (upd_ne h9)) hz hk (by rw [eO]; exact hV.rPs kk) h2
    have hq := hq e0 σ2 c1 ⟨n, s, C7, n2, C2, _, _, _, b, l, cd, og, hs, out, ol, hT2, hT3⟩ (f1.tr (h1.ea (i := 0) (by decide) f2))
    have e6 : (oWait n s (upd z 9 0) (B 0) y).2.1 11 = C7.2.1 3 - C.2.1 3 := by
      have e8 := h2.1.2.2.2.2.2.2.2.1
      rw [eO] at e8
      have e7 : rPs n s (B 0) kk 8 = C7.2.1 3 := e8
      rw [eO, ← e7, (pass_cr hV hC h0 hmk).1.2.2.2.2.2.2.2.1, sent_cr hV hC h0 kk hmk, sub_add_n]
      exact upd_same (upd z 9 0) 11 (rPsN n s (B 0) kk)
    rw [e6] at hq
    refine sX12_passTicks_59i hΓ ?_
    refine sX12_passTicks_60 hΓ rfl ?_
    refine sX12_passTicks_61 hΓ hT2.o rfl ?_
    refine sX12_passTicks_64 hΓ g2.o rfl ?_
    refine sX12_passTicks_67 hΓ g2.qg.1 rfl ?_
    refine sX12_passTicks_70 hΓ rfl ?_
    refine sX12_passTicks_71 hΓ ?_
    exact sX12_passTicks_72 hΓ hq
theorem tq_undo (hΓ : Ok G κ mX12_undo (d + 7) Q X) (h : TD G σ c x A am n C n2 C2 Nh Ch u b l cd og hs out ol) (hR : TR z B n s C n2 C2 Nh Ch u b l cd og hs out ol) {k : Nat} (hk : k ≤ 8) (hu : u = nI k) (hz : z 8 = nI k) (hx : k = 0 → X "java/lang/IllegalStateException" σ) (hq : ¬ k = 0 → ∀ (σ1 : Hp) (c1 : Nat → Nat) (ρ1 : Nat → Int32), (∀ j, j < 184 → ρ1 j = hRow (B 5) (k - 1) j) → RLx G σ1 c1 x A am (upd (upd z 9 0) 8 (nI (k - 1))) (updA B 0 ρ1) → KF (NA am) σ c σ1 c1 → Q (some (.int (nI (k - 1)))) σ1) : AW G κ (cs + 7 + 1) (ss + 96 + 6) 0 [lR x] [] σ := by
  obtain ⟨v, hv⟩ := h.cnt
  subst hu
  refine sX12_undo_0 hΓ rfl ?_
  refine sX12_undo_1 hΓ h.o rfl ?_
  refine sX12_undo_4 hΓ hv rfl ?_
  refine sX12_undo_7 hΓ (fun c7 => ?_) (fun c7 => ?_)
  rotate_left
  · exact sX12_undo_10 hΓ (Nat.le_of_ble_eq_true rfl) (hx ((nI_eq (b := 0) (by omega) (by decide)).mp c7))
  have k0 : ¬ k = 0 := fun e => c7 (by rw [e]; rfl)
  have hq := hq k0
  obtain ⟨k1, rfl⟩ : ∃ k1, k = k1 + 1 := ⟨k - 1, by omega⟩
  refine aw_less (cs2 := cs + 7) (ss2 := ss + 96) (by omega) (by omega) ?_
  refine sX12_undo_21 hΓ rfl ?_
  refine sX12_undo_22 hΓ h.o rfl ?_
  refine sX12_undo_25 hΓ rfl ?_
  refine sX12_undo_26 hΓ h.o rfl ?_
  refine sX12_undo_29 hΓ 7 96 (Nat.le_of_ble_eq_true rfl) hv (fun κ_29 hΓ_29 => td_takeBack hΓ_29 h (by omega) (fun σ1 c1 h1 f1 => ?_) )
  show AW G κ _ _ 32 _ _ _
  obtain ⟨v1, hv1⟩ := h1.cnt
  obtain ⟨⟨a1, a2⟩, ⟨k2, b1, b2, b3, b4⟩, t3, t4, t5, t6⟩ := hR
  have ek : k2 = k1 + 1 := (nI_eq (by omega) (by omega)).mp (b3.symm.trans hz)
  subst ek
  obtain ⟨s9, ρ9, r1, r2, r3⟩ := b4 0 (by omega)
  have hcp : CR ρ9 (Nh 0) s9 (cCpy C (Ch 0)) := by
    obtain ⟨l9, hl9, hQ9⟩ := r1.1.2
    exact r2.cp (by rw [rQ_lt hQ9 hl9]; exact hl9)
  have hT3 : TR (upd (upd z 9 0) 8 (nI k1)) (updA B 0 ρ9) (Nh 0) s9 (cCpy C (Ch 0)) n2 C2 (bNn Nh) (bCc Ch) (nI k1) b l cd og hs out ol := by
    refine ⟨⟨by rw [updA_same]; exact r1, by rw [updA_same]; exact hcp⟩, ⟨k1, by omega, rfl, upd_same _ _ _, fun i hi => ?_⟩, ?_, ?_, ?_, ?_⟩
    · rw [updA_ne (by decide)]
      unfold bNn bCc
      rw [if_neg (by omega), if_neg (by omega)]
      have := b4 (i + 1) (by omega)
      rw [show k1 + 1 - 1 - (i + 1) = k1 - 1 - i by omega] at this
      exact this
    · rw [updA_ne (by decide), upd_ne (by decide), upd_ne (by decide)]; exact t3
    · rw [updA_ne (by decide), upd_ne (by decide), upd_ne (by decide)]; exact t4
    · rw [updA_ne (by decide), upd_ne (by decide), upd_ne (by decide)]; exact t5
    · rw [upd_ne (by decide), upd_ne (by decide), upd_ne (by decide), upd_ne (by decide)]; exact t6
  have hq := hq σ1 c1 ρ9 (fun j hj => r3 j hj) ⟨_, _, _, n2, C2, _, _, _, b, l, cd, og, hs, out, ol, h1, hT3⟩ f1
  refine sX12_undo_32 hΓ rfl ?_
  refine sX12_undo_33 hΓ h1.o rfl ?_
  refine sX12_undo_36 hΓ hv1 rfl ?_
  exact sX12_undo_39 hΓ hq
theorem tq_saveSnapshot (hΓ : Ok G κ mX12_saveSnapshot (d + 5) Q X) (h : TD G σ c x A am n C n2 C2 Nh Ch u b l cd og hs out ol) (hR : TR z B n s C n2 C2 Nh Ch u b l cd og hs out ol) (hq : ∀ (σ1 : Hp) (c1 : Nat → Nat), RLx G σ1 c1 x A am (upd (upd z 9 0) 12 1) (updA B 4 (B 0)) → KF (NA am) σ c σ1 c1 → Q none σ1) : AW G κ (cs + 7) (ss + 96) 0 [lR x] [] σ := by
  obtain ⟨d1, d2, d3⟩ := h.2.2.2.2.2.1
  refine sX12_saveSnapshot_0 hΓ rfl ?_
  refine sX12_saveSnapshot_1 hΓ h.o rfl ?_
  refine sX12_saveSnapshot_4 hΓ rfl ?_
  refine sX12_saveSnapshot_5 hΓ h.o rfl ?_
  refine sX12_saveSnapshot_8 hΓ 7 96 (Nat.le_of_ble_eq_true rfl) h.2.1.2.2.o.choose_spec.choose_spec (fun κ_8 hΓ_8 => sy_copyFrom hΓ_8 h.2.1.2.2 h.m d2 (fun σ1 c1 h2 f1 => ?_) )
  show AW G κ _ _ 11 _ _ _
  have h1 := h.setSnap f1 h2
  obtain ⟨h4, f4⟩ := h1.setO 1 ol
  refine sX12_saveSnapshot_11 hΓ rfl ?_
  refine sX12_saveSnapshot_12 hΓ ?_
  refine sX12_saveSnapshot_13 hΓ h1.o (Or.inr rfl) (Nat.le_of_ble_eq_true rfl) ?_
  refine sX12_saveSnapshot_16 hΓ (hq _ c1 ⟨n, s, C, n, cCpy C2 C, Nh, Ch, u, b, l, cd, og, 1, out, ol, h4, ?_⟩ ((h.ea (i := 2) (by decide) f1).tr (h1.ex f4)))
  obtain ⟨t1, t2, t3, t4, t5, t6⟩ := hR
  refine ⟨by rw [updA_ne (by decide)]; exact t1, ?_, ⟨true, rfl, upd_same _ _ _, fun _ => ?_⟩, ?_, ?_, ?_⟩
  · rw [updA_ne (by decide), upd_ne (by decide), upd_ne (by decide)]; exact t2
  · rw [updA_same]
    exact HRw.cp ⟨s, B 0, t1.1, t1.2, fun _ _ => rfl⟩
  · rw [updA_ne (by decide), upd_ne (by decide), upd_ne (by decide)]; exact t4
  · rw [updA_ne (by decide), upd_ne (by decide), upd_ne (by decide)]; exact t5
  · rw [upd_ne (by decide), upd_ne (by decide), upd_ne (by decide), upd_ne (by decide)]; exact t6
theorem tq_restoreSnapshot (hΓ : Ok G κ mX12_restoreSnapshot (d + 7) Q X) (h : TD G σ c x A am n C n2 C2 Nh Ch u b l cd og hs out ol) (hR : TR z B n s C n2 C2 Nh Ch u b l cd og hs out ol) {hb : Bool} (hz : z 12 = bI hb) (hx : hb = false → X "java/lang/IllegalStateException" σ) (hq : hb = true → ∀ (σ1 : Hp) (c1 : Nat → Nat) (ρ1 : Nat → Int32), (∀ j, j < 184 → ρ1 j = B 4 j) → RLx G σ1 c1 x A am (upd (upd z 9 0) 8 0) (updA B 0 ρ1) → KF (NA am) σ c σ1 c1 → Q (some (.int (B 4 0))) σ1) : AW G κ (cs + 7 + 1) (ss + 96 + 6) 0 [lR x] [] σ := by
  obtain ⟨d1, d2, d3⟩ := h.2.2.2.2.2.1
  obtain ⟨t1, ⟨k2, b1, b2, b3, b4⟩, ⟨hb2, s1, s2, s3⟩, t4, t5, t6⟩ := hR
  have eh : hs = bI hb := s1.trans (s2.symm.trans hz)
  refine sX12_restoreSnapshot_0 hΓ rfl ?_
  refine sX12_restoreSnapshot_1 hΓ h.o rfl ?_
  refine sX12_restoreSnapshot_4 hΓ (fun c4 => ?_) (fun c4 => ?_)
  rotate_left
  · exact sX12_restoreSnapshot_7 hΓ (Nat.le_of_ble_eq_true rfl) (hx (bI_0 (eh.symm.trans c4)))
  have et : hb = true := bI_n0 (fun e => c4 (eh.trans e))
  have et2 : hb2 = true := bI_n0 (fun e => c4 (s1.trans e))
  have hq := hq et
  obtain ⟨s9, ρ9, r1, r2, r3⟩ := s3 et2
  have hcp : CR ρ9 n2 s9 (cCpy C C2) := by
    obtain ⟨l9, hl9, hQ9⟩ := r1.1.2
    exact r2.cp (by rw [rQ_lt hQ9 hl9]; exact hl9)
  refine aw_less (cs2 := cs + 7) (ss2 := ss + 96) (by omega) (by omega) ?_
  refine sX12_restoreSnapshot_18 hΓ rfl ?_
  refine sX12_restoreSnapshot_19 hΓ h.o rfl ?_
  refine sX12_restoreSnapshot_22 hΓ rfl ?_
  refine sX12_restoreSnapshot_23 hΓ h.o rfl ?_
  refine sX12_restoreSnapshot_26 hΓ 7 96 (Nat.le_of_ble_eq_true rfl) h.m.o.choose_spec.choose_spec (fun κ_26 hΓ_26 => sy_copyFrom hΓ_26 h.m h.2.1.2.2 (Ne.symm d2) (fun σ1 c1 h2 f1 => ?_) )
  show AW G κ _ _ 29 _ _ _
  have h1 := h.setMain f1 h2
  obtain ⟨v1, hv1⟩ := h1.cnt
  refine sX12_restoreSnapshot_29 hΓ rfl ?_
  refine sX12_restoreSnapshot_30 hΓ h1.o rfl ?_
  refine sX12_restoreSnapshot_33 hΓ 0 0 (Nat.le_of_ble_eq_true rfl) hv1 (fun κ_33 hΓ_33 => td_clear hΓ_33 h1 (fun σ2 h3 f3 => ?_) )
  show AW G κ _ _ 36 _ _ _
  have hT3 : TR (upd (upd z 9 0) 8 0) (updA B 0 ρ9) n2 s9 (cCpy C C2) n2 C2 Nh Ch 0 b l cd og hs out ol := by
    refine ⟨⟨by rw [updA_same]; exact r1, by rw [updA_same]; exact hcp⟩, ⟨0, by decide, rfl, upd_same _ _ _, fun i hi => absurd hi (Nat.not_lt_zero i)⟩, ⟨hb2, s1, ?_, ?_⟩, ?_, ?_, ?_⟩
    · rw [upd_ne (by decide), upd_ne (by decide)]; exact s2
    · rw [updA_ne (by decide)]; exact s3
    · rw [updA_ne (by decide), upd_ne (by decide), upd_ne (by decide)]; exact t4
    · rw [updA_ne (by decide), upd_ne (by decide), upd_ne (by decide)]; exact t5
    · rw [upd_ne (by decide), upd_ne (by decide), upd_ne (by decide), upd_ne (by decide)]; exact t6
  have hq := hq σ2 c1 ρ9 r3 ⟨_, _, _, n2, C2, _, _, _, b, l, cd, og, hs, out, ol, h3, hT3⟩ ((h.ea (i := 0) (by decide) f1).tr f3)
  rw [show B 4 0 = (cCpy C C2).1 4 from (r3 0 (by decide)).symm.trans hcp.1.1] at hq
  obtain ⟨t, q, p, tr, g, hc⟩ := h3.m
  refine sX12_restoreSnapshot_36 hΓ rfl ?_
  refine sX12_restoreSnapshot_37 hΓ h3.o rfl ?_
  refine sX12_restoreSnapshot_40 hΓ g.o rfl ?_
  exact sX12_restoreSnapshot_43 hΓ hq
end Rel2
