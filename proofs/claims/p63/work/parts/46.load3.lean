/-! the class's parser: a railway whole -/
/-- the parser between texts -/
def PZ (G : Gl) (σ : Hp) (c : Nat → Nat) (pr tk inp : Nat) (b : Nat → Int32) (cd og cc : Int32) : Prop :=
  (σ pr = some (.inr (5, prV tk cd og cc)) ∧ (∃ l k s e w, σ tk = some (.inr (8, tkV inp l k s e w))) ∧ ∃ (v : Nat) (n : Int32), II G σ inp v n b ∧ c inp = inp ∧ c v = inp) ∧ (c pr = pr ∧ c tk = pr)
theorem PG.z {G : Gl} {σ : Hp} {c : Nat → Nat} {pr tk inp : Nat} {b : Nat → Int32} {L p : Nat} {cd og cc : Int32} (h : PG G σ c pr tk inp b L p cd og cc) : PZ G σ c pr tk inp b cd og cc := ⟨⟨h.1.1, ⟨_, _, _, _, _, h.1.2.1⟩, h.1.2.2⟩, h.2.1⟩
theorem PQ.z {G : Gl} {σ : Hp} {c : Nat → Nat} {pr tk inp : Nat} {b : Nat → Int32} {L : Nat} {P : Pt} {cc : Int32} (h : PQ G σ c pr tk inp b L P cc) : PZ G σ c pr tk inp b (nI (pR P)) (oOf P) cc := by
  obtain ⟨-, p, h, -⟩ := h
  exact h.z
theorem lD_E {b : Nat → Int32} {L t : Nat} (h : pR (lD b L (pBeg b L t)) = 0) : 1 ≤ pE (lD b L (pBeg b L t)) := by
  have h0 : pOk b L (pBeg b L t) := pBeg_ok b L t
  have e1 : pR (pRead b L 1 20 (lB b L (pBeg b L t))) = 0 := (pExp_z h).2
  have e2 : pR (lB b L (pBeg b L t)) = 0 := (pLook_z (pGo_z e1)).2.1
  have e3 : pR (lA b L (pBeg b L t)) = 0 := (pLook_z (pGo_z e2)).2.1
  obtain ⟨e4, -⟩ := pCk_z (by decide) (pGo_z e3)
  have e5 : (txB 0).length = pE (pBeg b L t) - pS (pBeg b L t) := by
    unfold pWrd pW0 at e4
    rw [Bool.and_eq_true, Bool.and_eq_true, Bool.and_eq_true, beq_iff_eq, beq_iff_eq, beq_iff_eq] at e4
    exact e4.1.2.2
  have e6 : 5 = pE (pBeg b L t) - pS (pBeg b L t) := e5
  have m1 : pE (pBeg b L t) ≤ pE (lA b L (pBeg b L t)) := by
    have := pGo_e (pCk_ok (b := b) (L := L) (c := pWrd b (pBeg b L t) 0) (x := 1) (by decide) h0)
    rw [(pCk_sek _ _ _).2.1] at this
    exact this
  have m2 := pRead_e (lo := 4) (hi := 24) (lA_ok h0)
  have m3 := pRead_e (lo := 1) (hi := 20) (lB_ok h0)
  have m4 := pExp_e (c := 59) (pRead_ok (lo := 1) (hi := 20) (lB_ok h0))
  have m2 : pE (lA b L (pBeg b L t)) ≤ pE (lB b L (pBeg b L t)) := m2
  have m4 : pE (pRead b L 1 20 (lB b L (pBeg b L t))) ≤ pE (lD b L (pBeg b L t)) := m4
  omega
section ClassLoad3
variable {G : Gl} {κ : Kx} {d : Nat} {Q : Option Value → Hp → Prop} {X : String → Hp → Prop} {cs ss pc : Nat} {M : List (Option LV)} {st : List Value} {σ σ1 : Hp} {c c1 : Nat → Nat} {pr tk inp : Nat} {b : Nat → Int32} {L p a s n : Nat} {cd og cc : Int32} {P : Pt} {ρ : Nat → Int32} {C : Ct} {W : Nat → Prop}
theorem PZ.keep (h : PZ G σ c pr tk inp b cd og cc) (f : KF W σ c σ1 c1) (h1 : ¬ W pr) (h2 : ¬ W inp) : PZ G σ1 c1 pr tk inp b cd og cc := by
  obtain ⟨⟨g1, ⟨l, k, s, e, w, g2⟩, v, n, ⟨g3, g4⟩, k3, k4⟩, k1, k2⟩ := h
  obtain ⟨a1, b1, -⟩ := f pr _ g1
  obtain ⟨a2, b2, -⟩ := f tk _ g2
  obtain ⟨a3, b3, -⟩ := f inp _ g3
  obtain ⟨a4, b4, -⟩ := f v _ g4
  exact ⟨⟨b1 (by rw [k1]; exact h1), ⟨l, k, s, e, w, b2 (by rw [k2]; exact h1)⟩, v, n, ⟨b3 (by rw [k3]; exact h2), b4 (by rw [k4]; exact h2)⟩, a3.trans k3, a4.trans k4⟩, a1.trans k1, a2.trans k2⟩
theorem PZ.o (h : PZ G σ c pr tk inp b cd og cc) : σ pr = some (.inr (5, prV tk cd og cc)) := h.1.1
theorem sq_begin (hΓ : Ok G κ mX7_begin (d + 4) Q X) (h : PZ G σ c pr tk inp b cd og cc) {x : Int32} (hx : x = nI L) (hL5 : L ≤ 500) (hb : BB b L) (t : Nat) (hq : ∀ σ1 : Hp, PQ G σ1 c pr tk inp b L (pBeg b L t) cc → KF (fun x => x = pr) σ c σ1 c → Q none σ1) : AW G κ cs ss 0 [lR pr, lI x] [] σ := by
  obtain ⟨⟨g1, ⟨l, k, s, e, w, g2⟩, v, n, ⟨g3, g4⟩, k3, k4⟩, k1, k2⟩ := h
  have ne1 : tk ≠ pr := obj_ne g2 g1 (by decide)
  have ne2 : inp ≠ pr := obj_ne g3 g1 (by decide)
  have ne3 : inp ≠ tk := obj_ne g3 g2 (by decide)
  have ne4 : v ≠ pr := Ne.symm (oa_ne g1 g4)
  have ne5 : v ≠ tk := Ne.symm (oa_ne g2 g4)
  refine sX7_begin_0 hΓ rfl ?_
  refine sX7_begin_1 hΓ ?_
  refine sX7_begin_2 hΓ g1 (Nat.le_of_ble_eq_true rfl) ?_
  refine sX7_begin_5 hΓ rfl ?_
  refine sX7_begin_6 hΓ ?_
  refine sX7_begin_7 hΓ (hset_same _ _ _) (Nat.le_of_ble_eq_true rfl) ?_
  rw [hset_hset]
  have q1 : hset σ pr (.inr (5, prV tk 0 (-1) cc)) tk = some (.inr (8, tkV inp l k s e w)) := by rw [hset_ne ne1]; exact g2
  refine sX7_begin_10 hΓ rfl ?_
  refine sX7_begin_11 hΓ (hset_same _ _ _) rfl ?_
  refine sX7_begin_14 hΓ rfl ?_
  refine sX7_begin_15 hΓ 0 0 (Nat.le_of_ble_eq_true rfl) q1 (fun κ_15 hΓ_15 => sk_begin hΓ_15 q1 (v := v) (n := n) ⟨by rw [hset_ne ne2]; exact g3, by rw [hset_ne ne4]; exact g4⟩ hL5 hx hb ?_)
  show AW G κ _ _ 18 _ _ _
  refine sX7_begin_18 hΓ (hq _ ⟨Nat.zero_le 4, 0, ⟨⟨?_, hset_same _ _ _, v, n, ⟨?_, ?_⟩, k3, k4⟩, ⟨k1, k2⟩, Nat.zero_le L, hL5, hb⟩, fun _ => ⟨rfl, rfl, rfl⟩⟩ ((KF.set g1 k1).tr (KF.set q1 k2)))
  · rw [hset_ne (Ne.symm ne1), hset_same]; rfl
  · rw [hset_ne ne3, hset_ne ne2]; exact g3
  · rw [hset_ne ne5, hset_ne ne4]; exact g4
theorem ne_ai {n : Nat} {C : Ct} (h : RY G σ c a n C) (h2 : PZ G σ c pr tk inp b cd og cc) : a ≠ pr ∧ a ≠ inp := by
  obtain ⟨t, q, o⟩ := h.o
  obtain ⟨⟨g1, -, v, m, ⟨g3, -⟩, -⟩, -⟩ := h2
  exact ⟨obj_ne o g1 (by decide), obj_ne o g3 (by decide)⟩
theorem sq_parseRailway (hΓ : Ok G κ mX7_parseRailway (d + 8) Q X) (h : PZ G σ c pr tk inp b cd og cc) (hY : RY G σ c a n C) {x : Int32} (hx : x = nI L) (hL5 : L ≤ 500) (hb : BB b L) (t : Nat) (hq : ∀ (σ1 : Hp) (c1 : Nat → Nat), LDS G σ1 c1 pr tk inp b L a (lS b L (pBeg b L t)) (lF b L (pBeg b L t)).1 (lF b L (pBeg b L t)).2.1 (lF b L (pBeg b L t)).2.2 cc → KF (WA pr a) σ c σ1 c1 → Q (some (.int (bI (pR (lF b L (pBeg b L t)).1 == 0)))) σ1) : AW G κ (cs + 15) (ss + 154) 0 [lR pr, lI x, lR a, none, none, none] [] σ := by
  have hP0 : pOk b L (pBeg b L t) := pBeg_ok b L t
  have hs := lS_in (b := b) (L := L) (P := (pBeg b L t))
  refine sX7_parseRailway_0 hΓ rfl ?_
  refine sX7_parseRailway_1 hΓ rfl ?_
  refine sX7_parseRailway_2 hΓ 0 0 (Nat.le_of_ble_eq_true rfl) h.o (fun κ_2 hΓ_2 => sq_begin hΓ_2 h hx hL5 hb t (fun σ1 h1 f1 => ?_))
  show AW G κ _ _ 5 _ _ _
  refine sX7_parseRailway_5 hΓ rfl ?_
  refine sX7_parseRailway_6 hΓ ?_
  refine sX7_parseRailway_8 hΓ 0 0 (Nat.le_of_ble_eq_true rfl) h1.o (fun κ_8 hΓ_8 => sq_takeWord hΓ_8 h1 (t := 0) (by decide) (fun σ2 h2 f2 => ?_))
  show AW G κ _ _ 11 _ _ _
  refine sX7_parseRailway_11 hΓ rfl ?_
  refine sX7_parseRailway_12 hΓ ?_
  refine sX7_parseRailway_13 hΓ ?_
  refine sX7_parseRailway_15 hΓ 0 0 (Nat.le_of_ble_eq_true rfl) h2.o (fun κ_15 hΓ_15 => sq_takeNumber hΓ_15 h2 (lo := 4) (hi := 24) rfl rfl (by decide) (by decide) (fun σ3 h3 f3 => ?_))
  show AW G κ _ _ 18 _ _ _
  refine sX7_parseRailway_18 hΓ ?_
  refine sX7_parseRailway_19 hΓ rfl ?_
  refine sX7_parseRailway_20 hΓ ?_
  refine sX7_parseRailway_21 hΓ ?_
  refine sX7_parseRailway_23 hΓ 0 0 (Nat.le_of_ble_eq_true rfl) h3.o (fun κ_23 hΓ_23 => sq_takeNumber hΓ_23 h3 (lo := 1) (hi := 20) rfl rfl (by decide) (by decide) (fun σ4 h4 f4 => ?_))
  show AW G κ _ _ 26 _ _ _
  refine sX7_parseRailway_26 hΓ ?_
  refine sX7_parseRailway_28 hΓ rfl ?_
  refine sX7_parseRailway_29 hΓ ?_
  refine sX7_parseRailway_30 hΓ 0 0 (Nat.le_of_ble_eq_true rfl) h4.o (fun κ_30 hΓ_30 => sq_take hΓ_30 h4 (k := 3) rfl (by decide) (by decide) (fun σ5 h5 f5 => ?_))
  show AW G κ _ _ 33 _ _ _
  have hD : PQ G _ c pr tk inp b L (lD b L (pBeg b L t)) cc := h5
  have fD := (((((KF.rf.tr f1).tr f2).tr f3).tr f4).tr f5)
  obtain ⟨hap, hai⟩ := hD.ne (hY.keep fD (ne_ai hY h).1)
  have hR1 := hY.keep fD hap
  obtain ⟨t1, q1, o1⟩ := hR1.o
  refine sX7_parseRailway_33 hΓ rfl ?_
  refine sX7_parseRailway_34 hΓ rfl ?_
  refine sX7_parseRailway_35 hΓ rfl ?_
  refine sX7_parseRailway_37 hΓ (cs := cs + 14) (ss := ss + 154) 1 0 (Nat.le_of_ble_eq_true rfl) o1 (fun κ_l hΓ_l => sy_lay (cs := 0) (ss := 0) hΓ_l hR1 (fun σ3 c3 h3 f3 => ?_))
  show AW G κ _ _ 40 _ _ _
  have hD3 := hD.keep f3 (Ne.symm hap) (Ne.symm hai)
  have g3 : KF (WA pr a) σ c σ3 c3 := (fD.eq (V := WA pr a) (Or.inl rfl)).tr (f3.eq (V := WA pr a) (Or.inr rfl))
  have l3 : LDS G σ3 c3 pr tk inp b L a (lS b L (pBeg b L t)) (lD b L (pBeg b L t)) (rBeg (nI (lS b L (pBeg b L t))) (nI (lC b L (pBeg b L t)))) 0 cc := ⟨hD3, _, h3, rfl, fun _ => ⟨lay_cr hs.2, zT_beg _ _⟩⟩
  refine sX7_parseRailway_40 hΓ rfl ?_
  refine sX7_parseRailway_41 hΓ rfl ?_
  refine sX7_parseRailway_42 hΓ 0 0 (Nat.le_of_ble_eq_true rfl) hD3.o (fun κ_t hΓ_t => sq_tunnels hΓ_t l3 hs.1 hs.2 (lD_ok hP0) lD_E (fun σ4 h4 f4 => ?_))
  show AW G κ _ _ 45 _ _ _
  have h4 : LDS G σ4 c3 pr tk inp b L a (lS b L (pBeg b L t)) (lE b L (pBeg b L t)).1 (lE b L (pBeg b L t)).2 0 cc := h4
  refine sX7_parseRailway_45 hΓ rfl ?_
  refine sX7_parseRailway_46 hΓ rfl ?_
  refine sX7_parseRailway_47 hΓ (cs := cs + 12) (ss := ss + 132) 2 22 (Nat.le_of_ble_eq_true rfl) h4.1.o (fun κ_u hΓ_u => sq_takeTrain (cs := 0) (ss := 0) hΓ_u h4 hs.1 hs.2 (fun σ5 c5 h5 f5 => ?_))
  show AW G κ _ _ 50 _ _ _
  have g5 := g3.tr (f4.tr f5)
  suffices loop : ∀ (m i : Nat) (x5 : Int32) (σ6 : Hp) (c6 : Nat → Nat) (Y : Yt), i + m = 7 → 1 ≤ i → x5 = nI i → LDS G σ6 c6 pr tk inp b L a (lS b L (pBeg b L t)) Y.1 Y.2.1 Y.2.2 cc → KF (WA pr a) σ c σ6 c6 → (pR Y.1 = 0 → Y.2.2 = i) → qTrs b L (lS b L (pBeg b L t)) (m + 1) Y = (lF b L (pBeg b L t)) → AW G κ (cs + 2 * m) (ss + 22 * m) 53 [lR pr, lI x, lR a, lI (nI (lS b L (pBeg b L t))), lI (nI (lC b L (pBeg b L t))), lI x5] [] σ6 by
    refine sX7_parseRailway_50 hΓ ?_
    refine sX7_parseRailway_51 hΓ ?_
    exact loop 6 1 _ _ _ (qTr b L (lS b L (pBeg b L t)) ((lE b L (pBeg b L t)).1, (lE b L (pBeg b L t)).2, 0)) rfl (Nat.le_refl 1) rfl h5 g5 (fun e => by unfold qTr at e ⊢; rw [if_pos e]) rfl
  have fin : ∀ (σ6 : Hp) (c6 : Nat → Nat) (Y : Yt) (cs ss : Nat) (x5 : Int32), LDS G σ6 c6 pr tk inp b L a (lS b L (pBeg b L t)) Y.1 Y.2.1 Y.2.2 cc → KF (WA pr a) σ c σ6 c6 → Y = (lF b L (pBeg b L t)) → AW G κ cs ss 78 [lR pr, lI x, lR a, lI (nI (lS b L (pBeg b L t))), lI (nI (lC b L (pBeg b L t))), lI x5] [] σ6 := by
    intro σ6 c6 Y cs ss x5 h6 g6 eY
    subst eY
    have hq : Q (some (.int (bI (pR (lF b L (pBeg b L t)).1 == 0)))) σ6 := hq σ6 c6 h6 g6
    refine sX7_parseRailway_78 hΓ rfl ?_
    refine sX7_parseRailway_79 hΓ 0 0 (Nat.le_of_ble_eq_true rfl) h6.1.o (fun κ_79 hΓ_79 => sq_hasFailed hΓ_79 h6.1 ?_)
    show AW G κ _ _ 82 _ _ _
    refine sX7_parseRailway_82 hΓ (fun c82 => ?_) (fun c82 => ?_)
    · have e := bI_n0 c82
      rw [show (pR (lF b L (pBeg b L t)).1 == 0) = false by cases e9 : pR (lF b L (pBeg b L t)).1 == 0 with | false => rfl | true => rw [e9] at e; exact Bool.noConfusion e] at hq
      refine sX7_parseRailway_89 hΓ ?_
      exact sX7_parseRailway_90 hΓ (by first | exact Or.inl rfl | exact Or.inr rfl) hq
    · have e := bI_0 c82
      rw [show (pR (lF b L (pBeg b L t)).1 == 0) = true by cases e9 : pR (lF b L (pBeg b L t)).1 == 0 with | true => rfl | false => rw [e9] at e; exact Bool.noConfusion e] at hq
      refine sX7_parseRailway_85 hΓ ?_
      refine sX7_parseRailway_86 hΓ ?_
      exact sX7_parseRailway_90 hΓ (by first | exact Or.inl rfl | exact Or.inr rfl) hq
  intro m
  induction m with
  | zero =>
    intro i x5 σ6 c6 Y hi h1 hx5 h6 g6 hn eY
    obtain ⟨hQ6, C6, hR6, hC6⟩ := h6
    have n6 := hR6.n6
    have e0 : ¬ pR Y.1 = 0 := fun e => by have := hn e; omega
    have eF : Y = (lF b L (pBeg b L t)) := (qTrs_f (fun e => e0 e.1)).symm.trans eY
    refine sX7_parseRailway_53 hΓ rfl ?_
    refine sX7_parseRailway_55 hΓ ?_
    refine sX7_parseRailway_57 hΓ (fun c57 => ?_) (fun c57 => absurd (by rw [hx5, show i = 7 by omega]; decide) c57)
    exact fin _ _ Y _ _ _ ⟨hQ6, C6, hR6, hC6⟩ g6 eF
  | succ m ih =>
    intro i x5 σ6 c6 Y hi h1 hx5 h6 g6 hn eY
    obtain ⟨cs9, hcs⟩ : ∃ k, k = cs + 2 * (m + 1) := ⟨_, rfl⟩
    obtain ⟨ss9, hss⟩ : ∃ k, k = ss + 22 * (m + 1) := ⟨_, rfl⟩
    rw [← hcs, ← hss]
    refine sX7_parseRailway_53 hΓ rfl ?_
    refine sX7_parseRailway_55 hΓ ?_
    refine sX7_parseRailway_57 hΓ (fun c57 => absurd (nI_ltz (i := 6) rfl hx5 (by decide) (by omega) c57) (by omega)) (fun c57 => ?_)
    refine sX7_parseRailway_60 hΓ rfl ?_
    refine sX7_parseRailway_61 hΓ 0 0 (Nat.le_of_ble_eq_true rfl) h6.1.o (fun κ_61 hΓ_61 => sq_isDone hΓ_61 h6.1 ?_)
    show AW G κ _ _ 64 _ _ _
    refine sX7_parseRailway_64 hΓ (fun c64 => ?_) (fun c64 => ?_)
    · have eF : Y = (lF b L (pBeg b L t)) := (qTrs_f (fun e => by rw [e.1] at c64; exact e.2 (beq_iff_eq.mp (bI_n0 c64)))).symm.trans eY
      exact fin _ _ Y _ _ _ h6 g6 eF
    · have e13 := bI_0 c64
      rw [Bool.or_eq_false_iff] at e13
      have e0 : pR Y.1 = 0 := by
        cases e9 : pR Y.1 == 0 with
        | true => exact beq_iff_eq.mp e9
        | false => rw [e9] at e13; exact Bool.noConfusion e13.1
      have ek : pK Y.1 ≠ 0 := beq_eq_false_iff_ne.mp e13.2
      have eY2 : qTrs b L (lS b L (pBeg b L t)) (m + 1) (qTr b L (lS b L (pBeg b L t)) Y) = (lF b L (pBeg b L t)) := (if_pos ⟨e0, ek⟩).symm.trans eY
      refine sX7_parseRailway_67 hΓ rfl ?_
      refine sX7_parseRailway_68 hΓ rfl ?_
      refine aw_less (cs2 := (cs + 2 * m) + 2) (ss2 := (ss + 22 * m) + 22) (by omega) (by omega) ?_
      refine sX7_parseRailway_69 hΓ (cs := cs + 2 * m) (ss := ss + 22 * m) 2 22 (Nat.le_of_ble_eq_true rfl) h6.1.o (fun κ_v hΓ_v => sq_takeTrain (cs := 0) (ss := 0) hΓ_v h6 hs.1 hs.2 (fun σ7 c7 h7 f7 => ?_))
      show AW G κ _ _ 72 _ _ _
      refine sX7_parseRailway_72 hΓ rfl ?_
      refine sX7_parseRailway_75 hΓ ?_
      refine ih (i + 1) _ σ7 c7 (qTr b L (lS b L (pBeg b L t)) Y) (by omega) (by omega) (lp_1 hx5) h7 (g6.tr f7) (fun e => ?_) eY2
      have e9 : (qTr b L (lS b L (pBeg b L t)) Y).2.2 = Y.2.2 + 1 := if_pos e
      rw [e9, hn e0]
end ClassLoad3
