/-! the class's parser: a railway -/
/-- the numbers of the trains that aren't there are 0 -/
def zT (ρ : Nat → Int32) (n : Nat) : Prop := ∀ k, n ≤ k → k < 6 → ∀ i, i < 15 → ρ (58 + 15 * k + i) = 0
theorem zT.put {ρ : Nat → Int32} {n i : Nat} {x : Int32} (h : zT ρ n) (hi : i < 58) : zT (upd ρ i x) n := fun k h1 h2 j hj => by
  rw [upd_ne (by omega)]; exact h k h1 h2 j hj
theorem zT.add {ρ : Nat → Int32} {n : Nat} {x y v w : Int32} (h : zT ρ n) : zT (rNewT ρ n x y v w) (n + 1) := fun k h1 h2 j hj => by
  unfold rNewT
  rw [upd_ne (by omega), upd_ne (by omega), upd_ne (by omega), upd_ne (by omega), upd_ne (by omega)]
  exact h k (by omega) h2 j hj
theorem zT_beg (x y : Int32) : zT (rBeg x y) 0 := fun k _ h2 j hj => by
  unfold rBeg
  rw [upd_ne (by omega), upd_ne (by omega)]
/-- while a railway is read: the parser, the railway at a, the reference's row -/
def LDS (G : Gl) (σ : Hp) (c : Nat → Nat) (pr tk inp : Nat) (b : Nat → Int32) (L a s : Nat) (P : Pt) (ρ : Nat → Int32) (n : Nat) (cc : Int32) : Prop :=
  PQ G σ c pr tk inp b L P cc ∧ ∃ C : Ct, RY G σ c a n C ∧ C.1 0 = nI s ∧ (pR P = 0 → CR ρ n s C ∧ zT ρ n)
def WA (pr a : Nat) : Nat → Prop := fun x => x = pr ∨ x = a
theorem qA_eq {b : Nat → Int32} {L n : Nat} {P : Pt} {w : Bool} (h0 : pR P = 0 → w = pWrd b P 3) : (w = true → ¬ n < 6 → pGo b L (pCk (pWrd b (pCk false 4 P) 3) 1 (pCk false 4 P)) = qA b L n P) ∧ ((w = true → n < 6) → pGo b L (pCk (pWrd b P 3) 1 P) = qA b L n P) := by
  unfold qA
  by_cases e0 : pR P = 0
  · have hw := h0 e0
    refine ⟨fun h1 h2 => ?_, fun h1 => ?_⟩
    · rw [h1] at hw
      rw [← hw, pCk_id (c := true) (Or.inl rfl), e0, decide_eq_false h2]
      have e4 : ¬ pR (pCk false 4 P) = 0 := by rw [pCk_R rfl e0]; decide
      rw [pCk_id (Or.inr e4)]
      rfl
    · by_cases c : pWrd b P 3 = true
      · rw [c, pCk_id (c := true) (Or.inl rfl), decide_eq_true (h1 (hw.trans c)), Bool.or_true, pCk_id (c := true) (Or.inl rfl)]
      · rw [Bool.eq_false_iff.mpr c, pCk_R rfl e0]
        exact congrArg (pGo b L) (pCk_id (Or.inl rfl)).symm
  · have hi : ∀ (c : Bool) (x : Nat), pCk c x P = P := fun c x => pCk_id (Or.inr e0)
    rw [hi, hi, hi]
    exact ⟨fun _ _ => rfl, fun _ => rfl⟩
/-- a number that must be new: where it is known already -/
theorem qU_old {b : Nat → Int32} {L : Nat} {P : Pt} (h0 : pR P = 0) : pGo b L (pCk (pR P != 0 || false) 3 P) = pCk false 3 P ∧ pR (pCk false 3 P) = 3 ∧ pA (pCk false 3 P) = pS P := by
  have e3 : pR (pCk false 3 P) = 3 := pCk_R rfl h0
  rw [h0, show ((0 : Nat) != 0 || false) = false from rfl]
  refine ⟨pGo_n (by rw [e3]; decide), e3, ?_⟩
  rw [pCk_new rfl h0]
  rfl
theorem qU_err {b : Nat → Int32} {L : Nat} {P : Pt} {x : Bool} (h0 : ¬ pR P = 0) : pGo b L (pCk (pR P != 0 || x) 3 P) = P := by
  rw [pCk_id (Or.inr h0), pGo_n h0]
theorem qU_new {b : Nat → Int32} {L : Nat} {P : Pt} : pGo b L (pCk (pR P != 0 || true) 3 P) = pGo b L P := by
  rw [Bool.or_true, pCk_id (c := true) (Or.inl rfl)]
section ClassLoad
variable {G : Gl} {κ : Kx} {d : Nat} {Q : Option Value → Hp → Prop} {X : String → Hp → Prop} {cs ss pc : Nat} {M : List (Option LV)} {st : List Value} {σ σ1 : Hp} {c c1 : Nat → Nat} {pr tk inp : Nat} {b : Nat → Int32} {L p a s n : Nat} {cc : Int32} {P : Pt} {ρ : Nat → Int32} {C : Ct} {W : Nat → Prop}
theorem PQ.o (h : PQ G σ c pr tk inp b L P cc) : σ pr = some (.inr (5, prV tk (nI (pR P)) (oOf P) cc)) := by
  obtain ⟨-, p, hG, -⟩ := h
  exact hG.o
theorem PQ.cpr (h : PQ G σ c pr tk inp b L P cc) : c pr = pr ∧ σ inp ≠ none ∧ c inp = inp ∧ inp ≠ pr := by
  obtain ⟨-, p, hG, -⟩ := h
  obtain ⟨v, n, hI, h1, -⟩ := hG.1.2.2
  exact ⟨hG.2.1.1, by rw [hI.1]; exact Option.some_ne_none _, h1, obj_ne hI.1 hG.o (by decide)⟩
theorem PQ.ne {n : Nat} {C : Ct} (h : PQ G σ c pr tk inp b L P cc) (h2 : RY G σ c a n C) : a ≠ pr ∧ a ≠ inp := by
  obtain ⟨-, p, hG, -⟩ := h
  obtain ⟨v, m, hI, -⟩ := hG.1.2.2
  obtain ⟨t, q, o⟩ := h2.o
  exact ⟨obj_ne o hG.o (by decide), obj_ne o hI.1 (by decide)⟩
/-- an error told behind its token -/
theorem sq_failTo (hΓ : Ok G κ mX7_fail (d + 1) Q X) (h : PQ G σ c pr tk inp b L P cc) {P1 : Pt} {x y : Int32} {m : Nat} (hx : x = nI m) (hm : m ≤ 4) (hm0 : m ≠ 0) (h0 : pR P = 0) (hR : pR P1 = m) (hy : y = nI (pA P1)) (hq : ∀ σ1 : Hp, PQ G σ1 c pr tk inp b L P1 cc → KF (fun x => x = pr) σ c σ1 c → Q none σ1) : AW G κ cs ss 0 [lR pr, lI x, lI y] [] σ := by
  obtain ⟨h4, p, hG, hr⟩ := h
  have h9 : PQ G σ c pr tk inp b L P cc := ⟨h4, p, hG, hr⟩
  refine sX7_fail_0 hΓ rfl ?_
  refine sX7_fail_1 hΓ 0 0 (Nat.le_of_ble_eq_true rfl) hG.o (fun κ_1 hΓ_1 => sq_hasFailed hΓ_1 h9 ?_)
  show AW G κ _ _ 4 _ _ _
  refine sX7_fail_4 hΓ (fun c4 => absurd (by rw [h0]; rfl) c4) (fun c4 => ?_)
  refine sX7_fail_7 hΓ rfl ?_
  refine sX7_fail_8 hΓ rfl ?_
  refine sX7_fail_9 hΓ hG.o (Nat.le_of_ble_eq_true rfl) (pg_put hG x (oOf P) cc rfl (fun σ1 h1 f1 => ?_))
  refine sX7_fail_12 hΓ rfl ?_
  refine sX7_fail_13 hΓ rfl ?_
  refine sX7_fail_14 hΓ h1.o (Nat.le_of_ble_eq_true rfl) (pg_put h1 x y cc rfl (fun σ2 h2 f2 => ?_))
  refine sX7_fail_17 hΓ (hq _ ⟨by rw [hR]; exact hm, p, ?_, fun e => absurd (hR.symm.trans e) hm0⟩ (f1.tr f2))
  rw [hR, show oOf P1 = nI (pA P1) from if_neg (by rw [hR]; exact hm0), ← hx, ← hy]
  exact h2
/-- .. where there is one already -/
theorem sq_failNo (hΓ : Ok G κ mX7_fail (d + 1) Q X) (h : PQ G σ c pr tk inp b L P cc) {x y : Int32} (h0 : ¬ pR P = 0) (hq : Q none σ) : AW G κ cs ss 0 [lR pr, lI x, lI y] [] σ := by
  refine sX7_fail_0 hΓ rfl ?_
  refine sX7_fail_1 hΓ 0 0 (Nat.le_of_ble_eq_true rfl) h.o (fun κ_1 hΓ_1 => sq_hasFailed hΓ_1 h ?_)
  show AW G κ _ _ 4 _ _ _
  refine sX7_fail_4 hΓ (fun c4 => ?_) (fun c4 => absurd c4 (by rw [beq_eq_false_iff_ne.mpr h0]; decide))
  exact sX7_fail_17 hΓ hq
theorem sq_tunnels (hΓ : Ok G κ mX7_takeTunnelsAndShorts (d + 5) Q X) (h : LDS G σ c pr tk inp b L a s P ρ 0 cc) (hs1 : 4 ≤ s) (hs2 : s ≤ 24) (hP : pOk b L P) (hE : pR P = 0 → 1 ≤ pE P) (hq : ∀ σ1 : Hp, LDS G σ1 c pr tk inp b L a s (qSecs b L s 501 (P, ρ)).1 (qSecs b L s 501 (P, ρ)).2 0 cc → KF (WA pr a) σ c σ1 c → Q none σ1) : AW G κ cs ss 0 [lR pr, lR a, none, none, none] [] σ := by
  suffices loop : ∀ (m i : Nat) (x : Int32) (o3 o4 : Option LV) (σ2 : Hp) (P1 : Pt) (ρ1 : Nat → Int32), i + m = 501 → x = nI i → (pR P1 = 0 → i + 1 ≤ pE P1) → pOk b L P1 → LDS G σ2 c pr tk inp b L a s P1 ρ1 0 cc → KF (WA pr a) σ c σ2 c → qSecs b L s m (P1, ρ1) = qSecs b L s 501 (P, ρ) → AW G κ cs ss 2 [lR pr, lR a, lI x, o3, o4] [] σ2 by
    refine sX7_takeTunnelsAndShorts_0 hΓ ?_
    refine sX7_takeTunnelsAndShorts_1 hΓ ?_
    exact loop 501 0 _ _ _ σ P ρ (by decide) rfl hE hP h KF.rf rfl
  intro m
  induction m with
  | zero =>
    intro i x o3 o4 σ2 P1 ρ1 hi hx hE1 hP1 h1 f1 hY
    have hY1 : (P1, ρ1) = qSecs b L s 501 (P, ρ) := hY
    refine sX7_takeTunnelsAndShorts_2 hΓ rfl ?_
    refine sX7_takeTunnelsAndShorts_3 hΓ ?_
    refine sX7_takeTunnelsAndShorts_6 hΓ (fun c6 => ?_) (fun c6 => absurd (by rw [hx, show i = 501 by omega]; decide) c6)
    exact sX7_takeTunnelsAndShorts_95 hΓ (hq _ (by rw [← hY1]; exact h1) f1)
  | succ m ih =>
    intro i x o3 o4 σ2 P1 ρ1 hi hx hE1 hP1 h1 f1 hY
    have hout : (pWrd b P1 1 || pWrd b P1 2) = false → (P1, ρ1) = qSecs b L s 501 (P, ρ) := fun e => (qSecs_f e).symm.trans hY
    obtain ⟨hQ1, C, hR1, hS1, hC1⟩ := h1
    have hL5 : L ≤ 500 := by
      obtain ⟨-, p, hG, -⟩ := hQ1
      exact hG.2.2.2.1
    have go43 : pR P1 = 0 → PQ G σ2 c pr tk inp b L P1 cc → (pWrd b P1 1 || pWrd b P1 2) = true → AW G κ cs ss 43 [lR pr, lR a, lI x, lI (bI (pWrd b P1 1)), o4] [] σ2 := by
      intro e0 hQ1 hw12
      have hY2 : qSecs b L s m (qOne b L s (if pWrd b P1 1 = true then 10 else 34) (P1, ρ1)) = qSecs b L s 501 (P, ρ) := (if_pos hw12).symm.trans hY
      have hv : qSecV b L s P1 < s := qSecV_in (by omega)
      obtain ⟨ho, -, -, hne⟩ := hQ1.cpr
      obtain ⟨hap, hai⟩ := hQ1.ne hR1
      have tko : ∃ fs, σ2 tk = some (.inr (8, fs)) := by
        obtain ⟨-, p, hG, -⟩ := hQ1
        exact ⟨_, hG.t⟩
      obtain ⟨tfs, tko⟩ := tko
      refine sX7_takeTunnelsAndShorts_43 hΓ rfl ?_
      refine sX7_takeTunnelsAndShorts_44 hΓ hQ1.o rfl ?_
      refine sX7_takeTunnelsAndShorts_47 hΓ 0 0 (Nat.le_of_ble_eq_true rfl) tko (fun κ_47 hΓ_47 => sq_step hΓ_47 hQ1 e0 (fun σ11 h11 f11 => ?_))
      show AW G κ _ _ 50 _ _ _
      have hQ2 := h11
      have f2 := (KF.rf.tr f11)
      have hR2 := hR1.keep f2 hap
      obtain ⟨t2, q2, p2, tr2, g2, gc2⟩ := hR2
      have eS : C.1 0 - 1 = nI (s - 1) := by rw [hS1]; exact pk_sub (b := 1) (by omega)
      refine sX7_takeTunnelsAndShorts_50 hΓ rfl ?_
      refine sX7_takeTunnelsAndShorts_51 hΓ ?_
      refine sX7_takeTunnelsAndShorts_52 hΓ rfl ?_
      refine sX7_takeTunnelsAndShorts_53 hΓ g2.o rfl ?_
      refine sX7_takeTunnelsAndShorts_56 hΓ ?_
      refine sX7_takeTunnelsAndShorts_57 hΓ ?_
      refine sX7_takeTunnelsAndShorts_58 hΓ 0 0 (Nat.le_of_ble_eq_true rfl) hQ2.o (fun κ_58 hΓ_58 => sq_takeNumber hΓ_58 hQ2 (lo := 0) (hi := s - 1) rfl eS (by decide) (by omega) (fun σ31 h31 f31 => ?_))
      show AW G κ _ _ 61 _ _ _
      refine sX7_takeTunnelsAndShorts_61 hΓ ?_
      refine sX7_takeTunnelsAndShorts_63 hΓ rfl ?_
      refine sX7_takeTunnelsAndShorts_64 hΓ ?_
      refine sX7_takeTunnelsAndShorts_65 hΓ 0 0 (Nat.le_of_ble_eq_true rfl) h31.o (fun κ_65 hΓ_65 => sq_take hΓ_65 h31 (k := 3) rfl (by decide) (by decide) (fun σ32 h32 f32 => ?_))
      show AW G κ _ _ 68 _ _ _
      have hQ3 : PQ G _ c pr tk inp b L (qSec b L s P1) cc := h32
      have f3 := ((f2.tr f31).tr f32)
      have hR3 : RY G _ c a 0 C := hR1.keep f3 hap
      obtain ⟨t3, q3, p3, tr3, g3, gc3⟩ := hR3
      have fA : KF (WA pr a) σ c _ c := f1.tr (f3.eq (V := WA pr a) (Or.inl rfl))
      have hP2 : pOk b L (qSec b L s P1) := qSec_ok hP1
      have hE2 : pR (qSec b L s P1) = 0 → i + 1 + 1 ≤ pE (qSec b L s P1) := fun e => by have := qSec_gt hP1 e; have := hE1 e0; omega
      have hs24 : s ≤ 24 := hs2
      have hin : rIn (nI (qSecV b L s P1)) 0 (C.1 0 - 1) = true := by rw [hS1]; exact rIn_ok (by omega) hv rfl
      have fin : ∀ (σ9 : Hp) (w : Nat) (C9 : Ct) (o4 : Option LV), (w = if pWrd b P1 1 = true then 10 else 34) → RY G σ9 c a 0 C9 → C9.1 0 = nI s → (pR (qSec b L s P1) = 0 → CR (upd ρ1 (w + qSecV b L s P1) 1) 0 s C9) → (w = 10 ∨ w = 34) → KF (fun x => x = a) σ32 c σ9 c → AW G κ cs ss 89 [lR pr, lR a, lI x, lI (bI (pWrd b P1 1)), o4] [] σ9 := by
        intro σ9 w C9 o4 ew h9 hS9 hC9 hw f9
        rw [← ew] at hY2
        refine sX7_takeTunnelsAndShorts_89 hΓ rfl ?_
        refine sX7_takeTunnelsAndShorts_92 hΓ ?_
        refine ih (i + 1) _ _ _ σ9 (qSec b L s P1) (qOne b L s w (P1, ρ1)).2 (by omega) (lp_1 hx) hE2 hP2 ⟨hQ3.keep f9 (Ne.symm hap) (Ne.symm hai), C9, h9, hS9, fun e => ?_⟩ (fA.tr (f9.eq (V := WA pr a) (Or.inr rfl))) hY2
        rw [qOne_t e]
        exact ⟨hC9 e, (hC1 e0).2.put (by omega)⟩
      refine sX7_takeTunnelsAndShorts_68 hΓ rfl ?_
      refine sX7_takeTunnelsAndShorts_69 hΓ (fun c69 => ?_) (fun c69 => ?_)
      · have t1 := bI_0 c69
        refine sX7_takeTunnelsAndShorts_81 hΓ rfl ?_
        refine sX7_takeTunnelsAndShorts_82 hΓ rfl ?_
        refine sX7_takeTunnelsAndShorts_84 hΓ ?_
        refine sX7_takeTunnelsAndShorts_85 hΓ 0 0 (Nat.le_of_ble_eq_true rfl) g3.o (fun κ_85 hΓ_85 => sr_changeShort hΓ_85 g3 (b := true) rfl ⟨s, hS1, hs1, hs2⟩ (fun e => absurd (hin.symm.trans e) (by decide)) (fun _ σ9 h9 f9 => ?_) )
        show AW G κ _ _ 88 _ _ _
        refine sX7_takeTunnelsAndShorts_88i hΓ ?_
        exact fin σ9 34 (sShort C.1 (nI (qSecV b L s P1)) true, C.2) _ (by rw [t1]; rfl) ⟨t3, q3, p3, tr3, h9, gc3⟩ hS1 (fun e => short_cr (b := true) (hC1 e0).1 (Nat.zero_le 6) hv hs24) (Or.inr rfl) (KF.cf gc3 rfl h9 f9)
      · have t1 := bI_n0 c69
        refine sX7_takeTunnelsAndShorts_72 hΓ rfl ?_
        refine sX7_takeTunnelsAndShorts_73 hΓ rfl ?_
        refine sX7_takeTunnelsAndShorts_75 hΓ 0 0 (Nat.le_of_ble_eq_true rfl) g3.o (fun κ_75 hΓ_75 => sr_digTunnel hΓ_75 g3 (fun σ9 h9 f9 => ?_) )
        show AW G κ _ _ 78 _ _ _
        refine sX7_takeTunnelsAndShorts_78 hΓ ?_
        exact fin σ9 10 (sDig C.1 (nI (qSecV b L s P1)), C.2) _ (by rw [t1]; rfl) ⟨t3, q3, p3, tr3, h9, gc3⟩ hS1 (fun e => dig_cr (hC1 e0).1 (Nat.zero_le 6) hv hs24) (Or.inl rfl) (KF.cf gc3 rfl h9 f9)
    refine sX7_takeTunnelsAndShorts_2 hΓ rfl ?_
    refine sX7_takeTunnelsAndShorts_3 hΓ ?_
    refine sX7_takeTunnelsAndShorts_6 hΓ (fun c6 => ?_) (fun c6 => ?_)
    · have i500 : ¬ i < 500 := fun e => by have := nI_lez (i := 500) rfl hx (by decide) (by omega) c6; omega
      have e0 : ¬ pR P1 = 0 := fun e => by have := hE1 e; have := hP1.le; omega
      have ew : ∀ t, pWrd b P1 t = false := fun t => Bool.eq_false_iff.mpr (fun e => e0 (pWrd_0 e))
      have hY1 := hout (by rw [ew, ew]; rfl)
      exact sX7_takeTunnelsAndShorts_95 hΓ (hq _ (by rw [← hY1]; exact ⟨hQ1, C, hR1, hS1, hC1⟩) f1)
    · refine sX7_takeTunnelsAndShorts_9 hΓ rfl ?_
      refine sX7_takeTunnelsAndShorts_10 hΓ 0 0 (Nat.le_of_ble_eq_true rfl) hQ1.o (fun κ_10 hΓ_10 => sq_isDone hΓ_10 hQ1 ?_)
      show AW G κ _ _ 13 _ _ _
      refine sX7_takeTunnelsAndShorts_13 hΓ (fun c13 => ?_) (fun c13 => ?_)
      · have ew : ∀ t, pWrd b P1 t = false := fun t => by
          by_cases e0 : pR P1 = 0
          · have e1 := bI_n0 c13
            rw [e0] at e1
            have e2 : pK P1 = 0 := beq_iff_eq.mp e1
            unfold pWrd pW0
            rw [e2]
            simp
          · exact Bool.eq_false_iff.mpr (fun e => e0 (pWrd_0 e))
        have hY1 := hout (by rw [ew, ew]; rfl)
        exact sX7_takeTunnelsAndShorts_95 hΓ (hq _ (by rw [← hY1]; exact ⟨hQ1, C, hR1, hS1, hC1⟩) f1)
      · have e13 := bI_0 c13
        rw [Bool.or_eq_false_iff] at e13
        have e0 : pR P1 = 0 := by
          cases e9 : pR P1 == 0 with
          | true => exact beq_iff_eq.mp e9
          | false => rw [e9] at e13; exact Bool.noConfusion e13.1
        obtain ⟨h4, p, hG, hr⟩ := hQ1
        obtain ⟨v, nn, hI, -, -⟩ := hG.1.2.2
        have hw : ∀ t, tWrd b L p t = pWrd b P1 t := fun t => (pWrd_t (hr e0) e0).symm
        have hQ1 : PQ G σ2 c pr tk inp b L P1 cc := ⟨h4, p, hG, hr⟩
        refine sX7_takeTunnelsAndShorts_16 hΓ rfl ?_
        refine sX7_takeTunnelsAndShorts_17 hΓ hG.o rfl ?_
        refine sX7_takeTunnelsAndShorts_20 hΓ ?_
        refine sX7_takeTunnelsAndShorts_22 hΓ 0 0 (Nat.le_of_ble_eq_true rfl) hG.t (fun κ_22 hΓ_22 => sk_isWord hΓ_22 hG.t hI rfl hL5 hG.2.2.2.2 hG.2.2.1 (t := 1) (by decide) ?_)
        show AW G κ _ _ 25 _ _ _
        refine sX7_takeTunnelsAndShorts_25 hΓ ?_
        refine sX7_takeTunnelsAndShorts_26 hΓ rfl ?_
        refine sX7_takeTunnelsAndShorts_27 hΓ (fun c27 => ?_) (fun c27 => ?_)
        · have t1 : pWrd b P1 1 = true := by rw [← hw]; exact bI_n0 c27
          exact by rw [hw]; exact go43 e0 hQ1 (by rw [t1]; first | rfl | (rw [t2]; rfl))
        · have t1 : pWrd b P1 1 = false := by rw [← hw]; exact bI_0 c27
          refine sX7_takeTunnelsAndShorts_30 hΓ rfl ?_
          refine sX7_takeTunnelsAndShorts_31 hΓ hG.o rfl ?_
          refine sX7_takeTunnelsAndShorts_34 hΓ ?_
          refine sX7_takeTunnelsAndShorts_36 hΓ 0 0 (Nat.le_of_ble_eq_true rfl) hG.t (fun κ_36 hΓ_36 => sk_isWord hΓ_36 hG.t hI rfl hL5 hG.2.2.2.2 hG.2.2.1 (t := 2) (by decide) ?_)
          show AW G κ _ _ 39 _ _ _
          refine sX7_takeTunnelsAndShorts_39 hΓ (fun c39 => ?_) (fun c39 => ?_)
          · have t2 : pWrd b P1 2 = true := by rw [← hw]; exact bI_n0 c39
            exact by rw [hw]; exact go43 e0 hQ1 (by rw [t1]; first | rfl | (rw [t2]; rfl))
          · have t2 : pWrd b P1 2 = false := by rw [← hw]; exact bI_0 c39
            have hY1 := hout (by rw [t1, t2]; rfl)
            exact sX7_takeTunnelsAndShorts_42 hΓ (hq _ (by rw [← hY1]; exact ⟨hQ1, C, hR1, hS1, hC1⟩) f1)
end ClassLoad
