/-! the class's parser: one token -/
abbrev prV (tk : Nat) (cd og cc : Int32) : List Value := [.ref tk, .int cd, .int og, .int cc]
/-- the parser at pr stands at the token behind place p of the text b of length L -/
def PG (G : Gl) (σ : Hp) (c : Nat → Nat) (pr tk inp : Nat) (b : Nat → Int32) (L p : Nat) (cd og cc : Int32) : Prop :=
  (σ pr = some (.inr (5, prV tk cd og cc)) ∧ σ tk = some (.inr (8, tkV inp (nI L) (tKd b L p) (nI (tS b L p)) (nI (tE b L p)) (nI (tVl b L p)))) ∧ ∃ (v : Nat) (n : Int32), II G σ inp v n b ∧ c inp = inp ∧ c v = inp) ∧ (c pr = pr ∧ c tk = pr) ∧ p ≤ L ∧ L ≤ 500 ∧ BB b L
/-- the offset of an error -/
def oOf (P : Pt) : Int32 := if pR P = 0 then -1 else nI (pA P)
def RP (b : Nat → Int32) (L p : Nat) (P : Pt) : Prop := pS P = tS b L p ∧ pE P = tE b L p ∧ pK P = tK b L p
/-- the parser's object stands where the reading P does -/
def PQ (G : Gl) (σ : Hp) (c : Nat → Nat) (pr tk inp : Nat) (b : Nat → Int32) (L : Nat) (P : Pt) (cc : Int32) : Prop :=
  pR P ≤ 4 ∧ ∃ p, PG G σ c pr tk inp b L p (nI (pR P)) (oOf P) cc ∧ (pR P = 0 → RP b L p P)
theorem cV_rV {b : Nat → Int32} {s : Nat} : ∀ {n : Nat}, (∀ j, j < n → isDig (b (s + j)) = true) → (cVn b s n = rV b s n ∧ rV b s n < 1000) ∨ (cVn b s n = 1000 ∧ 1000 ≤ rV b s n)
  | 0, _ => Or.inl ⟨rfl, by show 0 < 1000; decide⟩
  | n + 1, h => by
    obtain ⟨q, -, h1, h2, h3⟩ := dg_ok (h n (Nat.lt_succ_self n))
    have hd : dg (b (s + n)) ≤ 9 := by omega
    have e1 : ∀ x, cVn b s n = x → cVn b s (n + 1) = if 1000 < x * 10 + dg (b (s + n)) then 1000 else x * 10 + dg (b (s + n)) := fun x e => by rw [← e]; rfl
    rcases cV_rV (n := n) (fun j hj => h j (by omega)) with ⟨a1, a2⟩ | ⟨a1, a2⟩
    · have er : rV b s (n + 1) = 10 * rV b s n + dg (b (s + n)) := if_neg (by omega)
      rw [e1 _ a1, er]
      by_cases c : 1000 < rV b s n * 10 + dg (b (s + n))
      · rw [if_pos c]; right; omega
      · rw [if_neg c]
        by_cases c2 : rV b s n * 10 + dg (b (s + n)) = 1000
        · right; omega
        · left; omega
    · rw [e1 _ a1]
      right
      by_cases c : 1000 < 1000 * 10 + dg (b (s + n))
      · rw [if_pos c]
        refine ⟨rfl, ?_⟩
        by_cases c3 : 9999999 < rV b s n
        · rw [show rV b s (n + 1) = rV b s n from if_pos c3]; exact a2
        · rw [show rV b s (n + 1) = 10 * rV b s n + dg (b (s + n)) from if_neg c3]; omega
      · omega
/-- the token's value is in a range where the reference's is -/
theorem tVl_rng {b : Nat → Int32} {L p lo hi : Nat} {P : Pt} (hp : p ≤ L) (h : RP b L p P) (h2 : tK b L p = 2) (hi9 : hi < 1000) : (lo ≤ tVl b L p ∧ tVl b L p ≤ hi ↔ lo ≤ pVal b P ∧ pVal b P ≤ hi) ∧ (pVal b P ≤ hi → tVl b L p = pVal b P) := by
  have e1 : tVl b L p = cVn b (tS b L p) (tE b L p - tS b L p) := if_pos h2
  have e2 : pVal b P = rV b (tS b L p) (tE b L p - tS b L p) := by
    unfold pVal
    rw [h.2.2, if_pos h2, h.1, h.2.1]
  have hle := tE_le (b := b) hp
  rw [e1, e2]
  rcases cV_rV (b := b) (s := tS b L p) (n := tE b L p - tS b L p) (fun j hj => tK_dig hp h2 (by omega) (by omega)) with ⟨a1, a2⟩ | ⟨a1, a2⟩
  · rw [a1]; exact ⟨Iff.rfl, fun _ => rfl⟩
  · rw [a1]; exact ⟨⟨fun h => absurd h.2 (by omega), fun h => absurd h.2 (by omega)⟩, fun h => absurd h (by omega)⟩
theorem oOf_ck {c : Bool} {x : Nat} {P : Pt} (hx : x ≠ 0) (hc : c = false) (h0 : pR P = 0) : oOf (pCk c x P) = nI (pS P) := by
  rw [pCk_new hc h0]
  exact if_neg hx
theorem pCk_R {c : Bool} {x : Nat} {P : Pt} (hc : c = false) (h0 : pR P = 0) : pR (pCk c x P) = x := by rw [pCk_new hc h0]; rfl
theorem pGo_0 {b : Nat → Int32} {L : Nat} {P : Pt} (h : pR P = 0) : pGo b L P = pScan b L P := (pGo_eq _ _ _).trans (if_pos h)
theorem pGo_n {b : Nat → Int32} {L : Nat} {P : Pt} (h : ¬ pR P = 0) : pGo b L P = P := (pGo_eq _ _ _).trans (if_neg h)
theorem pWrd_t {b : Nat → Int32} {L p t : Nat} {P : Pt} (h : RP b L p P) (h0 : pR P = 0) : pWrd b P t = tWrd b L p t := by
  unfold pWrd pW0 tWrd
  rw [h0, h.1, h.2.1, h.2.2]
  show ((true && ((tK b L p == 1) && ((txB t).length == tE b L p - tS b L p))) && wEq b (tS b L p) t (txB t).length) = _
  rw [Bool.true_and, Bool.and_assoc]
section ClassParse
variable {G : Gl} {κ : Kx} {d : Nat} {Q : Option Value → Hp → Prop} {X : String → Hp → Prop} {cs ss pc : Nat} {M : List (Option LV)} {st : List Value} {σ σ1 : Hp} {c c1 : Nat → Nat} {pr tk inp : Nat} {b : Nat → Int32} {L p : Nat} {cd og cc : Int32} {P : Pt} {W : Nat → Prop}
theorem PG.keep (h : PG G σ c pr tk inp b L p cd og cc) (f : KF W σ c σ1 c1) (h1 : ¬ W pr) (h2 : ¬ W inp) : PG G σ1 c1 pr tk inp b L p cd og cc := by
  obtain ⟨⟨g1, g2, v, n, ⟨g3, g4⟩, k3, k4⟩, ⟨k1, k2⟩, g5⟩ := h
  obtain ⟨a1, b1, -⟩ := f pr _ g1
  obtain ⟨a2, b2, -⟩ := f tk _ g2
  obtain ⟨a3, b3, -⟩ := f inp _ g3
  obtain ⟨a4, b4, -⟩ := f v _ g4
  exact ⟨⟨b1 (by rw [k1]; exact h1), b2 (by rw [k2]; exact h1), v, n, ⟨b3 (by rw [k3]; exact h2), b4 (by rw [k4]; exact h2)⟩, a3.trans k3, a4.trans k4⟩, ⟨a1.trans k1, a2.trans k2⟩, g5⟩
theorem PQ.keep (h : PQ G σ c pr tk inp b L P cc) (f : KF W σ c σ1 c1) (h1 : ¬ W pr) (h2 : ¬ W inp) : PQ G σ1 c1 pr tk inp b L P cc := by
  obtain ⟨h4, p, h5, h6⟩ := h
  exact ⟨h4, p, h5.keep f h1 h2, h6⟩
theorem PG.o (h : PG G σ c pr tk inp b L p cd og cc) : σ pr = some (.inr (5, prV tk cd og cc)) := h.1.1
theorem PG.t (h : PG G σ c pr tk inp b L p cd og cc) : σ tk = some (.inr (8, tkV inp (nI L) (tKd b L p) (nI (tS b L p)) (nI (tE b L p)) (nI (tVl b L p)))) := h.1.2.1
/-- the parser's numbers written -/
theorem pg_put (h : PG G σ c pr tk inp b L p cd og cc) {fs : List Value} (cd1 og1 cc1 : Int32) (hf : fs = prV tk cd1 og1 cc1) (kk : ∀ σ1 : Hp, PG G σ1 c pr tk inp b L p cd1 og1 cc1 → KF (fun x => x = pr) σ c σ1 c → AW G κ cs ss pc M st σ1) : AW G κ cs ss pc M st (hset σ pr (.inr (5, fs))) := by
  subst hf
  obtain ⟨⟨g1, g2, v, n, ⟨g3, g4⟩, k3, k4⟩, ⟨k1, k2⟩, g5⟩ := h
  exact kk _ ⟨⟨hset_same _ _ _, by rw [hset_ne (obj_ne g2 g1 (by decide))]; exact g2, v, n, ⟨by rw [hset_ne (obj_ne g3 g1 (by decide))]; exact g3, by rw [hset_ne (Ne.symm (oa_ne g1 g4))]; exact g4⟩, k3, k4⟩, ⟨k1, k2⟩, g5⟩ (KF.set g1 k1)
theorem pg_step (h : PG G σ c pr tk inp b L p cd og cc) {q : Nat} (hq : q ≤ L) {Z : Hp → Prop} (kk : ∀ σ1 : Hp, PG G σ1 c pr tk inp b L q cd og cc → KF (fun x => x = pr) σ c σ1 c → Z σ1) : Z (hset σ tk (.inr (8, tkV inp (nI L) (tKd b L q) (nI (tS b L q)) (nI (tE b L q)) (nI (tVl b L q))))) := by
  obtain ⟨⟨g1, g2, v, n, ⟨g3, g4⟩, k3, k4⟩, ⟨k1, k2⟩, g5, g6⟩ := h
  exact kk _ ⟨⟨by rw [hset_ne (obj_ne g1 g2 (by decide))]; exact g1, hset_same _ _ _, v, n, ⟨by rw [hset_ne (obj_ne g3 g2 (by decide))]; exact g3, by rw [hset_ne (Ne.symm (oa_ne g2 g4))]; exact g4⟩, k3, k4⟩, ⟨k1, k2⟩, hq, g6⟩ (KF.set g2 k2)
theorem sq_hasFailed (hΓ : Ok G κ mX7_hasFailed (d + 0) Q X) (h : PQ G σ c pr tk inp b L P cc) (hq : Q (some (.int (bI (!(pR P == 0))))) σ) : AW G κ cs ss 0 [lR pr] [] σ := by
  obtain ⟨h4, p, hG, hr⟩ := h
  refine sX7_hasFailed_0 hΓ rfl ?_
  refine sX7_hasFailed_1 hΓ hG.o rfl ?_
  refine sX7_hasFailed_4 hΓ (fun c4 => ?_) (fun c4 => ?_)
  · rw [(nI_eq (by omega) (by decide)).mp (show nI (pR P) = nI 0 from c4)] at hq
    refine sX7_hasFailed_11 hΓ ?_
    exact sX7_hasFailed_12 hΓ (by first | exact Or.inl rfl | exact Or.inr rfl) hq
  · rw [beq_eq_false_iff_ne.mpr (fun e => c4 (by rw [e]; rfl))] at hq
    refine sX7_hasFailed_7 hΓ ?_
    refine sX7_hasFailed_8 hΓ ?_
    exact sX7_hasFailed_12 hΓ (by first | exact Or.inl rfl | exact Or.inr rfl) hq
theorem sq_fail (hΓ : Ok G κ mX7_fail (d + 1) Q X) (h : PQ G σ c pr tk inp b L P cc) {x y : Int32} {n : Nat} (hx : x = nI n) (hn : n ≤ 4) (hn0 : n ≠ 0) (hy : pR P = 0 → y = nI (pS P)) (hq : ∀ σ1 : Hp, PQ G σ1 c pr tk inp b L (pCk false n P) cc → KF (fun x => x = pr) σ c σ1 c → Q none σ1) : AW G κ cs ss 0 [lR pr, lI x, lI y] [] σ := by
  obtain ⟨h4, p, hG, hr⟩ := h
  refine sX7_fail_0 hΓ rfl ?_
  refine sX7_fail_1 hΓ 0 0 (Nat.le_of_ble_eq_true rfl) hG.o (fun κ_1 hΓ_1 => sq_hasFailed hΓ_1 ⟨h4, p, hG, hr⟩ ?_)
  show AW G κ _ _ 4 _ _ _
  refine sX7_fail_4 hΓ (fun c4 => ?_) (fun c4 => ?_)
  · have e0 : ¬ pR P = 0 := fun e => c4 (by rw [e]; rfl)
    rw [pCk_id (Or.inr e0)] at hq
    exact sX7_fail_17 hΓ (by first | exact hq _ ⟨h4, p, hG, hr⟩ KF.rf | exact hq _ ⟨by rw [pCk_R rfl e0]; exact hn, p, by rw [pCk_R rfl e0, oOf_ck hn0 rfl e0, ← hx, ← hy e0]; exact hG, fun e => absurd ((pCk_R rfl e0).symm.trans e) hn0⟩ KF.rf)
  · have e0 : pR P = 0 := by
      cases e : pR P == 0 with
      | true => exact beq_iff_eq.mp e
      | false => rw [e] at c4; exact absurd c4 (by decide)
    refine sX7_fail_7 hΓ rfl ?_
    refine sX7_fail_8 hΓ rfl ?_
    refine sX7_fail_9 hΓ hG.o (Nat.le_of_ble_eq_true rfl) (pg_put hG x (oOf P) cc rfl (fun σ1 h1 f1 => ?_))
    refine sX7_fail_12 hΓ rfl ?_
    refine sX7_fail_13 hΓ rfl ?_
    refine sX7_fail_14 hΓ h1.o (Nat.le_of_ble_eq_true rfl) (pg_put h1 x y cc rfl (fun σ2 h2 f2 => ?_))
    exact sX7_fail_17 hΓ (by first | exact hq _ ⟨h4, p, hG, hr⟩ KF.rf | exact hq _ ⟨by rw [pCk_R rfl e0]; exact hn, p, by rw [pCk_R rfl e0, oOf_ck hn0 rfl e0, ← hx, ← hy e0]; exact h2, fun e => absurd ((pCk_R rfl e0).symm.trans e) hn0⟩ ((KF.rf.tr f1).tr f2))
theorem sq_step (hΓ : Ok G κ mX10_step (d + 2) Q X) (h : PQ G σ c pr tk inp b L P cc) (h0 : pR P = 0) (hq : ∀ σ1 : Hp, PQ G σ1 c pr tk inp b L (pGo b L P) cc → KF (fun x => x = pr) σ c σ1 c → Q none σ1) : AW G κ cs ss 0 [lR tk] [] σ := by
  obtain ⟨h4, p, hG, hr⟩ := h
  obtain ⟨v, n, hI, -, -⟩ := hG.1.2.2
  obtain ⟨r1, r2, r3⟩ := hr h0
  have hle := tE_le (b := b) hG.2.2.1
  refine sk_step hΓ hG.t hI rfl hG.2.2.2.1 hG.2.2.2.2 rfl hle.2 (pg_step (Z := fun σ => Q none σ) hG hle.2 (fun σ1 h1 f1 => hq σ1 ?_ f1))
  rw [pGo_0 h0]
  refine ⟨h4, tE b L p, h1, fun _ => ?_⟩
  unfold pScan RP
  rw [r2]
  exact ⟨rfl, rfl, rfl⟩
theorem sq_take0 (hΓ : Ok G κ mX7_take (d + 3) Q X) (h : PQ G σ c pr tk inp b L P cc) {x : Int32} {cb : Bool} (hc : pR P = 0 → ∀ p, p ≤ L → BB b L → RP b L p P → (tKd b L p = x ↔ cb = true)) (hq : ∀ σ1 : Hp, PQ G σ1 c pr tk inp b L (pGo b L (pCk cb 1 P)) cc → KF (fun x => x = pr) σ c σ1 c → Q none σ1) : AW G κ cs ss 0 [lR pr, lI x] [] σ := by
  suffices at23 : ∀ σ1 : Hp, PQ G σ1 c pr tk inp b L (pCk cb 1 P) cc → KF (fun x => x = pr) σ c σ1 c → AW G κ cs ss 23 [lR pr, lI x] [] σ1 by
    obtain ⟨h4, p, hG, hr⟩ := h
    refine sX7_take_0 hΓ rfl ?_
    refine sX7_take_1 hΓ hG.o rfl ?_
    refine sX7_take_4 hΓ hG.t rfl ?_
    refine sX7_take_7 hΓ rfl ?_
    refine sX7_take_8 hΓ (fun c8 => ?_) (fun c8 => ?_)
    · have e : pCk cb 1 P = P := by
        by_cases e0 : pR P = 0
        · exact pCk_id (Or.inl ((hc e0 p hG.2.2.1 hG.2.2.2.2 (hr e0)).mp c8))
        · exact pCk_id (Or.inr e0)
      rw [e] at at23
      first | exact at23 _ ⟨h4, p, hG, hr⟩ KF.rf | exact at23 _ h9 KF.rf
    · have e : pCk false 1 P = pCk cb 1 P := by
        by_cases e0 : pR P = 0
        · rw [show cb = false from Bool.eq_false_iff.mpr (fun e9 => c8 ((hc e0 p hG.2.2.1 hG.2.2.2.2 (hr e0)).mpr e9))]
        · rw [pCk_id (Or.inr e0), pCk_id (Or.inr e0)]
      rw [← e] at at23
      refine sX7_take_11 hΓ rfl ?_
      refine sX7_take_12 hΓ ?_
      refine sX7_take_13 hΓ rfl ?_
      refine sX7_take_14 hΓ hG.o rfl ?_
      refine sX7_take_17 hΓ hG.t rfl ?_
      refine sX7_take_20 hΓ 0 0 (Nat.le_of_ble_eq_true rfl) hG.o (fun κ_20 hΓ_20 => sq_fail hΓ_20 ⟨h4, p, hG, hr⟩ (n := 1) rfl (by decide) (by decide) (fun e0 => by rw [(hr e0).1]) (fun σ1 h1 f1 => ?_))
      show AW G κ _ _ 23 _ _ _
      first | exact at23 _ ⟨h4, p, hG, hr⟩ KF.rf | exact at23 _ h1 (KF.rf.tr f1)
  intro σ1 h1 f1
  obtain ⟨h4, p, hG, hr⟩ := h1
  refine sX7_take_23 hΓ rfl ?_
  refine sX7_take_24 hΓ 0 0 (Nat.le_of_ble_eq_true rfl) hG.o (fun κ_24 hΓ_24 => sq_hasFailed hΓ_24 ⟨h4, p, hG, hr⟩ ?_)
  show AW G κ _ _ 27 _ _ _
  refine sX7_take_27 hΓ (fun c27 => ?_) (fun c27 => ?_)
  · have e0 : ¬ pR (pCk cb 1 P) = 0 := fun e => c27 (by rw [e]; rfl)
    rw [pGo_n e0] at hq
    exact sX7_take_37 hΓ (by first | exact hq _ h9 (f1.tr KF.rf) | exact hq _ ⟨h4, p, hG, hr⟩ f1)
  · have e0 : pR (pCk cb 1 P) = 0 := by
      cases e : pR (pCk cb 1 P) == 0 with
      | true => exact beq_iff_eq.mp e
      | false => rw [e] at c27; exact absurd c27 (by decide)
    refine sX7_take_30 hΓ rfl ?_
    refine sX7_take_31 hΓ hG.o rfl ?_
    refine sX7_take_34 hΓ 0 0 (Nat.le_of_ble_eq_true rfl) hG.t (fun κ_34 hΓ_34 => sq_step hΓ_34 ⟨h4, p, hG, hr⟩ e0 (fun σ21 h21 f21 => ?_))
    show AW G κ _ _ 37 _ _ _
    exact sX7_take_37 hΓ (by first | exact hq _ h21 (f1.tr (KF.rf.tr f21)) | exact hq _ ⟨h4, p, hG, hr⟩ f1)
theorem sq_take (hΓ : Ok G κ mX7_take (d + 3) Q X) (h : PQ G σ c pr tk inp b L P cc) {x : Int32} {k : Nat} (hx : x = nI k) (h3 : 3 ≤ k) (h5 : k ≤ 5) (hq : ∀ σ1 : Hp, PQ G σ1 c pr tk inp b L (pExp b L (sgC k) P) cc → KF (fun x => x = pr) σ c σ1 c → Q none σ1) : AW G κ cs ss 0 [lR pr, lI x] [] σ :=
  sq_take0 hΓ h (cb := pSym b P (sgC k)) (fun h0 p hp hb hr => by
    subst hx
    rw [tKd_sg hb h3 h5, ← hr.1, ← hr.2.2]
    unfold pSym
    rw [h0, Bool.and_eq_true, Bool.and_eq_true, beq_iff_eq, beq_iff_eq, beq_iff_eq]
    exact ⟨fun e => ⟨rfl, e⟩, fun e => e.2⟩) hq
theorem pWrd_k1 {t : Nat} (h : pR (pCk (pWrd b P t) 1 P) = 0) : pK (pCk (pWrd b P t) 1 P) = 1 := by
  obtain ⟨h1, -⟩ := pCk_z (by decide) h
  rw [(pCk_sek _ _ _).2.2]
  unfold pWrd pW0 at h1
  rw [Bool.and_eq_true, Bool.and_eq_true, Bool.and_eq_true, beq_iff_eq, beq_iff_eq] at h1
  exact h1.1.2.1
theorem sq_takeWord (hΓ : Ok G κ mX7_takeWord (d + 5) Q X) (h : PQ G σ c pr tk inp b L P cc) {t : Nat} (ht : t < 7) (hq : ∀ σ1 : Hp, PQ G σ1 c pr tk inp b L (pGo b L (pCk (pWrd b P t) 1 P)) cc → KF (fun x => x = pr) σ c σ1 c → Q none σ1) : AW G κ cs ss 0 [lR pr, lR (gK G t)] [] σ := by
  suffices at23 : ∀ σ1 : Hp, PQ G σ1 c pr tk inp b L (pCk (pWrd b P t) 1 P) cc → KF (fun x => x = pr) σ c σ1 c → AW G κ cs ss 23 [lR pr, lR (gK G t)] [] σ1 by
    obtain ⟨h4, p, hG, hr⟩ := h
    obtain ⟨v, n, hI, -, -⟩ := hG.1.2.2
    refine sX7_takeWord_0 hΓ rfl ?_
    refine sX7_takeWord_1 hΓ hG.o rfl ?_
    refine sX7_takeWord_4 hΓ rfl ?_
    refine sX7_takeWord_5 hΓ 0 0 (Nat.le_of_ble_eq_true rfl) hG.t (fun κ_5 hΓ_5 => sk_isWord hΓ_5 hG.t hI rfl hG.2.2.2.1 hG.2.2.2.2 hG.2.2.1 ht ?_)
    show AW G κ _ _ 8 _ _ _
    refine sX7_takeWord_8 hΓ (fun c8 => ?_) (fun c8 => ?_)
    · have e : pCk (pWrd b P t) 1 P = P := by
        by_cases e0 : pR P = 0
        · exact pCk_id (Or.inl (by rw [pWrd_t (hr e0) e0]; exact bI_n0 c8))
        · exact pCk_id (Or.inr e0)
      rw [e] at at23
      first | exact at23 _ ⟨h4, p, hG, hr⟩ KF.rf | exact at23 _ h9 KF.rf
    · have e : pCk false 1 P = pCk (pWrd b P t) 1 P := by
        by_cases e0 : pR P = 0
        · rw [pWrd_t (hr e0) e0, bI_0 c8]
        · rw [pCk_id (Or.inr e0), pCk_id (Or.inr e0)]
      rw [← e] at at23
      refine sX7_takeWord_11 hΓ rfl ?_
      refine sX7_takeWord_12 hΓ ?_
      refine sX7_takeWord_13 hΓ rfl ?_
      refine sX7_takeWord_14 hΓ hG.o rfl ?_
      refine sX7_takeWord_17 hΓ hG.t rfl ?_
      refine sX7_takeWord_20 hΓ 0 0 (Nat.le_of_ble_eq_true rfl) hG.o (fun κ_20 hΓ_20 => sq_fail hΓ_20 ⟨h4, p, hG, hr⟩ (n := 1) rfl (by decide) (by decide) (fun e0 => by rw [(hr e0).1]) (fun σ1 h1 f1 => ?_))
      show AW G κ _ _ 23 _ _ _
      first | exact at23 _ ⟨h4, p, hG, hr⟩ KF.rf | exact at23 _ h1 (KF.rf.tr f1)
  intro σ1 h1 f1
  obtain ⟨h4, p, hG, hr⟩ := h1
  refine sX7_takeWord_23 hΓ rfl ?_
  refine sX7_takeWord_24 hΓ ?_
  refine sX7_takeWord_25 hΓ 0 0 (Nat.le_of_ble_eq_true rfl) hG.o (fun κ_25 hΓ_25 => sq_take0 hΓ_25 ⟨h4, p, hG, hr⟩ (cb := true) (fun e0 q hq9 hb9 hr9 => ⟨fun _ => rfl, fun _ => (tKd_lt hb9 (k := 1) (by decide)).mpr (hr9.2.2.symm.trans (pWrd_k1 e0))⟩) (fun σ21 h21 f21 => ?_))
  show AW G κ _ _ 28 _ _ _
  exact sX7_takeWord_28 hΓ (hq _ (by rw [pCk_id (Or.inl rfl)] at h21; exact h21) (f1.tr (KF.rf.tr f21)))
theorem pLook_n2 {lo hi : Nat} (hr : pR P = 0 → RP b L p P) (h2 : ¬ tK b L p = 2) : pCk false 1 P = pLook b lo hi P := by
  unfold pLook
  by_cases e0 : pR P = 0
  · rw [beq_eq_false_iff_ne.mpr (fun e => h2 ((hr e0).2.2.symm.trans e))]
    exact (pCk_id (Or.inr (by rw [pCk_R rfl e0]; decide))).symm
  · rw [pCk_id (Or.inr e0), pCk_id (Or.inr e0), pCk_id (Or.inr e0)]
theorem pLook_out {lo hi : Nat} (hp : p ≤ L) (hr : pR P = 0 → RP b L p P) (h2 : tK b L p = 2) (hhi : hi < 1000) (h3 : ¬ (lo ≤ tVl b L p ∧ tVl b L p ≤ hi)) : pCk false 2 P = pLook b lo hi P := by
  unfold pLook
  by_cases e0 : pR P = 0
  · rw [beq_iff_eq.mpr ((hr e0).2.2.trans h2), pCk_id (c := true) (Or.inl rfl), decide_eq_false (fun e => h3 ((tVl_rng hp (hr e0) h2 hhi).1.mpr e))]
  · rw [pCk_id (Or.inr e0), pCk_id (Or.inr e0), pCk_id (Or.inr e0)]
theorem pLook_in2 {lo hi : Nat} (hp : p ≤ L) (hr : pR P = 0 → RP b L p P) (h2 : tK b L p = 2) (hhi : hi < 1000) (h3 : lo ≤ tVl b L p ∧ tVl b L p ≤ hi) : pLook b lo hi P = P := by
  unfold pLook
  by_cases e0 : pR P = 0
  · rw [beq_iff_eq.mpr ((hr e0).2.2.trans h2), pCk_id (c := true) (Or.inl rfl), decide_eq_true ((tVl_rng hp (hr e0) h2 hhi).1.mp h3), pCk_id (Or.inl rfl)]
  · rw [pCk_id (Or.inr e0), pCk_id (Or.inr e0)]
theorem sq_takeNumber (hΓ : Ok G κ mX7_takeNumber (d + 3) Q X) (h : PQ G σ c pr tk inp b L P cc) {lo hi : Nat} {x y : Int32} (hx : x = nI lo) (hy : y = nI hi) (hlo : lo < 1000) (hhi : hi < 1000) (hq : ∀ σ1 : Hp, PQ G σ1 c pr tk inp b L (pRead b L lo hi P) cc → KF (fun x => x = pr) σ c σ1 c → Q (some (.int (nI (pVl b lo hi P)))) σ1) : AW G κ cs ss 0 [lR pr, lI x, lI y, none] [] σ := by
  obtain ⟨h4, p, hG, hr⟩ := h
  have hv9 : tVl b L p ≤ 1000 := by
    unfold tVl
    split
    · exact cVn_le _ _ _
    · exact Nat.zero_le _
  suffices at56 : ∀ σ1 : Hp, PQ G σ1 c pr tk inp b L (pLook b lo hi P) cc → KF (fun x => x = pr) σ c σ1 c → AW G κ cs ss 56 [lR pr, lI x, lI y, lI (nI (tVl b L p))] [] σ1 by
    refine sX7_takeNumber_0 hΓ rfl ?_
    refine sX7_takeNumber_1 hΓ hG.o rfl ?_
    refine sX7_takeNumber_4 hΓ hG.t rfl ?_
    refine sX7_takeNumber_7 hΓ ?_
    refine sX7_takeNumber_8 hΓ rfl ?_
    refine sX7_takeNumber_9 hΓ hG.o rfl ?_
    refine sX7_takeNumber_12 hΓ hG.t rfl ?_
    refine sX7_takeNumber_15 hΓ ?_
    refine sX7_takeNumber_16 hΓ (fun c16 => ?_) (fun c16 => ?_)
    · have e2 : tK b L p = 2 := (tKd_lt hG.2.2.2.2 (k := 2) (by decide)).mp c16
      refine sX7_takeNumber_34 hΓ rfl ?_
      refine sX7_takeNumber_35 hΓ rfl ?_
      refine sX7_takeNumber_36 hΓ (fun c36 => ?_) (fun c36 => ?_)
      · have e3 : ¬ (lo ≤ tVl b L p ∧ tVl b L p ≤ hi) := fun e => by have := nI_ltz rfl hx (by omega) (by omega) c36; omega
        have eL : pCk false 2 P = pLook b lo hi P := pLook_out hG.2.2.1 hr e2 hhi e3
        refine sX7_takeNumber_44 hΓ rfl ?_
        refine sX7_takeNumber_45 hΓ ?_
        refine sX7_takeNumber_46 hΓ rfl ?_
        refine sX7_takeNumber_47 hΓ hG.o rfl ?_
        refine sX7_takeNumber_50 hΓ hG.t rfl ?_
        refine sX7_takeNumber_53 hΓ 0 0 (Nat.le_of_ble_eq_true rfl) hG.o (fun κ_53 hΓ_53 => sq_fail hΓ_53 ⟨h4, p, hG, hr⟩ (n := 2) rfl (by decide) (by decide) (fun e0 => by rw [(hr e0).1]) (fun σ1 h1 f1 => ?_))
        show AW G κ _ _ 56 _ _ _
        first | exact at56 _ (by rw [← eL]; exact ⟨h4, p, hG, hr⟩) KF.rf | exact at56 _ (by rw [← eL]; exact h1) (KF.rf.tr f1)
      · have e4 : lo ≤ tVl b L p := Nat.le_of_not_lt (fun e => c36 (by rw [hx]; exact nI_lt e (by omega)))
        refine sX7_takeNumber_39 hΓ rfl ?_
        refine sX7_takeNumber_40 hΓ rfl ?_
        refine sX7_takeNumber_41 hΓ (fun c41 => ?_) (fun c41 => ?_)
        · have e5 : tVl b L p ≤ hi := nI_lez rfl hy (by omega) (by omega) c41
          have eL : P = pLook b lo hi P := (pLook_in2 hG.2.2.1 hr e2 hhi ⟨e4, e5⟩).symm
          first | exact at56 _ (by rw [← eL]; exact ⟨h4, p, hG, hr⟩) KF.rf | exact at56 _ (by rw [← eL]; exact h9) KF.rf
        · have e3 : ¬ (lo ≤ tVl b L p ∧ tVl b L p ≤ hi) := fun e => c41 (by rw [hy]; exact nI_le e.2 (by omega))
          have eL : pCk false 2 P = pLook b lo hi P := pLook_out hG.2.2.1 hr e2 hhi e3
          refine sX7_takeNumber_44 hΓ rfl ?_
          refine sX7_takeNumber_45 hΓ ?_
          refine sX7_takeNumber_46 hΓ rfl ?_
          refine sX7_takeNumber_47 hΓ hG.o rfl ?_
          refine sX7_takeNumber_50 hΓ hG.t rfl ?_
          refine sX7_takeNumber_53 hΓ 0 0 (Nat.le_of_ble_eq_true rfl) hG.o (fun κ_53 hΓ_53 => sq_fail hΓ_53 ⟨h4, p, hG, hr⟩ (n := 2) rfl (by decide) (by decide) (fun e0 => by rw [(hr e0).1]) (fun σ2 h2 f2 => ?_))
          show AW G κ _ _ 56 _ _ _
          first | exact at56 _ (by rw [← eL]; exact ⟨h4, p, hG, hr⟩) KF.rf | exact at56 _ (by rw [← eL]; exact h2) (KF.rf.tr f2)
    · have e2 : ¬ tK b L p = 2 := fun e => c16 ((tKd_lt hG.2.2.2.2 (k := 2) (by decide)).mpr e)
      have eL : pCk false 1 P = pLook b lo hi P := pLook_n2 hr e2
      refine sX7_takeNumber_19 hΓ rfl ?_
      refine sX7_takeNumber_20 hΓ ?_
      refine sX7_takeNumber_21 hΓ rfl ?_
      refine sX7_takeNumber_22 hΓ hG.o rfl ?_
      refine sX7_takeNumber_25 hΓ hG.t rfl ?_
      refine sX7_takeNumber_28 hΓ 0 0 (Nat.le_of_ble_eq_true rfl) hG.o (fun κ_28 hΓ_28 => sq_fail hΓ_28 ⟨h4, p, hG, hr⟩ (n := 1) rfl (by decide) (by decide) (fun e0 => by rw [(hr e0).1]) (fun σ3 h3 f3 => ?_))
      show AW G κ _ _ 31 _ _ _
      refine sX7_takeNumber_31 hΓ ?_
      first | exact at56 _ (by rw [← eL]; exact ⟨h4, p, hG, hr⟩) KF.rf | exact at56 _ (by rw [← eL]; exact h3) (KF.rf.tr f3)
  intro σ1 h1 f1
  obtain ⟨k4, p1, kG, kr⟩ := h1
  refine sX7_takeNumber_56 hΓ rfl ?_
  refine sX7_takeNumber_57 hΓ 0 0 (Nat.le_of_ble_eq_true rfl) kG.o (fun κ_57 hΓ_57 => sq_hasFailed hΓ_57 ⟨k4, p1, kG, kr⟩ ?_)
  show AW G κ _ _ 60 _ _ _
  refine sX7_takeNumber_60 hΓ (fun c60 => ?_) (fun c60 => ?_)
  · have e0 : pR (pLook b lo hi P) = 0 := by
      cases e : pR (pLook b lo hi P) == 0 with
      | true => exact beq_iff_eq.mp e
      | false => rw [e] at c60; exact absurd c60 (by decide)
    have ez := pLook_z e0
    have er := hr ez.2.1
    have ev : tVl b L p = pVl b lo hi P := by rw [show pVl b lo hi P = pVal b P from if_pos e0]; exact (tVl_rng (lo := lo) hG.2.2.1 er (er.2.2.symm.trans ez.1) hhi).2 ez.2.2.2
    refine sX7_takeNumber_65 hΓ rfl ?_
    refine sX7_takeNumber_66 hΓ kG.o rfl ?_
    refine sX7_takeNumber_69 hΓ 0 0 (Nat.le_of_ble_eq_true rfl) kG.t (fun κ_69 hΓ_69 => sq_step hΓ_69 ⟨k4, p1, kG, kr⟩ e0 (fun σ21 h21 f21 => ?_))
    show AW G κ _ _ 72 _ _ _
    refine sX7_takeNumber_72 hΓ rfl ?_
    exact sX7_takeNumber_73 hΓ (by rw [ev]; exact hq _ h21 (f1.tr (KF.rf.tr f21)))
  · have e0 : ¬ pR (pLook b lo hi P) = 0 := fun e => c60 (by rw [e]; rfl)
    rw [show pRead b L lo hi P = (pLook b lo hi P) from pGo_n e0, show pVl b lo hi P = lo from if_neg e0, ← hx] at hq
    refine sX7_takeNumber_63 hΓ rfl ?_
    exact sX7_takeNumber_64 hΓ (hq _ ⟨k4, p1, kG, kr⟩ f1)
theorem sq_isDone (hΓ : Ok G κ mX7_isDone (d + 1) Q X) (h : PQ G σ c pr tk inp b L P cc) (hq : Q (some (.int (bI (!(pR P == 0) || pK P == 0)))) σ) : AW G κ cs ss 0 [lR pr] [] σ := by
  obtain ⟨h4, p, hG, hr⟩ := h
  refine sX7_isDone_0 hΓ rfl ?_
  refine sX7_isDone_1 hΓ 0 0 (Nat.le_of_ble_eq_true rfl) hG.o (fun κ_1 hΓ_1 => sq_hasFailed hΓ_1 ⟨h4, p, hG, hr⟩ ?_)
  show AW G κ _ _ 4 _ _ _
  refine sX7_isDone_4 hΓ (fun c4 => ?_) (fun c4 => ?_)
  · rw [bI_n0 c4, Bool.true_or] at hq
    refine sX7_isDone_17 hΓ ?_
    refine sX7_isDone_18 hΓ ?_
    exact sX7_isDone_22 hΓ (by first | exact Or.inl rfl | exact Or.inr rfl) hq
  · have e := bI_0 c4
    have e0 : pR P = 0 := by
      cases e9 : pR P == 0 with
      | true => exact beq_iff_eq.mp e9
      | false => rw [e9] at e; exact Bool.noConfusion e
    rw [e, Bool.false_or] at hq
    refine sX7_isDone_7 hΓ rfl ?_
    refine sX7_isDone_8 hΓ hG.o rfl ?_
    refine sX7_isDone_11 hΓ hG.t rfl ?_
    refine sX7_isDone_14 hΓ (fun c14 => ?_) (fun c14 => ?_)
    · rw [beq_eq_false_iff_ne.mpr (fun e9 => c14 ((tKd_lt hG.2.2.2.2 (k := 0) (by decide)).mpr ((hr e0).2.2.symm.trans e9)))] at hq
      refine sX7_isDone_21 hΓ ?_
      exact sX7_isDone_22 hΓ (by first | exact Or.inl rfl | exact Or.inr rfl) hq
    · rw [beq_iff_eq.mpr ((hr e0).2.2.trans ((tKd_lt hG.2.2.2.2 (k := 0) (by decide)).mp c14))] at hq
      refine sX7_isDone_17 hΓ ?_
      refine sX7_isDone_18 hΓ ?_
      exact sX7_isDone_22 hΓ (by first | exact Or.inl rfl | exact Or.inr rfl) hq
end ClassParse
