/-! the class's parser: scripts -/
theorem cHl_cg {nd nd1 : Nat → Nat} {D D1 : Nat → Dt} {O O1 : Nat → Int32} : ∀ (m i j : Nat) (h : Option Nat) (li : Nat), (∀ q, i ≤ q → q < j → nd1 q = nd q ∧ D1 q = D q ∧ ∀ w, w < 4 → O1 (4 * q + w) = O (4 * q + w)) → cHl nd D O m i j h li → cHl nd1 D1 O1 m i j h li
  | m + 1, i, j, h, li, e, ⟨h1, h2, x, h3, h4, ⟨h5, h6⟩, h7⟩ => by
    obtain ⟨e1, e2, e3⟩ := e i (Nat.le_refl i) h1
    refine ⟨h1, by rw [e1]; exact h2, x, h3, h4, ⟨by rw [e2]; exact h5.cg e3, ?_⟩, ?_⟩
    · rw [e2]
      rcases h6 with h6 | ⟨h6, h8, h9⟩
      · exact Or.inl h6
      · exact Or.inr ⟨h6, by rw [e3 2 (by decide)]; exact h8, cH_cg m m _ _ _ (Nat.le_refl m) (fun q q1 q2 => e q (by omega) (by omega)) h9⟩
    · rw [e2]
      rcases h7 with h7 | h7
      · exact Or.inl h7
      · exact Or.inr (cHl_cg m x j _ li (fun q q1 q2 => e q (by omega) q2) h7)
/-- the commands made, in the order of the orders -/
def CM (G : Gl) (σ : Hp) (c nd : Nat → Nat) (D : Nat → Dt) (oc : Nat) : Prop := ∀ i, i < oc → σ (nd i) = some (.inr (0, cmV G (D i))) ∧ c (nd i) = nd i ∧ ∀ j, j < oc → nd i = nd j → i = j
theorem CM.keep {G : Gl} {σ σ1 : Hp} {c c1 nd : Nat → Nat} {D : Nat → Dt} {oc : Nat} {W : Nat → Prop} (h : CM G σ c nd D oc) (f : KF W σ c σ1 c1) (hW : ∀ i, i < oc → ¬ W (nd i)) : CM G σ1 c1 nd D oc := fun i hi => by
  obtain ⟨h1, h2, h3⟩ := h i hi
  obtain ⟨a, b, -⟩ := f _ _ h1
  exact ⟨b (by rw [h2]; exact hW i hi), a.trans h2, h3⟩
theorem CM.ne {G : Gl} {σ : Hp} {c nd : Nat → Nat} {D : Nat → Dt} {oc x j : Nat} {fs : List Value} (h : CM G σ c nd D oc) (hp : σ x = some (.inr (j, fs))) (hj : j ≠ 0) : ∀ i, i < oc → ¬ nd i = x := fun i hi => obj_ne (h i hi).1 hp (Ne.symm hj)
theorem CM.put {G : Gl} {σ : Hp} {c nd : Nat → Nat} {D : Nat → Dt} {oc li : Nat} (h : CM G σ c nd D oc) (hl : li < oc) (D1 : Nat → Dt) (hD : ∀ i, i < oc → i ≠ li → D1 i = D i) : CM G (hset σ (nd li) (.inr (0, cmV G (D1 li)))) c nd D1 oc := fun i hi => by
  obtain ⟨h1, h2, h3⟩ := h i hi
  refine ⟨?_, h2, h3⟩
  by_cases e : i = li
  · rw [e]; exact hset_same _ _ _
  · rw [hset_ne (fun e9 => e (h3 li hl e9)), hD i hi e]; exact h1
def nU {α : Type} (f : Nat → α) (i : Nat) (v : α) : Nat → α := fun j => if j = i then v else f j
theorem nU_s {α : Type} {f : Nat → α} {i : Nat} {v : α} : nU f i v i = v := if_pos rfl
theorem nU_n {α : Type} {f : Nat → α} {i j : Nat} {v : α} (h : j ≠ i) : nU f i v j = f j := if_neg h
theorem CM.add {G : Gl} {σ : Hp} {c nd : Nat → Nat} {D : Nat → Dt} {oc q : Nat} {x : Dt} (h : CM G σ c nd D oc) (hq : σ q = some (.inr (0, cmV G x))) (hc : c q = q) (hn : ∀ i, i < oc → nd i ≠ q) : CM G σ c (nU nd oc q) (nU D oc x) (oc + 1) := fun i hi => by
  by_cases e : i = oc
  · subst e
    rw [nU_s, nU_s]
    refine ⟨hq, hc, fun j hj ej => ?_⟩
    by_cases e2 : j = i
    · exact e2.symm
    · rw [nU_n e2] at ej
      exact absurd ej.symm (hn j (by omega))
  · rw [nU_n e, nU_n e]
    obtain ⟨h1, h2, h3⟩ := h i (by omega)
    refine ⟨h1, h2, fun j hj ej => ?_⟩
    by_cases e2 : j = oc
    · subst e2
      rw [nU_s] at ej
      exact absurd ej (hn i (by omega))
    · rw [nU_n e2] at ej
      exact h3 j (by omega) ej
theorem CM.sub {G : Gl} {σ : Hp} {c nd : Nat → Nat} {D : Nat → Dt} {oc oc1 : Nat} (h : CM G σ c nd D oc) (hl : oc1 ≤ oc) : CM G σ c nd D oc1 := fun i hi => by
  obtain ⟨h1, h2, h3⟩ := h i (by omega)
  exact ⟨h1, h2, fun j hj => h3 j (by omega)⟩
theorem KF.fresh {W : Nat → Prop} {σ σ1 : Hp} {c c1 : Nat → Nat} {q : Nat} {e : va_E} (f : KF W σ c σ1 c1) (hq : σ q = none) : KF W σ c (hset σ1 q e) c1 := fun x e1 hx => by
  have hne : x ≠ q := fun e9 => by rw [e9, hq] at hx; cases hx
  rw [hset_ne hne]
  exact f x e1 hx
theorem PQ.cmd {G : Gl} {σ : Hp} {c : Nat → Nat} {pr tk inp q : Nat} {b : Nat → Int32} {L : Nat} {P : Pt} {cc : Int32} {fs : List Value} {e : va_E} (h : PQ G σ c pr tk inp b L P cc) (hq : σ q = some (.inr (0, fs))) : PQ G (hset σ q e) c pr tk inp b L P cc := by
  obtain ⟨h4, p, ⟨⟨g1, g2, v, n, ⟨g3, g4⟩, k3, k4⟩, kk, g5⟩, hr⟩ := h
  refine ⟨h4, p, ⟨⟨?_, ?_, v, n, ⟨?_, ?_⟩, k3, k4⟩, kk, g5⟩, hr⟩
  · rw [hset_ne (obj_ne g1 hq (by decide))]; exact g1
  · rw [hset_ne (obj_ne g2 hq (by decide))]; exact g2
  · rw [hset_ne (obj_ne g3 hq (by decide))]; exact g3
  · rw [hset_ne (Ne.symm (oa_ne hq g4))]; exact g4
theorem PQ.new {G : Gl} {σ : Hp} {c : Nat → Nat} {pr tk inp q o : Nat} {b : Nat → Int32} {L : Nat} {P : Pt} {cc : Int32} {e : va_E} (h : PQ G σ c pr tk inp b L P cc) (hq : σ q = none) : PQ G (hset σ q e) (colN c q o) pr tk inp b L P cc := h.keep (KF.new (W := fun _ => False) hq) id id
def aLo (k : Nat) : Nat := if k = 7 then 2 else fLo k
def aHi (k : Nat) : Nat := if k = 7 then 5 else fHi k
theorem kd_lo {k : Nat} (h : k < 8) : ([0, 0, 0, 0, 0, 0, 1, 2] : List Int32).getD k 0 = nI (aLo k) := by
  match k, h with
  | 0, _ | 1, _ | 2, _ | 3, _ | 4, _ | 5, _ | 6, _ | 7, _ => rfl
theorem kd_hi {k : Nat} (h : k < 8) : ([255, 127, 127, 127, 23, 23, 60, 5] : List Int32).getD k 0 = nI (aHi k) := by
  match k, h with
  | 0, _ | 1, _ | 2, _ | 3, _ | 4, _ | 5, _ | 6, _ | 7, _ => rfl
theorem kd_s {k : Nat} (h : k < 8) : ([255, 28, 15, -1, -1, -1, -1, -1] : List Int32).getD k 0 = if k < 3 then nI (sHi k) else -1 := by
  match k, h with
  | 0, _ | 1, _ | 2, _ | 3, _ | 4, _ | 5, _ | 6, _ | 7, _ => rfl
theorem kd_t {k : Nat} (h : k < 8) : ([255, -1, -1, -1, -1, -1, -1, -1] : List Int32).getD k 0 = if k = 0 then nI 255 else -1 := by
  match k, h with
  | 0, _ | 1, _ | 2, _ | 3, _ | 4, _ | 5, _ | 6, _ | 7, _ => rfl
theorem aLo_lt {k : Nat} (h : k < 8) : aLo k < 1000 ∧ aHi k < 1000 ∧ sHi k < 1000 ∧ (k < 3 → nI (sHi k) ≠ -1) := by
  match k, h with
  | 0, _ | 1, _ | 2, _ | 3, _ | 4, _ | 5, _ | 6, _ | 7, _ => decide
theorem oHead_none {b : Nat → Int32} {L oc : Nat} {dp : Bool} {P : Pt} (h0 : pR P = 0) (e : oHere b P = none) : oHead b L oc dp P = pCk false 1 P := by
  have hr : ¬ pR (pCk false 1 P) = 0 := by rw [pCk_R rfl h0]; decide
  unfold oHead
  rw [e]
  show pGo b L (pCk _ 4 (pCk false 1 P)) = pCk false 1 P
  rw [pCk_id (P := pCk false 1 P) (Or.inr hr), pGo_n hr]
theorem oHead_eq {b : Nat → Int32} {L oc k : Nat} {dp : Bool} {P : Pt} (h0 : pR P = 0) (e : oHere b P = some k) : oHead b L oc dp P = pGo b L (pCk (decide (oc < 20) && (some k != some 7 || dp)) 4 P) := by
  unfold oHead
  rw [e]
  show pGo b L (pCk (pR (pCk true 1 P) != 0 || _) 4 (pCk true 1 P)) = _
  rw [pCk_id (c := true) (x := 1) (P := P) (Or.inl rfl), h0]
  rfl
theorem oHead_no {b : Nat → Int32} {L oc k : Nat} {dp : Bool} {P : Pt} (h0 : pR P = 0) (e : oHere b P = some k) (hn : ¬ (oc < 20 ∧ (k = 7 → dp = true))) : oHead b L oc dp P = pCk false 4 P := by
  have e1 : (decide (oc < 20) && (some k != some 7 || dp)) = false := by
    rw [Bool.eq_false_iff]
    intro e9
    rw [Bool.and_eq_true, decide_eq_true_iff, Bool.or_eq_true, bne_iff_ne] at e9
    refine hn ⟨e9.1, fun e7 => ?_⟩
    rcases e9.2 with h | h
    · exact absurd (by rw [e7]) h
    · exact h
  rw [oHead_eq h0 e, e1, pGo_n (by rw [pCk_R rfl h0]; decide)]
theorem oHead_yes {b : Nat → Int32} {L oc k : Nat} {dp : Bool} {P : Pt} (h0 : pR P = 0) (e : oHere b P = some k) (h1 : oc < 20) (h2 : k = 7 → dp = true) : oHead b L oc dp P = pGo b L P := by
  have e1 : (decide (oc < 20) && (some k != some 7 || dp)) = true := by
    rw [Bool.and_eq_true, decide_eq_true_iff, Bool.or_eq_true, bne_iff_ne]
    refine ⟨h1, ?_⟩
    by_cases e7 : k = 7
    · exact Or.inr (h2 e7)
    · exact Or.inl (fun e9 => e7 (Option.some.inj e9))
  rw [oHead_eq h0 e, e1, pCk_id (Or.inl rfl)]
theorem Ok.cx {G : Gl} {κ : Kx} {M : Mx} {d : Nat} {Q : Option Value → Hp → Prop} {X : String → Hp → Prop} (hΓ : Ok G κ M d Q X) : ∃ U H, CI G U H := by
  obtain ⟨p, l, e, R, s, m, args, below, meth, c, Z⟩ := κ
  exact ⟨_, _, hΓ.ci⟩
section ClassScript
variable {G : Gl} {κ : Kx} {d : Nat} {Q : Option Value → Hp → Prop} {X : String → Hp → Prop} {cs ss pc : Nat} {M : List (Option LV)} {st : List Value} {σ σ1 σ2 : Hp} {c c1 c2 : Nat → Nat} {pr tk inp : Nat} {b : Nat → Int32} {L : Nat} {cc cc1 : Int32} {P P1 : Pt} {q : Nat} {D : Dt}
/-- the state while a command is taken: its cell is q -/
def TC (G : Gl) (σ : Hp) (c : Nat → Nat) (σ1 : Hp) (c1 : Nat → Nat) (pr tk inp : Nat) (b : Nat → Int32) (L : Nat) (P : Pt) (cc : Int32) (q : Nat) (D : Dt) : Prop := PQ G σ1 c1 pr tk inp b L P cc ∧ (σ1 q = some (.inr (0, cmV G D)) ∧ c1 q = q) ∧ KF (fun x => x = pr) σ c σ1 c1 ∧ σ q = none ∧ q ≠ pr
theorem TC.mv (h : TC G σ c σ1 c1 pr tk inp b L P cc q D) (hP : PQ G σ2 c2 pr tk inp b L P1 cc1) (f : KF (fun x => x = pr) σ1 c1 σ2 c2) : TC G σ c σ2 c2 pr tk inp b L P1 cc1 q D := by
  obtain ⟨h1, ⟨h2, h3⟩, h4, h5, h6⟩ := h
  obtain ⟨a, b1, -⟩ := f q _ h2
  exact ⟨hP, ⟨b1 (by rw [h3]; exact h6), a.trans h3⟩, h4.tr f, h5, h6⟩
theorem tc_put (h : TC G σ c σ1 c1 pr tk inp b L P cc q D) {fs : List Value} (D1 : Dt) (hf : fs = cmV G D1) (kk : ∀ σ2 : Hp, TC G σ c σ2 c1 pr tk inp b L P cc q D1 → AW G κ cs ss pc M st σ2) : AW G κ cs ss pc M st (hset σ1 q (.inr (0, fs))) := by
  subst hf
  obtain ⟨h1, ⟨h2, h3⟩, h4, h5, h6⟩ := h
  exact kk _ ⟨h1.cmd h2, ⟨hset_same _ _ _, h3⟩, h4.fresh h5, h5, h6⟩
theorem TC.o (h : TC G σ c σ1 c1 pr tk inp b L P cc q D) : σ1 q = some (.inr (0, cmV G D)) := h.2.1.1
/-- what a command's taking leaves -/
def CmdR (G : Gl) (σ : Hp) (c : Nat → Nat) (σ1 : Hp) (c1 : Nat → Nat) (pr tk inp : Nat) (b : Nat → Int32) (L : Nat) (nd : Nat → Nat) (D : Nat → Dt) (Z Y : Zt) (cc1 : Int32) (r : Option Nat) : Prop :=
  PQ G σ1 c1 pr tk inp b L Y.1 cc1 ∧ KF (fun x => x = pr) σ c σ1 c1 ∧ (∀ q, r = some q → σ q = none ∧ ∃ fs, σ1 q = some (.inr (0, fs)) ∧ fs.length = 6) ∧ (pR Y.1 = 0 → cc1 = nI Y.2.2 ∧ ∃ (nd1 : Nat → Nat) (D1 : Nat → Dt) (m : Nat), (∀ i, i < Z.2.2 → nd1 i = nd i ∧ D1 i = D i) ∧ CM G σ1 c1 nd1 D1 Y.2.2 ∧ (∀ i, Z.2.2 ≤ i → i < Y.2.2 → σ (nd1 i) = none) ∧ r = some (nd1 Z.2.2) ∧ cHl nd1 D1 Y.2.1 m Z.2.2 Y.2.2 r Z.2.2 ∧ dNx (D1 Z.2.2) = none)
def CmsR (G : Gl) (σ : Hp) (c : Nat → Nat) (σ1 : Hp) (c1 : Nat → Nat) (pr tk inp : Nat) (b : Nat → Int32) (L : Nat) (nd : Nat → Nat) (D : Nat → Dt) (Z Y : Zt) (cc1 : Int32) (r : Option Nat) : Prop :=
  PQ G σ1 c1 pr tk inp b L Y.1 cc1 ∧ KF (fun x => x = pr) σ c σ1 c1 ∧ (pR Y.1 = 0 → cc1 = nI Y.2.2 ∧ ∃ (nd1 : Nat → Nat) (D1 : Nat → Dt) (m : Nat), (∀ i, i < Z.2.2 → nd1 i = nd i ∧ D1 i = D i) ∧ CM G σ1 c1 nd1 D1 Y.2.2 ∧ (∀ i, Z.2.2 ≤ i → i < Y.2.2 → σ (nd1 i) = none) ∧ cH nd1 D1 Y.2.1 m Z.2.2 Y.2.2 r)
def CmdSpec (G : Gl) (pr tk inp : Nat) (b : Nat → Int32) (L : Nat) (f : Zt → Zt) (x : Int32) (k : Nat) : Prop := ∀ (κ : Kx) (d : Nat) (Q : Option Value → Hp → Prop) (X : String → Hp → Prop) (cs ss : Nat) (σ : Hp) (c nd : Nat → Nat) (D : Nat → Dt) (Z : Zt) (cc : Int32), k ≤ d → Ok G κ mX7_takeCommand d Q X → PQ G σ c pr tk inp b L Z.1 cc → pR Z.1 = 0 → cc = nI Z.2.2 → CM G σ c nd D Z.2.2 → oInv b L Z → (∀ (σ1 : Hp) (c1 : Nat → Nat) (cc1 : Int32) (r : Option Nat), CmdR G σ c σ1 c1 pr tk inp b L nd D Z (f Z) cc1 r → Q (some (va_rf r)) σ1) → AW G κ (cs + ((f Z).2.2 - Z.2.2)) (ss + 6 * ((f Z).2.2 - Z.2.2)) 0 [lR pr, lI x, none, none, none] [] σ
def CmsSpec (G : Gl) (pr tk inp : Nat) (b : Nat → Int32) (L : Nat) (f : Zt → Zt) (x : Int32) (k : Nat) : Prop := ∀ (κ : Kx) (d : Nat) (Q : Option Value → Hp → Prop) (X : String → Hp → Prop) (cs ss : Nat) (σ : Hp) (c nd : Nat → Nat) (D : Nat → Dt) (Z : Zt) (cc : Int32), k ≤ d → Ok G κ mX7_takeCommands d Q X → PQ G σ c pr tk inp b L Z.1 cc → (pR Z.1 = 0 → cc = nI Z.2.2 ∧ CM G σ c nd D Z.2.2) → oInv b L Z → (∀ (σ1 : Hp) (c1 : Nat → Nat) (cc1 : Int32) (r : Option Nat), CmsR G σ c σ1 c1 pr tk inp b L nd D Z (cLoop f 21 Z) cc1 r → Q (some (va_rf r)) σ1) → AW G κ (cs + ((cLoop f 21 Z).2.2 - Z.2.2)) (ss + 6 * ((cLoop f 21 Z).2.2 - Z.2.2)) 0 [lR pr, lI x, none, none, none, none] [] σ
theorem sd_init (hΓ : Ok G κ mX1_init (d + 1) Q X) {k : Nat} {fs : List Value} (h : σ q = some (.inr (0, fs))) (hl : 0 < fs.length) (hq : Q none (hset σ q (.inr (0, fs.set 0 (.ref k))))) : AW G κ cs ss 0 [lR q, lR k] [] σ := by
  refine sX1_init_0 hΓ rfl ?_
  refine sX1_init_1 hΓ (Nat.le_of_ble_eq_true rfl) ?_
  refine sX1_init_4 hΓ rfl ?_
  refine sX1_init_5 hΓ rfl ?_
  refine sX1_init_6 hΓ h hl ?_
  exact sX1_init_9 hΓ hq
theorem sq_kindOfWord (hΓ : Ok G κ mX7_kindOfWord (d + 5) Q X) (h : PQ G σ c pr tk inp b L P cc) (h0 : pR P = 0) (hq : Q (some (va_rf ((oHere b P).map (gE G)))) σ) : AW G κ cs ss 0 [lR pr, none, none, none, none] [] σ := by
  obtain ⟨h4, p, hG, hr⟩ := h
  obtain ⟨v, n, hI, -, -⟩ := hG.1.2.2
  suffices loop : ∀ (m i : Nat) (x : Int32) (w : Option LV), i + m = 8 → x = nI i → (∀ j, j < i → pWrd b P (kwT j) = false) → AW G κ cs ss 9 [lR pr, lR (gE G 100), lI (nI 8), lI x, w] [] σ by
    refine sX7_kindOfWord_0 hΓ ?_
    refine sX7_kindOfWord_3 hΓ ?_
    refine sX7_kindOfWord_4 hΓ rfl ?_
    refine sX7_kindOfWord_5t hΓ ?_
    refine sX7_kindOfWord_6 hΓ ?_
    refine sX7_kindOfWord_7 hΓ ?_
    refine sX7_kindOfWord_8 hΓ ?_
    exact loop 8 0 _ _ rfl rfl (fun j hj => absurd hj (Nat.not_lt_zero j))
  intro m
  induction m with
  | zero =>
    intro i x w hi hx hj
    have ei : i = 8 := by omega
    subst ei
    have e : oHere b P = none := fsB_none _ hj
    rw [e] at hq
    refine sX7_kindOfWord_9 hΓ rfl ?_
    refine sX7_kindOfWord_10 hΓ rfl ?_
    refine sX7_kindOfWord_11 hΓ (fun c8 => ?_) (fun c8 => absurd (lp_out hx (n := 8) rfl (by omega) (by omega)) c8)
    refine sX7_kindOfWord_43 hΓ ?_
    exact sX7_kindOfWord_44q hΓ (r := none) hq
  | succ m ih =>
    intro i x w hi hx hj
    have hk : kwT i < 11 := (by decide : ∀ k : Fin 8, kwT k.1 < 11) ⟨i, by omega⟩
    refine sX7_kindOfWord_9 hΓ rfl ?_
    refine sX7_kindOfWord_10 hΓ rfl ?_
    refine sX7_kindOfWord_11 hΓ (fun c8 => absurd c8 (lp_in hx (n := 8) rfl (by omega) (by decide))) (fun c8 => ?_)
    refine sX7_kindOfWord_14 hΓ rfl ?_
    refine sX7_kindOfWord_15 hΓ rfl ?_
    refine sX7_kindOfWord_16t hΓ hx (by omega) ?_
    refine sX7_kindOfWord_17 hΓ ?_
    refine sX7_kindOfWord_19 hΓ rfl ?_
    refine sX7_kindOfWord_20 hΓ hG.o rfl ?_
    refine sX7_kindOfWord_23 hΓ rfl ?_
    refine sX7_kindOfWord_25 hΓ (j := i) (by omega) ?_
    refine sX7_kindOfWord_28 hΓ 0 0 (Nat.le_of_ble_eq_true rfl) hG.t (fun κ_28 hΓ_28 => sk_isWord hΓ_28 hG.t hI rfl hG.2.2.2.1 hG.2.2.2.2 hG.2.2.1 hk ?_)
    show AW G κ _ _ 31 _ _ _
    refine sX7_kindOfWord_31 hΓ (fun c31 => ?_) (fun c31 => ?_)
    · have e := bI_0 c31
      rw [← pWrd_t (hr h0) h0] at e
      refine sX7_kindOfWord_37 hΓ rfl ?_
      refine sX7_kindOfWord_40 hΓ ?_
      exact ih (i + 1) _ _ (by omega) (lp_1 hx) (fun j hj2 => (Nat.lt_succ_iff_lt_or_eq.mp hj2).elim (hj j) (fun e1 => by rw [e1]; exact e))
    · have e := bI_n0 c31
      rw [← pWrd_t (hr h0) h0] at e
      have e2 : oHere b P = some i := fsB_some (fun k => pWrd b P (kwT k)) e hj (by omega)
      rw [e2] at hq
      refine sX7_kindOfWord_34 hΓ rfl ?_
      exact sX7_kindOfWord_36 hΓ hq
theorem KF.nn {W : Nat → Prop} (f : KF W σ c σ1 c1) (h : σ1 q = none) : σ q = none := by
  cases e : σ q with
  | none => rfl
  | some v =>
    obtain ⟨-, -, e1, h1⟩ := f q v e
    rw [h] at h1
    cases h1
theorem pq_cc (h : PQ G σ c pr tk inp b L P cc) {fs : List Value} (cc1 : Int32) (hf : fs = prV tk (nI (pR P)) (oOf P) cc1) (kk : ∀ σ1 : Hp, PQ G σ1 c pr tk inp b L P cc1 → KF (fun x => x = pr) σ c σ1 c → AW G κ cs ss pc M st σ1) : AW G κ cs ss pc M st (hset σ pr (.inr (4, fs))) := by
  obtain ⟨h4, p, hG, hr⟩ := h
  exact pg_put hG _ _ cc1 hf (fun σ1 h1 f1 => kk σ1 ⟨h4, p, h1, hr⟩ f1)
theorem TC.pt (h : TC G σ c σ1 c1 pr tk inp b L P cc q D) (D1 : Dt) : TC G σ c (hset σ1 q (.inr (0, cmV G D1))) c1 pr tk inp b L P cc q D1 := by
  obtain ⟨h1, ⟨h2, h3⟩, h4, h5, h6⟩ := h
  exact ⟨h1.cmd h2, ⟨hset_same _ _ _, h3⟩, h4.fresh h5, h5, h6⟩
theorem PQ.t (h : PQ G σ c pr tk inp b L P cc) : ∃ p, σ tk = some (.inr (7, tkV inp (nI L) (tKd b L p) (nI (tS b L p)) (nI (tE b L p)) (nI (tVl b L p)))) ∧ (pR P = 0 → RP b L p P) := by
  obtain ⟨h4, p, hG, hr⟩ := h
  exact ⟨p, hG.t, hr⟩
theorem cLoop_O {f : Zt → Zt} (hs : ∀ Z, oInv b L Z → oStep b L Z (f Z)) (hg : ∀ Z, oInv b L Z → ∀ q, q < 4 * Z.2.2 → (f Z).2.1 q = Z.2.1 q) : ∀ (m : Nat) (Z : Zt), oInv b L Z → ∀ q, q < 4 * Z.2.2 → (cLoop f m Z).2.1 q = Z.2.1 q
  | 0, _, _ => fun _ _ => rfl
  | m + 1, Z, h => fun q hq => by
    by_cases e : pR Z.1 = 0 ∧ pK Z.1 = 1
    · rw [show cLoop f (m + 1) Z = cLoop f m (f Z) from if_pos e]
      obtain ⟨h1, h2, -⟩ := hs Z h
      exact (cLoop_O hs hg m (f Z) h1 q (by omega)).trans (hg Z h q hq)
    · rw [cLoop_f e]
theorem sq_takeCommand {rp f : Zt → Zt} {dp : Bool} {x : Int32} {e K : Nat} (hx : x = nI e) (he : e ≤ 2) (hdp : dp = decide (e < 2)) (hK : 5 ≤ K) (hrec : dp = true → CmsSpec G pr tk inp b L f (x + 1) K ∧ (∀ Z, rp Z = oLoop f b 21 Z) ∧ (∀ Z, pR Z.1 = 0 → ¬ pK Z.1 = 1 → f Z = (pCk false 1 Z.1, Z.2)) ∧ (∀ Z, oInv b L Z → oStep b L Z (f Z)) ∧ ∀ Z, oInv b L Z → ∀ q, q < 4 * Z.2.2 → (f Z).2.1 q = Z.2.1 q) : CmdSpec G pr tk inp b L (oOne b L rp dp) x (K + 1) := by
  intro κ dd Q X cs ss σ c nd D Z cc hdd hΓ h h0 hcc hCM hI hq
  obtain ⟨d, rfl⟩ : ∃ d, dd = d + 6 := ⟨dd - 6, by omega⟩
  obtain ⟨Y, hY⟩ : ∃ Y, Y = oOne b L rp dp Z := ⟨_, rfl⟩
  rw [← hY] at hq ⊢
  obtain ⟨cs9, hcs⟩ : ∃ k, k = cs + (Y.2.2 - Z.2.2) := ⟨_, rfl⟩
  obtain ⟨ss9, hss⟩ : ∃ k, k = ss + 6 * (Y.2.2 - Z.2.2) := ⟨_, rfl⟩
  rw [← hcs, ← hss]
  have hoc := hI.2
  obtain ⟨U, H, hci⟩ := hΓ.cx
  obtain ⟨pt, ht, hrt⟩ := h.t
  suffices at23 : ∀ k, oHere b Z.1 = some k → AW G κ cs9 ss9 23 [lR pr, lI x, lR (gE G k), none, none] [] σ by
    refine sX7_takeCommand_0 hΓ rfl ?_
    refine sX7_takeCommand_1 hΓ 0 0 (Nat.le_of_ble_eq_true rfl) h.o (fun κ_1 hΓ_1 => sq_kindOfWord hΓ_1 h h0 ?_)
    show AW G κ _ _ 4 _ _ _
    refine sX7_takeCommand_4q hΓ ?_
    refine sX7_takeCommand_5q hΓ rfl ?_
    refine sX7_takeCommand_6 hΓ (fun a c6 => ?_) (fun c6 => ?_)
    · cases hk : oHere b Z.1 with
      | none => rw [hk] at c6; cases c6
      | some k =>
        have g := at23 k hk
        exact g
    · have hk : oHere b Z.1 = none := by
        cases hk : oHere b Z.1 with
        | none => rfl
        | some k => rw [hk] at c6; cases c6
      have eY : Y = (pCk false 1 Z.1, Z.2) := by
        rw [hY]
        unfold oOne
        rw [oHead_none h0 hk, if_pos (by rw [pCk_R rfl h0]; decide)]
      refine sX7_takeCommand_9 hΓ rfl ?_
      refine sX7_takeCommand_10 hΓ ?_
      refine sX7_takeCommand_11 hΓ rfl ?_
      refine sX7_takeCommand_12 hΓ h.o rfl ?_
      refine sX7_takeCommand_15 hΓ ht rfl ?_
      refine sX7_takeCommand_18 hΓ 0 0 (Nat.le_of_ble_eq_true rfl) h.o (fun κ_18 hΓ_18 => sq_fail hΓ_18 h (n := 1) rfl (by decide) (by decide) (fun e0 => by rw [(hrt e0).1]) (fun σ1 h1 f1 => ?_))
      show AW G κ _ _ 21 _ _ _
      refine sX7_takeCommand_21 hΓ ?_
      exact sX7_takeCommand_22q hΓ (r := none) (hq _ c cc none (by rw [eY]; exact ⟨h1, (KF.rf.tr f1), fun q e => by (cases e), fun e => absurd e (by show ¬ pR (pCk false 1 Z.1) = 0; rw [pCk_R rfl h0]; decide)⟩))
  intro k hk
  have hk8 : k < 8 := (fsB_lt _ hk).1
  suffices at36 : AW G κ cs9 ss9 36 [lR pr, lI x, lR (gE G k), lI (if k = 7 then 1 else 0), none] [] σ by
    refine sX7_takeCommand_23 hΓ rfl ?_
    refine sX7_takeCommand_24 hΓ ?_
    refine sX7_takeCommand_27 hΓ (rx := some (gE G k)) (ry := some (gE G 7)) (fun c27 => ?_) (fun c27 => ?_)
    · have e7 : ¬ k = 7 := fun e => c27 (by rw [e])
      rw [if_neg e7] at at36
      refine sX7_takeCommand_34 hΓ ?_
      exact sX7_takeCommand_35 hΓ at36
    · have e7 : k = 7 := ce_inj hci hk8 (by decide) (Option.some.inj c27)
      rw [if_pos e7] at at36
      refine sX7_takeCommand_30 hΓ ?_
      refine sX7_takeCommand_31 hΓ ?_
      exact sX7_takeCommand_35 hΓ at36
  suffices at68 : Z.2.2 < 20 → (k = 7 → dp = true) → AW G κ cs9 ss9 68 [lR pr, lI x, lR (gE G k), lI (if k = 7 then 1 else 0), none] [] σ by
    have at54 : ¬ (Z.2.2 < 20 ∧ (k = 7 → dp = true)) → AW G κ cs9 ss9 54 [lR pr, lI x, lR (gE G k), lI (if k = 7 then 1 else 0), none] [] σ := by
      intro hn
      have eY : Y = (pCk false 4 Z.1, Z.2) := by
        rw [hY]
        unfold oOne
        rw [oHead_no h0 hk hn, if_pos (by rw [pCk_R rfl h0]; decide)]
      refine sX7_takeCommand_54 hΓ rfl ?_
      refine sX7_takeCommand_55 hΓ ?_
      refine sX7_takeCommand_56 hΓ rfl ?_
      refine sX7_takeCommand_57 hΓ h.o rfl ?_
      refine sX7_takeCommand_60 hΓ ht rfl ?_
      refine sX7_takeCommand_63 hΓ 0 0 (Nat.le_of_ble_eq_true rfl) h.o (fun κ_63 hΓ_63 => sq_fail hΓ_63 h (n := 4) rfl (by decide) (by decide) (fun e0 => by rw [(hrt e0).1]) (fun σ1 h1 f1 => ?_))
      show AW G κ _ _ 66 _ _ _
      refine sX7_takeCommand_66 hΓ ?_
      exact sX7_takeCommand_67q hΓ (r := none) (hq _ c cc none (by rw [eY]; exact ⟨h1, (KF.rf.tr f1), fun q e => by (cases e), fun e => absurd e (by show ¬ pR (pCk false 4 Z.1) = 0; rw [pCk_R rfl h0]; decide)⟩))
    refine sX7_takeCommand_36 hΓ rfl ?_
    refine sX7_takeCommand_37 hΓ h.o rfl ?_
    refine sX7_takeCommand_40 hΓ ?_
    refine sX7_takeCommand_42 hΓ (fun c42 => ?_) (fun c42 => ?_)
    · have e20 := nI_lez (i := 20) rfl hcc (by decide) (by omega) c42
      exact at54 (fun e9 => by have := e9.1; omega)
    · have hlt : Z.2.2 < 20 := Nat.lt_of_not_le (fun e9 => c42 (lp_out hcc (n := 20) rfl e9 (by omega)))
      refine sX7_takeCommand_45 hΓ rfl ?_
      refine sX7_takeCommand_46 hΓ (fun c46 => ?_) (fun c46 => ?_)
      · exact at68 hlt (fun e9 => absurd (c46.symm.trans (if_pos e9)) (by decide))
      · have e7 : k = 7 := Classical.not_not.mp (fun e9 => c46 (if_neg e9))
        refine sX7_takeCommand_49 hΓ rfl ?_
        refine sX7_takeCommand_50 hΓ ?_
        refine sX7_takeCommand_51 hΓ (fun c51 => ?_) (fun c51 => ?_)
        · have e2 := nI_ltz (n := 2) hx rfl (by omega) (by decide) c51
          exact at68 hlt (fun _ => by rw [hdp]; exact decide_eq_true e2)
        · refine at54 (fun e9 => ?_)
          have e2 := e9.2 e7
          rw [hdp] at e2
          have e3 : e < 2 := of_decide_eq_true e2
          rw [hx] at c51
          rcases (show e = 0 ∨ e = 1 by omega) with e4 | e4 <;> (rw [e4] at c51; exact c51 (by decide))
  intro hlt hd7
  have hHd : oHead b L Z.2.2 dp Z.1 = pGo b L Z.1 := oHead_yes h0 hk hlt hd7
  have hR1 : pR (pGo b L Z.1) = 0 := pGo_R.trans h0
  have hYp : ¬ k = 7 → Y = oPlain b L k (pGo b L Z.1, Z.2) := fun e9 => by
    rw [hY]
    unfold oOne
    rw [hHd, if_neg (fun e => e hR1), if_neg (fun e => e9 (Option.some.inj (hk.symm.trans e))), hk]
    rfl
  have hY7 : k = 7 → Y = oRep1 b L Z.2.2 (rp (oRep0 b L (pGo b L Z.1, Z.2))) := fun e9 => by
    rw [hY]
    unfold oOne
    rw [hHd, if_neg (fun e => e hR1), if_pos (by rw [hk, e9])]
  have hP1 : pOk b L (pGo b L Z.1) := pGo_ok hI.1
  have hI0 : oInv b L (oRep0 b L (pGo b L Z.1, Z.2)) := ⟨pExp_ok (pRead_ok hP1), hlt⟩
  have hoc7 : k = 7 → Y.2.2 = (cLoop f 21 (oRep0 b L (pGo b L Z.1, Z.2))).2.2 ∧ Z.2.2 + 1 ≤ Y.2.2 := fun e9 => by
    obtain ⟨-, h2, h3, h4, -⟩ := hrec (hd7 e9)
    have e1 : Y.2.2 = (cLoop f 21 (oRep0 b L (pGo b L Z.1, Z.2))).2.2 := by
      rw [hY7 e9]
      show (rp _).2.2 = _
      rw [h2]
      exact congrArg (fun u : (Nat → Int32) × Nat => u.2) (oLoop_c (b := b) (L := L) h3 21 _).1
    refine ⟨e1, ?_⟩
    rw [e1]
    exact (cLoop_ok h4 21 _ hI0).2
  have hoc1 : Z.2.2 + 1 ≤ Y.2.2 := by
    by_cases e9 : k = 7
    · exact (hoc7 e9).2
    · rw [hYp e9]; exact Nat.le_refl _
  suffices at93 : ∀ (σ3 : Hp) (c3 : Nat → Nat) (q : Nat), TC G σ c σ3 c3 pr tk inp b L (pGo b L Z.1) (cc + 1) q (k, 0, 0, 0, none, none) → AW G κ (cs + (Y.2.2 - (Z.2.2 + 1))) (ss + 6 * (Y.2.2 - (Z.2.2 + 1))) 93 [lR pr, lI x, lR (gE G k), lI (if k = 7 then 1 else 0), none] [.ref q] σ3 by
    refine sX7_takeCommand_68 hΓ rfl ?_
    refine sX7_takeCommand_69 hΓ ?_
    refine sX7_takeCommand_70 hΓ h.o rfl ?_
    refine sX7_takeCommand_73 hΓ ?_
    refine sX7_takeCommand_74 hΓ ?_
    refine sX7_takeCommand_75 hΓ h.o (Nat.le_of_ble_eq_true rfl) (pq_cc h (cc + 1) rfl (fun σ1 h1 f1 => ?_))
    refine sX7_takeCommand_78 hΓ rfl ?_
    refine sX7_takeCommand_79 hΓ h1.o rfl ?_
    refine sX7_takeCommand_82 hΓ 0 0 (Nat.le_of_ble_eq_true rfl) (h1.t.choose_spec.1) (fun κ_82 hΓ_82 => sq_step hΓ_82 h1 h0 (fun σ2 h2 f2 => ?_))
    show AW G κ _ _ 85 _ _ _
    have h85 := h2
    have f85 := ((KF.rf.tr f1).tr f2)
    refine aw_less (cs2 := (cs + (Y.2.2 - (Z.2.2 + 1))) + 1) (ss2 := (ss + 6 * (Y.2.2 - (Z.2.2 + 1))) + 6) (by omega) (by omega) ?_
    obtain ⟨cs8, hcs8⟩ : ∃ k, k = cs + (Y.2.2 - (Z.2.2 + 1)) := ⟨_, rfl⟩
    obtain ⟨ss8, hss8⟩ : ∃ k, k = ss + 6 * (Y.2.2 - (Z.2.2 + 1)) := ⟨_, rfl⟩
    rw [← hcs8, ← hss8] at at93 ⊢
    refine sX7_takeCommand_85 hΓ (fun q hqn _ => ?_)
    refine sX7_takeCommand_88 hΓ ?_
    refine sX7_takeCommand_89 hΓ rfl ?_
    refine sX7_takeCommand_90 hΓ 0 0 (Nat.le_of_ble_eq_true rfl) (fun κ_90 hΓ_90 => sd_init hΓ_90 (k := gE G k) (hset_same _ _ _) (by decide) ?_)
    show AW G κ _ _ 93 _ _ _
    rw [hset_hset]
    have hne : q ≠ pr := fun e9 => by rw [e9, h85.o] at hqn; cases hqn
    exact at93 _ (colN c q q) q ⟨h85.new hqn, ⟨hset_same _ _ _, colN_s⟩, f85.tr (KF.new hqn), f85.nn hqn, hne⟩
  intro σ3 c3 q h3
  obtain ⟨cs8, hcs8⟩ : ∃ k, k = cs + (Y.2.2 - (Z.2.2 + 1)) := ⟨_, rfl⟩
  obtain ⟨ss8, hss8⟩ : ∃ k, k = ss + 6 * (Y.2.2 - (Z.2.2 + 1)) := ⟨_, rfl⟩
  rw [← hcs8, ← hss8]
  obtain ⟨l1, l2, l3, l4⟩ := aLo_lt hk8
  suffices at134 : ∀ σ4 : Hp, TC G σ c σ4 c3 pr tk inp b L (oC b L k (pRead b L (aLo k) (aHi k) (pGo b L Z.1))) (cc + 1) q (k, (nI (pVl b (aLo k) (aHi k) (pGo b L Z.1))), (nI (oCv b k (pRead b L (aLo k) (aHi k) (pGo b L Z.1)))), 0, none, none) → AW G κ cs8 ss8 134 [lR pr, lI x, lR (gE G k), lI (if k = 7 then 1 else 0), lR q] [] σ4 by
    refine sX7_takeCommand_93 hΓ ?_
    refine sX7_takeCommand_95 hΓ rfl ?_
    refine sX7_takeCommand_97 hΓ rfl ?_
    refine sX7_takeCommand_98 hΓ rfl ?_
    refine sX7_takeCommand_99 hΓ hk8 ?_
    refine sX7_takeCommand_102 hΓ rfl ?_
    refine sX7_takeCommand_103 hΓ hk8 ?_
    refine sX7_takeCommand_106 hΓ 0 0 (Nat.le_of_ble_eq_true rfl) h3.1.o (fun κ_106 hΓ_106 => sq_takeNumber hΓ_106 h3.1 (kd_lo hk8) (kd_hi hk8) l1 l2 (fun σ4 h4 f4 => ?_))
    show AW G κ _ _ 109 _ _ _
    have t4 := h3.mv h4 f4
    refine sX7_takeCommand_109 hΓ t4.o (Nat.le_of_ble_eq_true rfl) (tc_put t4 (k, (nI (pVl b (aLo k) (aHi k) (pGo b L Z.1))), 0, 0, none, none) rfl (fun σ5 t5 => ?_))
    refine sX7_takeCommand_112 hΓ rfl ?_
    refine sX7_takeCommand_113 hΓ hk8 ?_
    refine sX7_takeCommand_116 hΓ ?_
    rw [kd_s hk8]
    refine sX7_takeCommand_117 hΓ (fun c117 => ?_) (fun c117 => ?_)
    · have e3 : ¬ k < 3 := fun e9 => l4 e9 ((if_pos e9).symm.trans c117)
      refine at134 _ ?_
      unfold oC oCv
      rw [if_neg e3, if_neg e3]
      exact t5
    · have e3 : k < 3 := Classical.not_not.mp (fun e9 => c117 (if_neg e9))
      refine sX7_takeCommand_120 hΓ rfl ?_
      refine sX7_takeCommand_122 hΓ rfl ?_
      refine sX7_takeCommand_123 hΓ ?_
      refine sX7_takeCommand_124 hΓ rfl ?_
      refine sX7_takeCommand_125 hΓ hk8 ?_
      refine sX7_takeCommand_128 hΓ 0 0 (Nat.le_of_ble_eq_true rfl) t5.1.o (fun κ_128 hΓ_128 => sq_takeNumber hΓ_128 t5.1 (lo := 0) (hi := sHi k) rfl ((kd_s hk8).trans (if_pos e3)) (by decide) l3 (fun σ6 h6 f6 => ?_))
      show AW G κ _ _ 131 _ _ _
      have t6 := t5.mv h6 f6
      refine sX7_takeCommand_131 hΓ t6.o (Nat.le_of_ble_eq_true rfl) (tc_put t6 (k, (nI (pVl b (aLo k) (aHi k) (pGo b L Z.1))), (nI (pVl b 0 (sHi k) (pRead b L (aLo k) (aHi k) (pGo b L Z.1)))), 0, none, none) rfl (fun σ7 t7 => ?_))
      refine at134 _ ?_
      unfold oC oCv
      rw [if_pos e3, if_pos e3]
      exact t7
  intro σ4 h4
  suffices at156 : ∀ σ4 : Hp, TC G σ c σ4 c3 pr tk inp b L (oD b L k (oC b L k (pRead b L (aLo k) (aHi k) (pGo b L Z.1)))) (cc + 1) q (k, (nI (pVl b (aLo k) (aHi k) (pGo b L Z.1))), (nI (oCv b k (pRead b L (aLo k) (aHi k) (pGo b L Z.1)))), (nI (oDv b k (oC b L k (pRead b L (aLo k) (aHi k) (pGo b L Z.1))))), none, none) → AW G κ cs8 ss8 156 [lR pr, lI x, lR (gE G k), lI (if k = 7 then 1 else 0), lR q] [] σ4 by
    refine sX7_takeCommand_134 hΓ rfl ?_
    refine sX7_takeCommand_135 hΓ hk8 ?_
    refine sX7_takeCommand_138 hΓ ?_
    rw [kd_t hk8]
    refine sX7_takeCommand_139 hΓ (fun c139 => ?_) (fun c139 => ?_)
    · have e3 : ¬ k = 0 := fun e9 => absurd ((if_pos e9).symm.trans c139) (by decide)
      refine at156 _ ?_
      unfold oD oDv
      rw [if_neg e3, if_neg e3]
      exact h4
    · have e3 : k = 0 := Classical.not_not.mp (fun e9 => c139 (if_neg e9))
      refine sX7_takeCommand_142 hΓ rfl ?_
      refine sX7_takeCommand_144 hΓ rfl ?_
      refine sX7_takeCommand_145 hΓ ?_
      refine sX7_takeCommand_146 hΓ rfl ?_
      refine sX7_takeCommand_147 hΓ hk8 ?_
      refine sX7_takeCommand_150 hΓ 0 0 (Nat.le_of_ble_eq_true rfl) h4.1.o (fun κ_150 hΓ_150 => sq_takeNumber hΓ_150 h4.1 (lo := 0) (hi := 255) rfl ((kd_t hk8).trans (if_pos e3)) (by decide) (by decide) (fun σ6 h6 f6 => ?_))
      show AW G κ _ _ 153 _ _ _
      have t6 := h4.mv h6 f6
      refine sX7_takeCommand_153 hΓ t6.o (Nat.le_of_ble_eq_true rfl) (tc_put t6 (k, (nI (pVl b (aLo k) (aHi k) (pGo b L Z.1))), (nI (oCv b k (pRead b L (aLo k) (aHi k) (pGo b L Z.1)))), (nI (pVl b 0 255 (oC b L k (pRead b L (aLo k) (aHi k) (pGo b L Z.1))))), none, none) rfl (fun σ7 t7 => ?_))
      refine at156 _ ?_
      unfold oD oDv
      rw [if_pos e3, if_pos e3]
      exact t7
  intro σ5 h5
  obtain ⟨V, hV⟩ : ∃ V, V = (k, (nI (pVl b (aLo k) (aHi k) (pGo b L Z.1))), (nI (oCv b k (pRead b L (aLo k) (aHi k) (pGo b L Z.1)))), (nI (oDv b k (oC b L k (pRead b L (aLo k) (aHi k) (pGo b L Z.1))))), none, none) := ⟨_, rfl⟩
  have hV1 : V.1 = k := by rw [hV]
  have hVn : dNx V = none := by rw [hV]; rfl
  rw [← hV] at h5
  have hnq : ∀ i, i < Z.2.2 → nd i ≠ q := fun i hi e9 => by
    have := (hCM i hi).1
    rw [e9, h5.2.2.2.1] at this
    cases this
  have hnpr := hCM.ne h.o (by decide)
  have hcc1 : cc + 1 = nI (Z.2.2 + 1) := lp_1 hcc
  suffices at182 : ∀ (σ7 : Hp) (c7 : Nat → Nat) (P7 : Pt) (cc7 : Int32) (V7 : Dt) (cs ss : Nat), TC G σ c σ7 c7 pr tk inp b L P7 cc7 q V7 → (∀ σ8 : Hp, TC G σ c σ8 c7 pr tk inp b L (pExp b L 59 P7) cc7 q V7 → KF (fun x => x = pr) σ7 c7 σ8 c7 → CmdR G σ c σ8 c7 pr tk inp b L nd D Z Y cc7 (some q)) → AW G κ cs ss 182 [lR pr, lI x, lR (gE G k), lI (if k = 7 then 1 else 0), lR q] [] σ7 by
    refine sX7_takeCommand_156 hΓ rfl ?_
    refine sX7_takeCommand_157 hΓ (fun c157 => ?_) (fun c157 => ?_)
    · have e7 : ¬ k = 7 := fun e9 => absurd ((if_pos e9).symm.trans c157) (by decide)
      have eY := hYp e7
      refine at182 _ _ _ _ _ _ _ h5 (fun σ8 h8 f8 => ?_)
      have e0 : aLo k = fLo k := if_neg e7
      have e1 : aHi k = fHi k := if_neg e7
      have eY1 : Y.1 = pExp b L 59 (oD b L k (oC b L k (pRead b L (aLo k) (aHi k) (pGo b L Z.1)))) := by rw [eY, e0, e1]; rfl
      refine ⟨by rw [eY1]; exact h8.1, h8.2.2.1, fun q9 e9 => ?_, fun _ => ⟨by rw [eY]; exact hcc1, nU nd Z.2.2 q, nU D Z.2.2 V, 1, fun i hi => ⟨nU_n (by omega), nU_n (by omega)⟩, ?_, fun i h1 h2 => ?_, by rw [nU_s], ?_, by rw [nU_s]; exact hVn⟩⟩
      · obtain rfl := Option.some.inj e9
        exact ⟨h8.2.2.2.1, _, h8.o, rfl⟩
      · rw [eY]
        exact (hCM.keep h8.2.2.1 hnpr).add h8.o h8.2.1.2 hnq
      · rw [eY] at h2
        have : i = Z.2.2 := by have h2 : i < Z.2.2 + 1 := h2; omega
        rw [this, nU_s]
        exact h8.2.2.2.1
      · have eO : Y.2.2 = Z.2.2 + 1 := by rw [eY]; rfl
        rw [eO]
        refine ⟨Nat.lt_succ_self _, by rw [nU_s], Z.2.2 + 1, Nat.lt_succ_self _, Nat.le_refl _, ⟨?_, Or.inl ⟨by rw [nU_s, hV1]; exact e7, rfl⟩⟩, Or.inl ⟨rfl, rfl⟩⟩
        rw [nU_s, hV, eY, e0, e1]
        refine ⟨hk8, ?_, ?_, fun _ => ⟨?_, ?_⟩⟩
        · show upd (upd (upd (upd _ _ _) _ _) _ _) _ _ _ = _
          rw [upd_ne (by omega), upd_ne (by omega), upd_ne (by omega), upd_same]
        · show upd (upd (upd (upd _ _ _) _ _) _ _) _ _ _ = _
          rw [upd_ne (by omega), upd_ne (by omega), upd_same]
        · show upd (upd (upd (upd _ _ _) _ _) _ _) _ _ _ = _
          rw [upd_ne (by omega), upd_same]
          rfl
        · show upd (upd (upd (upd _ _ _) _ _) _ _) _ _ _ = _
          rw [upd_same]
          rfl
    · have e7 : k = 7 := Classical.not_not.mp (fun e9 => c157 (if_neg e9))
      have hdt := hd7 e7
      obtain ⟨hcms, hrp, hfn, hst, hsg⟩ := hrec hdt
      have eY := hY7 e7
      have hocY := (hoc7 e7).1
      have eP : (oD b L k (oC b L k (pRead b L (aLo k) (aHi k) (pGo b L Z.1)))) = pRead b L 2 5 (pGo b L Z.1) := by rw [e7]; rfl
      rw [eP] at h5
      refine sX7_takeCommand_160 hΓ rfl ?_
      refine sX7_takeCommand_161 hΓ ?_
      refine sX7_takeCommand_162 hΓ 0 0 (Nat.le_of_ble_eq_true rfl) h5.1.o (fun κ_162 hΓ_162 => sq_take hΓ_162 h5.1 (k := 4) rfl (by decide) (by decide) (fun σ6 h6 f6 => ?_))
      show AW G κ _ _ 165 _ _ _
      have t6 := h5.mv h6 f6
      refine sX7_takeCommand_165 hΓ rfl ?_
      refine sX7_takeCommand_167 hΓ rfl ?_
      refine sX7_takeCommand_168 hΓ rfl ?_
      refine sX7_takeCommand_169 hΓ ?_
      refine sX7_takeCommand_170 hΓ ?_
      obtain ⟨Z0, hZ0⟩ : ∃ Z0, Z0 = oRep0 b L (pGo b L Z.1, Z.2) := ⟨_, rfl⟩
      have hZ1 : Z0.1 = pExp b L 40 (pRead b L 2 5 (pGo b L Z.1)) := by rw [hZ0]; rfl
      have hZ2 : Z0.2.2 = Z.2.2 + 1 := by rw [hZ0]; rfl
      have hZO : Z0.2.1 = oSet (oSet Z.2.1 Z.2.2 0 (nI 7)) Z.2.2 1 (nI (pVl b 2 5 (pGo b L Z.1))) := by rw [hZ0]; rfl
      rw [← hZ0] at hI0 hocY eY
      have hCM6 : CM G σ6 c3 (nU nd Z.2.2 q) (nU D Z.2.2 V) Z0.2.2 := by
        rw [hZ2]
        exact (hCM.keep t6.2.2.1 hnpr).add t6.o t6.2.1.2 hnq
      have hkeepO : ∀ j, j < 4 * Z0.2.2 → (cLoop f 21 Z0).2.1 j = Z0.2.1 j := cLoop_O hst hsg 21 Z0 hI0
      refine aw_less (cs2 := cs + (0 + ((cLoop f 21 Z0).2.2 - Z0.2.2))) (ss2 := ss + (0 + 6 * ((cLoop f 21 Z0).2.2 - Z0.2.2))) (by rw [hcs8, hocY, hZ2]; omega) (by rw [hss8, hocY, hZ2]; omega) ?_
      refine sX7_takeCommand_171 hΓ (cs := cs) (ss := ss) (0 + ((cLoop f 21 Z0).2.2 - Z0.2.2)) (0 + 6 * ((cLoop f 21 Z0).2.2 - Z0.2.2)) (Nat.le_of_ble_eq_true rfl) t6.1.o (fun κ_171 hΓ_171 => hcms κ_171 _ _ _ 0 0 σ6 c3 (nU nd Z.2.2 q) (nU D Z.2.2 V) Z0 (cc + 1) (by omega) hΓ_171 (by rw [hZ1]; exact h6) (fun _ => ⟨by rw [hZ2]; exact hcc1, hCM6⟩) hI0 (fun σ7 c7 cc7 r h7 => ?_))
      show AW G κ _ _ 174 _ _ _
      obtain ⟨h7P, h7F, h7R⟩ := h7
      have t7 := t6.mv h7P h7F
      obtain ⟨V7, hV7⟩ : ∃ V7 : Dt, V7 = (V.1, V.2.1, V.2.2.1, V.2.2.2.1, r, none) := ⟨_, rfl⟩
      have hV8 : dNx V7 = none := by rw [hV7]; rfl
      have t8 := t7.pt V7
      refine sX7_takeCommand_174q hΓ t7.o (Nat.le_of_ble_eq_true rfl) ?_
      have eVV : (cmV G V).set 4 (va_rf r) = cmV G V7 := by rw [hV7, hV]; rfl
      rw [eVV]
      refine sX7_takeCommand_177 hΓ rfl ?_
      refine sX7_takeCommand_178 hΓ ?_
      refine sX7_takeCommand_179 hΓ 0 0 (Nat.le_of_ble_eq_true rfl) t8.1.o (fun κ_179 hΓ_179 => sq_take hΓ_179 t8.1 (k := 5) rfl (by decide) (by decide) (fun σ9 h9 f9 => ?_))
      show AW G κ _ _ 182 _ _ _
      have t9 := t8.mv h9 f9
      refine at182 _ _ _ _ _ _ _ t9 (fun σ8 u8 f8 => ?_)
      obtain ⟨w1, w2, w3⟩ := oLoop_c (b := b) (L := L) hfn 21 Z0
      have eY1 : Y.1 = pExp b L 59 (pExp b L 41 (cLoop f 21 Z0).1) := by
        rw [eY, hrp]
        show pExp b L 59 (pExp b L 41 (oLoop f b 21 Z0).1) = _
        rw [w2]
      refine ⟨by rw [eY1]; exact u8.1, u8.2.2.1, fun q9 e9 => ?_, fun eR => ?_⟩
      · obtain rfl := Option.some.inj e9
        exact ⟨u8.2.2.2.1, _, u8.o, rfl⟩
      · rw [eY1] at eR
        have eR1 := (pExp_z eR).2
        have eW := w3 eR1
        obtain ⟨a1, nd2, D2, m2, a2, a3, a4, a5⟩ := h7R (pExp_z eR1).2
        rw [hZ2] at a2 a4 a5
        have eY2 : Y.2.1 = oSet (cLoop f 21 Z0).2.1 Z.2.2 2 (nI Y.2.2) := by
          rw [hocY, eY, hrp, eW]
          rfl
        have hn2 : nd2 Z.2.2 = q := ((a2 _ (Nat.lt_succ_self _)).1).trans nU_s
        refine ⟨by rw [hocY]; exact a1, nd2, nU D2 Z.2.2 V7, m2 + 1, fun i hi => ⟨((a2 i (by omega)).1).trans (nU_n (by omega)), (nU_n (by omega)).trans (((a2 i (by omega)).2).trans (nU_n (by omega)))⟩, ?_, fun i h1 h2 => ?_, by rw [hn2], ?_, by rw [nU_s]; exact hV8⟩
        · have a6 := a3.put (li := Z.2.2) (by omega) (nU D2 Z.2.2 V7) (fun i _ hi => nU_n hi)
          rw [hn2, nU_s] at a6
          rw [hocY]
          exact a6.keep (f9.tr f8) (a6.ne t8.1.o (by decide))
        · by_cases ei : i = Z.2.2
          · rw [ei, hn2]; exact u8.2.2.2.1
          · exact t6.2.2.1.nn (a4 i (by omega) (by rw [← hocY]; exact h2))
        · refine ⟨by omega, by rw [hn2], Y.2.2, by omega, Nat.le_refl _, ⟨?_, Or.inr ⟨by rw [nU_s, hV7]; exact hV1.trans e7, ?_, ?_⟩⟩, Or.inl ⟨rfl, rfl⟩⟩
          · rw [nU_s, hV7, hV, eY2]
            refine ⟨hk8, ?_, ?_, fun e9 => absurd e7 (by have e9 : k < 7 := e9; omega)⟩
            · show oSet _ _ _ _ _ = _
              unfold oSet
              rw [upd_ne (by omega), hkeepO _ (by omega), hZO]
              unfold oSet
              rw [upd_ne (by omega), upd_same, e7]
            · show oSet _ _ _ _ _ = _
              unfold oSet
              rw [upd_ne (by omega), hkeepO _ (by omega), hZO]
              unfold oSet
              rw [upd_same, e7]
              rfl
          · rw [eY2]
            unfold oSet
            exact upd_same _ _ _
          · rw [nU_s, hV7, hocY]
            refine cH_cg m2 m2 _ _ _ (Nat.le_refl m2) (fun j j1 j2 => ⟨rfl, nU_n (by omega), fun w hw => ?_⟩) a5
            rw [eY2]
            unfold oSet
            exact upd_ne (by omega)
  intro σ7 c7 P7 cc7 V7 cs ss h7 hr7
  refine sX7_takeCommand_182 hΓ rfl ?_
  refine sX7_takeCommand_183 hΓ ?_
  refine sX7_takeCommand_184 hΓ 0 0 (Nat.le_of_ble_eq_true rfl) h7.1.o (fun κ_184 hΓ_184 => sq_take hΓ_184 h7.1 (k := 3) rfl (by decide) (by decide) (fun σ8 h8 f8 => ?_))
  show AW G κ _ _ 187 _ _ _
  refine sX7_takeCommand_187 hΓ rfl ?_
  exact sX7_takeCommand_189 hΓ (hq _ c7 cc7 (some q) (hr7 _ (h7.mv h8 f8) f8))
end ClassScript
