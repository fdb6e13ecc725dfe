/-! the class: its history, its input -/
/-- the history at y: which railway lies at each place, how many count -/
def HG (G : Gl) (σ : Hp) (c : Nat → Nat) (y : Nat) (ra : Nat → Nat) (u : Int32) : Prop := ∃ v : Nat, σ y = some (.inr (2, [.ref v, .int u])) ∧ σ v = some (eR G 1 8 (fun j => some (ra j))) ∧ c y = y ∧ c v = y
def rotI (ra : Nat → Nat) : Nat → Nat := fun j => if j = 0 then ra 7 else ra (j - 1)
def rotO (ra : Nat → Nat) : Nat → Nat := fun j => if j = 7 then ra 0 else ra (j + 1)
/-- the input at y -/
def IG (G : Gl) (σ : Hp) (c : Nat → Nat) (y : Nat) (l : Int32) (b : Nat → Int32) : Prop := ∃ v : Nat, σ y = some (.inr (3, [.ref v, .int l])) ∧ σ v = some (eI G 500 b) ∧ c y = y ∧ c v = y
def bPart (b : Nat → Int32) (k : Nat) (x : Int32) (i : Nat) : Nat → Int32 := fun j => if k ≤ j ∧ j < k + i then x >>> (nI (24 - 8 * (j - k)) &&& 31) &&& 255 else b j
theorem bPart_0 (b : Nat → Int32) (k : Nat) (x : Int32) : bPart b k x 0 = b := by
  funext j
  exact if_neg (by omega)
theorem bPart_s {b : Nat → Int32} {k i : Nat} {x : Int32} : upd (bPart b k x i) (k + i) (x >>> (nI (24 - 8 * i) &&& 31) &&& 255) = bPart b k x (i + 1) := by
  funext j
  by_cases e : j = k + i
  · rw [e, upd_same]
    unfold bPart
    rw [if_pos (by omega), show k + i - k = i by omega]
  · rw [upd_ne e]
    unfold bPart
    by_cases c : k ≤ j ∧ j < k + i
    · rw [if_pos c, if_pos (by omega)]
    · rw [if_neg c, if_neg (by omega)]
theorem sh_31 : ∀ q : Fin 4, nI (24 - 8 * q.1) &&& 31 = nI (24 - 8 * q.1) := by decide
theorem wB_eq {x y v u w : Int32} {k : Nat} (h : k < 20) {b : Nat → Int32} {l j : Nat} (hj : j = l + k) : bPart (bPart (bPart (bPart (bPart b l x 4) (l + 4) y 4) (l + 8) v 4) (l + 12) u 4) (l + 16) w 4 j = wByte x y v u w k := by
  subst hj
  have e := sh_31 ⟨k % 4, by omega⟩
  unfold bPart wByte
  by_cases c0 : k < 4
  · rw [if_neg (by omega), if_neg (by omega), if_neg (by omega), if_neg (by omega), if_pos (by omega), if_pos c0, show l + k - l = k % 4 by omega, e]
  · by_cases c1 : k < 8
    · rw [if_neg (by omega), if_neg (by omega), if_neg (by omega), if_pos (by omega), if_neg c0, if_pos c1, show l + k - (l + 4) = k % 4 by omega, e]
    · by_cases c2 : k < 12
      · rw [if_neg (by omega), if_neg (by omega), if_pos (by omega), if_neg c0, if_neg c1, if_pos c2, show l + k - (l + 8) = k % 4 by omega, e]
      · by_cases c3 : k < 16
        · rw [if_neg (by omega), if_pos (by omega), if_neg c0, if_neg c1, if_neg c2, if_pos c3, show l + k - (l + 12) = k % 4 by omega, e]
        · rw [if_pos (by omega), if_neg c0, if_neg c1, if_neg c2, if_neg c3, show l + k - (l + 16) = k % 4 by omega, e]
theorem bApp_eq {x y v u w : Int32} {b : Nat → Int32} {l : Nat} : bPart (bPart (bPart (bPart (bPart b l x 4) (l + 4) y 4) (l + 8) v 4) (l + 12) u 4) (l + 16) w 4 = bApp b l x y v u w 20 := by
  funext j
  unfold bApp
  by_cases c : l ≤ j ∧ j < l + 20
  · rw [if_pos c]
    exact wB_eq (by omega) (by omega)
  · rw [if_neg c]
    unfold bPart
    rw [if_neg (by omega), if_neg (by omega), if_neg (by omega), if_neg (by omega), if_neg (by omega)]
section ClassHist
variable {G : Gl} {κ : Kx} {d : Nat} {Q : Option Value → Hp → Prop} {X : String → Hp → Prop} {cs ss pc : Nat} {L : List (Option LV)} {st : List Value} {σ σ1 : Hp} {c c1 : Nat → Nat} {W : Nat → Prop} {y : Nat} {ra : Nat → Nat} {b : Nat → Int32}
theorem HG.keep {u : Int32} (h : HG G σ c y ra u) (f : KF W σ c σ1 c1) (hw : ¬ W y) : HG G σ1 c1 y ra u := by
  obtain ⟨v, h1, h2, h3, h4⟩ := h
  obtain ⟨a1, a2, -⟩ := f y _ h1
  obtain ⟨b1, b2, -⟩ := f v _ h2
  exact ⟨v, a2 (by rw [h3]; exact hw), b2 (by rw [h4]; exact hw), a1.trans h3, b1.trans h4⟩
theorem IG.keep {l : Int32} (h : IG G σ c y l b) (f : KF W σ c σ1 c1) (hw : ¬ W y) : IG G σ1 c1 y l b := by
  obtain ⟨v, h1, h2, h3, h4⟩ := h
  obtain ⟨a1, a2, -⟩ := f y _ h1
  obtain ⟨b1, b2, -⟩ := f v _ h2
  exact ⟨v, a2 (by rw [h3]; exact hw), b2 (by rw [h4]; exact hw), a1.trans h3, b1.trans h4⟩
theorem RY.o {n a : Nat} {C : Ct} (h : RY G σ c a n C) : ∃ t q : Nat, σ a = some (.inr (6, sV C.1 t q)) := by
  obtain ⟨t, q, p, tr, h, -⟩ := h
  exact ⟨t, q, h.1⟩
theorem HG.ne {u : Int32} {n a : Nat} {C : Ct} (h : HG G σ c y ra u) (h2 : RY G σ c a n C) : a ≠ y := by
  obtain ⟨v, h1, -⟩ := h
  obtain ⟨t, q, h2⟩ := h2.o
  exact obj_ne h2 h1 (by decide)
theorem sh_remember (hΓ : Ok G κ mX3_remember (d + 4) Q X) {u a n n7 : Nat} {C C7 : Ct} (hH : HG G σ c y ra (nI u)) (hu : u ≤ 8) (hall : ∀ j, j < 8 → ∃ vs, σ (ra j) = some (.inr (6, vs))) (h7 : RY G σ c (ra 7) n7 C7) (hA : RY G σ c a n C) (hne : a ≠ ra 7) (hq : ∀ (σ1 : Hp) (c1 : Nat → Nat), HG G σ1 c1 y (rotI ra) (nI (hCnt u)) → RY G σ1 c1 (ra 7) n (cCpy C7 C) → KF (fun x => x = y ∨ x = ra 7) σ c σ1 c1 → Q none σ1) : AW G κ (cs + 7) (ss + 96) 0 [lR y, lR a, none, none] [] σ := by
  have hay := hH.ne hA
  have h7y := hH.ne h7
  have hH0 := hH
  obtain ⟨v, h1, h2, hcy, hcv⟩ := hH
  have hvy : v ≠ y := Ne.symm (oa_ne h1 h2)
  have hrv : ∀ j, j < 8 → ra j ≠ v := fun j hj => by
    obtain ⟨vs, e⟩ := hall j hj
    exact oa_ne e h2
  suffices loop : ∀ (i : Nat) (x : Int32) (σ2 : Hp) (g : Nat → Option Nat), i ≤ 7 → x = nI i → (∀ z, z ≠ v → σ2 z = σ z) → σ2 v = some (eR G 1 8 g) → (∀ j, j < 8 → g j = some (if i < j then ra (j - 1) else ra j)) → AW G κ (cs + 7) (ss + 96) 11 [lR y, lR a, lR (ra 7), lI x] [] σ2 by
    refine sX3_remember_0 hΓ rfl ?_
    refine sX3_remember_1 hΓ h1 rfl ?_
    refine sX3_remember_4 hΓ ?_
    refine sX3_remember_6 hΓ (Or.inl rfl) h2 (j := 7) rfl (by decide) (by decide) ?_
    refine sX3_remember_7 hΓ ?_
    refine sX3_remember_8 hΓ ?_
    refine sX3_remember_10 hΓ ?_
    exact loop 7 _ σ _ (Nat.le_refl 7) rfl (fun _ _ => rfl) h2 (fun j hj => by rw [if_neg (by omega)])
  intro i
  induction i with
  | zero =>
    intro x σ2 g hi hx e2 ev hg
    have g1 : σ2 y = some (.inr (2, [.ref v, .int (nI u)])) := (e2 y (Ne.symm hvy)).trans h1
    obtain ⟨vs7, o7⟩ := hall 7 (by decide)
    have g7 : σ2 (ra 7) = some (.inr (6, vs7)) := (e2 _ (hrv 7 (by decide))).trans o7
    refine sX3_remember_11 hΓ rfl ?_
    refine sX3_remember_12 hΓ (fun c12 => ?_) (fun c12 => absurd (by rw [hx]; decide) c12)
    refine sX3_remember_35 hΓ rfl ?_
    refine sX3_remember_36 hΓ g1 rfl ?_
    refine sX3_remember_39 hΓ ?_
    refine sX3_remember_40 hΓ rfl ?_
    refine sX3_remember_41_1 hΓ ev g7 (j := 0) rfl (by decide) (by decide) ?_
    refine aw_eR (fun j => some (rotI ra j)) (hset_same _ _ _) (fun j hj => ?_) ?_
    · unfold va_up rotI
      by_cases e : j = 0
      · rw [if_pos e, if_pos e]
      · rw [if_neg e, if_neg e, hg j hj, if_pos (by omega)]
    rw [hset_hset]
    have f3 : KF (fun x => x = y) σ c (hset σ2 v (eR G 1 8 (fun j => some (rotI ra j)))) c := fun z e hz => by
      by_cases i : z = v
      · rw [i]; exact ⟨rfl, fun n => absurd hcv n, _, hset_same _ _ _⟩
      · rw [hset_ne i, e2 z i]; exact ⟨rfl, fun _ => hz, e, hz⟩
    have r7 := h7.keep f3 h7y
    have rA := hA.keep f3 hay
    have H3 : HG G (hset σ2 v (eR G 1 8 (fun j => some (rotI ra j)))) c y (rotI ra) (nI u) := ⟨v, by rw [hset_ne (Ne.symm hvy)]; exact g1, hset_same _ _ _, hcy, hcv⟩
    obtain ⟨t7, q7, o7⟩ := r7.o
    refine sX3_remember_42 hΓ rfl ?_
    refine sX3_remember_43 hΓ rfl ?_
    refine sX3_remember_44 hΓ 7 96 (Nat.le_of_ble_eq_true rfl) o7 (fun κ_44 hΓ_44 => sy_copyFrom (cs := 0) (ss := 0) hΓ_44 r7 rA hne (fun σ4 c4 r4 f4 => ?_))
    show AW G κ _ _ 47 _ _ _
    obtain ⟨v4, k1, k2, k3, k4⟩ := H3.keep f4 (Ne.symm h7y)
    have hcn : (if (8 : Int32) < nI u + 1 then (8 : Int32) else nI u + 1) = nI (hCnt u) := by
      unfold hCnt
      rw [nI_1]
      by_cases e : u = 8
      · rw [if_pos e, e]; decide
      · rw [if_neg e]
        exact if_neg (fun h9 => by have := nI_ltz (i := 8) (n := u + 1) rfl rfl (by omega) (by omega) h9; omega)
    refine sX3_remember_47 hΓ rfl ?_
    refine sX3_remember_48 hΓ rfl ?_
    refine sX3_remember_49 hΓ k1 rfl ?_
    refine sX3_remember_52 hΓ ?_
    refine sX3_remember_53 hΓ ?_
    refine sX3_remember_54 hΓ ?_
    refine sX3_remember_56 hΓ (Nat.le_of_ble_eq_true rfl) ?_
    refine sX3_remember_59 hΓ k1 (Nat.le_of_ble_eq_true rfl) ?_
    rw [hcn]
    have f5 : KF (fun x => x = y) σ4 c4 (hset σ4 y (.inr (2, [.ref v4, .int (nI (hCnt u))]))) c4 := KF.set k1 k3
    have hv4 : v4 ≠ y := Ne.symm (oa_ne k1 k2)
    exact sX3_remember_62 hΓ (hq _ c4 ⟨v4, hset_same _ _ _, by rw [hset_ne hv4]; exact k2, k3, k4⟩ (r4.keep f5 h7y) ((f3.eq (V := fun x => x = y ∨ x = ra 7) (Or.inl rfl)).tr ((f4.eq (Or.inr rfl)).tr (f5.eq (Or.inl rfl)))))
  | succ i ih =>
    intro x σ2 g hi hx e2 ev hg
    have g1 : σ2 y = some (.inr (2, [.ref v, .int (nI u)])) := (e2 y (Ne.symm hvy)).trans h1
    obtain ⟨vsi, oi⟩ := hall i (by omega)
    have gi : σ2 (ra i) = some (.inr (6, vsi)) := (e2 _ (hrv i (by omega))).trans oi
    have hx1 : x - 1 = nI i := by rw [hx]; exact pk_sub (b := 1) (by omega)
    have hx2 : x + -1 = nI i := by rw [hx, ← nI_1, Int32.add_assoc, show (1 : Int32) + -1 = 0 from rfl, Int32.add_zero]
    refine sX3_remember_11 hΓ rfl ?_
    refine sX3_remember_12 hΓ (fun c12 => absurd c12 (lp_in (i := 0) (n := i + 1) rfl hx (by omega) (by omega))) (fun c12 => ?_)
    refine sX3_remember_15 hΓ rfl ?_
    refine sX3_remember_16 hΓ g1 rfl ?_
    refine sX3_remember_19 hΓ rfl ?_
    refine sX3_remember_20 hΓ rfl ?_
    refine sX3_remember_21 hΓ g1 rfl ?_
    refine sX3_remember_24 hΓ rfl ?_
    refine sX3_remember_25 hΓ ?_
    refine sX3_remember_26 hΓ ?_
    refine sX3_remember_27 hΓ (Or.inl rfl) ev hx1 (by omega) (by decide) ?_
    rw [hg i (by omega), if_neg (by omega)]
    refine sX3_remember_28_1 hΓ ev gi hx (by omega) (by decide) ?_
    refine sX3_remember_29 hΓ rfl ?_
    refine sX3_remember_32 hΓ ?_
    refine ih _ _ _ (by omega) hx2 (fun z hz => by rw [hset_ne hz]; exact e2 z hz) (hset_same _ _ _) (fun j hj => ?_)
    unfold va_up
    by_cases e : j = i + 1
    · rw [if_pos e, if_pos (by omega), e]; rfl
    · rw [if_neg e, hg j hj]
      by_cases e2 : i + 1 < j
      · rw [if_pos e2, if_pos (by omega)]
      · rw [if_neg e2, if_neg (by omega)]
theorem sh_takeBack (hΓ : Ok G κ mX3_takeBack (d + 4) Q X) {u a n n0 : Nat} {C C0 : Ct} (hH : HG G σ c y ra (nI (u + 1))) (hu : u < 8) (hall : ∀ j, j < 8 → ∃ (n : Nat) (C : Ct), RY G σ c (ra j) n C) (h0 : RY G σ c (ra 0) n0 C0) (hA : RY G σ c a n C) (hne : ra 0 ≠ a) (hq : ∀ (σ1 : Hp) (c1 : Nat → Nat), HG G σ1 c1 y (rotO ra) (nI u) → RY G σ1 c1 a n0 (cCpy C C0) → KF (fun x => x = y ∨ x = a) σ c σ1 c1 → Q none σ1) : AW G κ (cs + 7) (ss + 96) 0 [lR y, lR a, none, none] [] σ := by
  have hay := hH.ne hA
  have h0y := hH.ne h0
  obtain ⟨v, h1, h2, hcy, hcv⟩ := hH
  have hu1 : ¬ nI (u + 1) = 0 := nI_ne0 (by omega) (by omega)
  refine sX3_takeBack_0 hΓ rfl ?_
  refine sX3_takeBack_1 hΓ h1 rfl ?_
  refine sX3_takeBack_4 hΓ (fun c4 => ?_) (fun c4 => absurd c4 hu1)
  refine sX3_takeBack_8 hΓ rfl ?_
  refine sX3_takeBack_9 hΓ h1 rfl ?_
  refine sX3_takeBack_12 hΓ ?_
  refine sX3_takeBack_13 hΓ (Or.inl rfl) h2 (j := 0) rfl (by decide) (by decide) ?_
  refine sX3_takeBack_14 hΓ ?_
  obtain ⟨tA, qA, oA⟩ := hA.o
  refine sX3_takeBack_15 hΓ rfl ?_
  refine sX3_takeBack_16 hΓ rfl ?_
  refine sX3_takeBack_17 hΓ 7 96 (Nat.le_of_ble_eq_true rfl) oA (fun κ_17 hΓ_17 => sy_copyFrom (cs := 0) (ss := 0) hΓ_17 hA h0 hne (fun σ4 c4 r4 f4 => ?_))
  show AW G κ _ _ 20 _ _ _
  have H4 : HG G σ4 c4 y ra (nI (u + 1)) := HG.keep ⟨v, h1, h2, hcy, hcv⟩ f4 (Ne.symm hay)
  have hall4 : ∀ j, j < 8 → ∃ vs, σ4 (ra j) = some (.inr (6, vs)) := fun j hj => by
    obtain ⟨nj, Cj, hj⟩ := hall j hj
    by_cases e : ra j = a
    · rw [e]
      obtain ⟨t, q, o⟩ := r4.o
      exact ⟨_, o⟩
    · obtain ⟨t, q, o⟩ := (hj.keep f4 e).o
      exact ⟨_, o⟩
  clear h1 h2 hcy hcv
  obtain ⟨v, h1, h2, hcy, hcv⟩ := H4
  have hvy : v ≠ y := Ne.symm (oa_ne h1 h2)
  have hrv : ∀ j, j < 8 → ra j ≠ v := fun j hj => by
    obtain ⟨vs, e⟩ := hall4 j hj
    exact oa_ne e h2
  suffices loop : ∀ (m i : Nat) (x : Int32) (σ2 : Hp) (g : Nat → Option Nat), i + 1 + m = 8 → x = nI (i + 1) → (∀ z, z ≠ v → σ2 z = σ4 z) → σ2 v = some (eR G 1 8 g) → (∀ j, j < 8 → g j = some (if j < i then ra (j + 1) else ra j)) → AW G κ cs ss 22 [lR y, lR a, lR (ra 0), lI x] [] σ2 by
    refine sX3_takeBack_20 hΓ ?_
    refine sX3_takeBack_21 hΓ ?_
    exact loop 7 0 _ σ4 _ (by decide) rfl (fun _ _ => rfl) h2 (fun j hj => by rw [if_neg (by omega)])
  intro m
  induction m with
  | zero =>
    intro i x σ2 g hi hx e2 ev hg
    have ei : i = 7 := by omega
    subst ei
    have g1 : σ2 y = some (.inr (2, [.ref v, .int (nI (u + 1))])) := (e2 y (Ne.symm hvy)).trans h1
    obtain ⟨vs0, o0⟩ := hall4 0 (by decide)
    have g0 : σ2 (ra 0) = some (.inr (6, vs0)) := (e2 _ (hrv 0 (by decide))).trans o0
    refine sX3_takeBack_22 hΓ rfl ?_
    refine sX3_takeBack_23 hΓ ?_
    refine sX3_takeBack_25 hΓ (fun c25 => ?_) (fun c25 => absurd (by rw [hx]; decide) c25)
    refine sX3_takeBack_48 hΓ rfl ?_
    refine sX3_takeBack_49 hΓ g1 rfl ?_
    refine sX3_takeBack_52 hΓ ?_
    refine sX3_takeBack_54 hΓ rfl ?_
    refine sX3_takeBack_55_1 hΓ ev g0 (j := 7) rfl (by decide) (by decide) ?_
    refine aw_eR (fun j => some (rotO ra j)) (hset_same _ _ _) (fun j hj => ?_) ?_
    · unfold va_up rotO
      by_cases e : j = 7
      · rw [if_pos e, if_pos e]
      · rw [if_neg e, if_neg e, hg j hj, if_pos (by omega)]
    rw [hset_hset]
    have f3 : KF (fun x => x = y) σ4 c4 (hset σ2 v (eR G 1 8 (fun j => some (rotO ra j)))) c4 := fun z e hz => by
      by_cases i : z = v
      · rw [i]; exact ⟨rfl, fun n => absurd hcv n, _, hset_same _ _ _⟩
      · rw [hset_ne i, e2 z i]; exact ⟨rfl, fun _ => hz, e, hz⟩
    have k1 : hset σ2 v (eR G 1 8 (fun j => some (rotO ra j))) y = some (.inr (2, [.ref v, .int (nI (u + 1))])) := by rw [hset_ne (Ne.symm hvy)]; exact g1
    have hcn : nI (u + 1) - 1 = nI u := pk_sub (b := 1) (by omega)
    refine sX3_takeBack_56 hΓ rfl ?_
    refine sX3_takeBack_57 hΓ ?_
    refine sX3_takeBack_58 hΓ k1 rfl ?_
    refine sX3_takeBack_61 hΓ ?_
    refine sX3_takeBack_62 hΓ ?_
    refine sX3_takeBack_63 hΓ k1 (Nat.le_of_ble_eq_true rfl) ?_
    rw [hcn]
    have f5 : KF (fun x => x = y) (hset σ2 v (eR G 1 8 (fun j => some (rotO ra j)))) c4 (hset (hset σ2 v (eR G 1 8 (fun j => some (rotO ra j)))) y (.inr (2, [.ref v, .int (nI u)]))) c4 := KF.set k1 hcy
    exact sX3_takeBack_66 hΓ (hq _ c4 ⟨v, hset_same _ _ _, by rw [hset_ne hvy, hset_same], hcy, hcv⟩ ((r4.keep f3 hay).keep f5 hay) ((f4.eq (V := fun x => x = y ∨ x = a) (Or.inr rfl)).tr ((f3.eq (Or.inl rfl)).tr (f5.eq (Or.inl rfl)))))
  | succ m ih =>
    intro i x σ2 g hi hx e2 ev hg
    have g1 : σ2 y = some (.inr (2, [.ref v, .int (nI (u + 1))])) := (e2 y (Ne.symm hvy)).trans h1
    obtain ⟨vsi, oi⟩ := hall4 (i + 1) (by omega)
    have gi : σ2 (ra (i + 1)) = some (.inr (6, vsi)) := (e2 _ (hrv (i + 1) (by omega))).trans oi
    have hx1 : x - 1 = nI i := by rw [hx]; exact pk_sub (b := 1) (by omega)
    refine sX3_takeBack_22 hΓ rfl ?_
    refine sX3_takeBack_23 hΓ ?_
    refine sX3_takeBack_25 hΓ (fun c25 => absurd c25 (lp_in hx (n := 8) rfl (by omega) (by decide))) (fun c25 => ?_)
    refine sX3_takeBack_28 hΓ rfl ?_
    refine sX3_takeBack_29 hΓ g1 rfl ?_
    refine sX3_takeBack_32 hΓ rfl ?_
    refine sX3_takeBack_33 hΓ ?_
    refine sX3_takeBack_34 hΓ ?_
    refine sX3_takeBack_35 hΓ rfl ?_
    refine sX3_takeBack_36 hΓ g1 rfl ?_
    refine sX3_takeBack_39 hΓ rfl ?_
    refine sX3_takeBack_40 hΓ (Or.inl rfl) ev hx (by omega) (by decide) ?_
    rw [hg (i + 1) (by omega), if_neg (by omega)]
    refine sX3_takeBack_41_1 hΓ ev gi hx1 (by omega) (by decide) ?_
    refine sX3_takeBack_42 hΓ rfl ?_
    refine sX3_takeBack_45 hΓ ?_
    refine ih (i + 1) _ _ _ (by omega) (lp_1 hx) (fun z hz => by rw [hset_ne hz]; exact e2 z hz) (hset_same _ _ _) (fun j hj => ?_)
    unfold va_up
    by_cases e : j = i
    · rw [if_pos e, if_pos (by omega), e]
    · rw [if_neg e, hg j hj]
      by_cases e2 : j < i
      · rw [if_pos e2, if_pos (by omega)]
      · rw [if_neg e2, if_neg (by omega)]
theorem sh_clear (hΓ : Ok G κ mX3_clear (d + 0) Q X) {u : Int32} (hH : HG G σ c y ra u) (hq : ∀ σ1 : Hp, HG G σ1 c y ra (nI 0) → KF (fun x => x = y) σ c σ1 c → Q none σ1) : AW G κ cs ss 0 [lR y] [] σ := by
  obtain ⟨v, h1, h2, hcy, hcv⟩ := hH
  have hvy : v ≠ y := Ne.symm (oa_ne h1 h2)
  refine sX3_clear_0 hΓ rfl ?_
  refine sX3_clear_1 hΓ ?_
  refine sX3_clear_2 hΓ h1 (Nat.le_of_ble_eq_true rfl) ?_
  exact sX3_clear_5 hΓ (hq _ ⟨v, hset_same _ _ _, by rw [hset_ne hvy]; exact h2, hcy, hcv⟩ (KF.set h1 hcy))
theorem sh_init (hΓ : Ok G κ mX3_init (d + 3) Q X) (h0 : σ y = some (.inr (2, [.null, .int 0]))) (hcy : c y = y) (hq : ∀ (σ1 : Hp) (c1 : Nat → Nat) (ra : Nat → Nat), HG G σ1 c1 y ra (nI 0) → (∀ j, j < 8 → RY G σ1 c1 (ra j) 0 cZero) → (∀ j k, j < 8 → k < 8 → ra j = ra k → j = k) → (∀ j, j < 8 → σ (ra j) = none) → KA y σ c σ1 c1 → Q none σ1) : AW G κ (cs + 33) (ss + 216) 0 [lR y, none] [] σ := by
  refine sX3_init_0 hΓ rfl ?_
  refine sX3_init_1 hΓ (Nat.le_of_ble_eq_true rfl) ?_
  refine sX3_init_4 hΓ rfl ?_
  refine sX3_init_5 hΓ ?_
  refine sX3_init_7 hΓ (cs := cs + 32) (ss := ss + 208) (n := 8) rfl (by decide) (fun v hv _ => ?_)
  have hvy : v ≠ y := fun e => by rw [e, h0] at hv; cases hv
  refine sX3_init_10 hΓ ((LE.rf.set hv) _ _ h0) (Nat.le_of_ble_eq_true rfl) ?_
  suffices loop : ∀ (m i : Nat) (x : Int32) (σ2 : Hp) (c2 : Nat → Nat) (ra : Nat → Nat) (g : Nat → Option Nat), i + m = 8 → x = nI i → KA y σ c σ2 c2 → σ2 y = some (.inr (2, [.ref v, .int 0])) → σ2 v = some (eR G 1 8 g) → c2 y = y → c2 v = y → (∀ j, j < i → g j = some (ra j) ∧ RY G σ2 c2 (ra j) 0 cZero) → (∀ j k, j < i → k < i → ra j = ra k → j = k) → (∀ j, j < i → σ (ra j) = none) → AW G κ (cs + 4 * m) (ss + 26 * m) 15 [lR y, lI x] [] σ2 by
    refine sX3_init_13 hΓ ?_
    refine sX3_init_14 hΓ ?_
    refine loop 8 0 _ _ (colN c v y) (fun _ => 0) _ rfl rfl (fun z e hz => ⟨colN_k hv hz, fun hzy => by rw [hset_ne hzy]; exact (LE.rf.set hv) z e hz, by
      by_cases e9 : z = y
      · rw [e9]; exact ⟨_, hset_same _ _ _⟩
      · rw [hset_ne e9]; exact ⟨e, (LE.rf.set hv) z e hz⟩⟩) (hset_same _ _ _) (by rw [hset_ne hvy, hset_same]) (colN_o hcy) colN_s (fun j hj => absurd hj (Nat.not_lt_zero j)) (fun j k hj => absurd hj (Nat.not_lt_zero j)) (fun j hj => absurd hj (Nat.not_lt_zero j))
  intro m
  induction m with
  | zero =>
    intro i x σ2 c2 ra g hi hx f2 g1 g2 k1 k2 hg hinj hfr
    have ei : i = 8 := by omega
    subst ei
    refine sX3_init_15 hΓ rfl ?_
    refine sX3_init_16 hΓ ?_
    refine sX3_init_18 hΓ (fun c18 => ?_) (fun c18 => absurd (by rw [hx]; decide) c18)
    refine aw_eR (fun j => some (ra j)) g2 (fun j hj => (hg j hj).1) ?_
    have f3 : KF (fun x => x = y) σ2 c2 (hset σ2 v (eR G 1 8 (fun j => some (ra j)))) c2 := KF.set g2 k2
    refine sX3_init_40 hΓ (hq _ c2 ra ⟨v, by rw [hset_ne (Ne.symm hvy)]; exact g1, hset_same _ _ _, k1, k2⟩ (fun j hj => (hg j hj).2.keep f3 (fun e => ?_)) hinj hfr ?_)
    · have h9 := hfr j hj
      rw [e, h0] at h9
      cases h9
    · intro z e hz
      obtain ⟨a1, a2, e1, a3⟩ := f2 z e hz
      have hzv : z ≠ v := fun e9 => by rw [e9, hv] at hz; cases hz
      exact ⟨a1, fun hzy => by rw [hset_ne hzv]; exact a2 hzy, e1, by rw [hset_ne hzv]; exact a3⟩
  | succ m ih =>
    intro i x σ2 c2 ra g hi hx f2 g1 g2 k1 k2 hg hinj hfr
    refine aw_less (cs2 := cs + 4 * m + 3 + 1) (ss2 := ss + 26 * m + 17 + 9) (by omega) (by omega) ?_
    refine sX3_init_15 hΓ rfl ?_
    refine sX3_init_16 hΓ ?_
    refine sX3_init_18 hΓ (fun c18 => absurd c18 (lp_in hx (n := 8) rfl (by omega) (by decide))) (fun c18 => ?_)
    refine sX3_init_21 hΓ rfl ?_
    refine sX3_init_22 hΓ g1 rfl ?_
    refine sX3_init_25 hΓ rfl ?_
    refine sX3_init_26 hΓ (fun q hq1 _ => ?_)
    refine sX3_init_29 hΓ ?_
    have hqn : σ q = none := by
      cases e : σ q with
      | none => rfl
      | some w =>
        obtain ⟨-, -, e1, h9⟩ := f2 q w e
        rw [hq1] at h9
        cases h9
    have hqy : q ≠ y := fun e => by rw [e, h0] at hqn; cases hqn
    refine sX3_init_30 hΓ 3 17 (Nat.le_of_ble_eq_true rfl) (fun κ_30 hΓ_30 => sy_init (cs := 0) (ss := 0) hΓ_30 (c := colN c2 q q) (hset_same _ _ _) colN_s (fun σ4 c4 r4 f4 => ?_))
    show AW G κ _ _ 33 _ _ _
    obtain ⟨m4, k4⟩ := KA.le hq1 f4
    have f24 : ∀ {W : Nat → Prop}, KF W σ2 c2 σ4 c4 := KF.le m4 k4
    obtain ⟨t9, q9, o9⟩ := r4.o
    have hqv : q ≠ v := oa_ne o9 (m4 _ _ g2)
    refine sX3_init_33_1 hΓ (m4 _ _ g2) o9 hx (by omega) (by decide) ?_
    refine sX3_init_34 hΓ rfl ?_
    refine sX3_init_37 hΓ ?_
    have f5 : KF (fun x => x = y) σ4 c4 (hset σ4 v (eR G 1 8 (va_up g i (some q)))) c4 := KF.set (m4 _ _ g2) ((k4 v _ g2).trans k2)
    have hry : ∀ j, j < i → ra j ≠ y := fun j hj e => by have h9 := hfr j hj; rw [e, h0] at h9; cases h9
    have hrq : ∀ j, j < i → ra j ≠ q := fun j hj e => by
      obtain ⟨t, q1, o⟩ := (hg j hj).2.o
      rw [e, hq1] at o; cases o
    refine ih (i + 1) _ _ c4 (fun j => if j = i then q else ra j) _ (by omega) (lp_1 hx) (fun z e hz => ?_) (by rw [hset_ne (Ne.symm hvy)]; exact m4 _ _ g1) (hset_same _ _ _) ((k4 y _ g1).trans k1) ((k4 v _ g2).trans k2) (fun j hj => ?_) (fun j k hj hk e => ?_) (fun j hj => ?_)
    · obtain ⟨a1, a2, e1, a3⟩ := f2 z e hz
      have hzv : z ≠ v := fun e9 => by rw [e9, hv] at hz; cases hz
      exact ⟨(k4 z e1 a3).trans a1, fun hzy => by rw [hset_ne hzv]; exact m4 _ _ (a2 hzy), e1, by rw [hset_ne hzv]; exact m4 _ _ a3⟩
    · show va_up g i (some q) j = some (if j = i then q else ra j) ∧ RY G _ c4 (if j = i then q else ra j) 0 cZero
      unfold va_up
      by_cases e : j = i
      · rw [if_pos e, if_pos e]
        exact ⟨rfl, r4.keep f5 hqy⟩
      · rw [if_neg e, if_neg e]
        exact ⟨(hg j (by omega)).1, ((hg j (by omega)).2.keep (f24 (W := fun x => x = y)) (hry j (by omega))).keep f5 (hry j (by omega))⟩
    · have e : (if j = i then q else ra j) = (if k = i then q else ra k) := e
      by_cases c1 : j = i
      · by_cases c2 : k = i
        · rw [c1, c2]
        · rw [if_pos c1, if_neg c2] at e; exact absurd e.symm (hrq k (by omega))
      · by_cases c2 : k = i
        · rw [if_neg c1, if_pos c2] at e; exact absurd e (hrq j (by omega))
        · rw [if_neg c1, if_neg c2] at e; exact hinj j k (by omega) (by omega) e
    · show σ (if j = i then q else ra j) = none
      by_cases e : j = i
      · rw [if_pos e]; exact hqn
      · rw [if_neg e]; exact hfr j (by omega)
theorem si_init (hΓ : Ok G κ mX4_init (d + 1) Q X) (h0 : σ y = some (.inr (3, [.null, .int 0]))) (hcy : c y = y) (hq : ∀ (σ1 : Hp) (c1 : Nat → Nat), IG G σ1 c1 y (nI 0) (fun _ => 0) → KA y σ c σ1 c1 → Q none σ1) : AW G κ (cs + 1) (ss + 500) 0 [lR y] [] σ := by
  refine sX4_init_0 hΓ rfl ?_
  refine sX4_init_1 hΓ (Nat.le_of_ble_eq_true rfl) ?_
  refine sX4_init_4 hΓ rfl ?_
  refine sX4_init_5 hΓ ?_
  refine sX4_init_8 hΓ (n := 500) rfl (by decide) (fun v hv _ => ?_)
  have hvy : v ≠ y := fun e => by rw [e, h0] at hv; cases hv
  refine sX4_init_10 hΓ ((LE.rf.set hv) _ _ h0) (Nat.le_of_ble_eq_true rfl) ?_
  refine sX4_init_13 hΓ (hq _ (colN c v y) ⟨v, hset_same _ _ _, by rw [hset_ne hvy, hset_same], colN_o hcy, colN_s⟩ (fun x e hx => ?_))
  have h9 : x ≠ v := fun e9 => by rw [e9, hv] at hx; cases hx
  refine ⟨colN_n h9, fun h8 => by rw [hset_ne h8, hset_ne h9]; exact hx, ?_⟩
  by_cases h8 : x = y
  · rw [h8]; exact ⟨_, hset_same _ _ _⟩
  · rw [hset_ne h8, hset_ne h9]; exact ⟨e, hx⟩
theorem si_hasRoomFor (hΓ : Ok G κ mX4_hasRoomFor (d + 0) Q X) {l x : Int32} (h : IG G σ c y l b) (hq : Q (some (.int (bI (!decide (500 < l + x))))) σ) : AW G κ cs ss 0 [lR y, lI x] [] σ := by
  obtain ⟨v, h1, h2, h3, h4⟩ := h
  refine sX4_hasRoomFor_0 hΓ rfl ?_
  refine sX4_hasRoomFor_1 hΓ h1 rfl ?_
  refine sX4_hasRoomFor_4 hΓ rfl ?_
  refine sX4_hasRoomFor_5 hΓ ?_
  refine sX4_hasRoomFor_6 hΓ ?_
  refine sX4_hasRoomFor_9 hΓ (fun c9 => ?_) (fun c9 => ?_)
  · rw [decide_eq_true c9] at hq
    refine sX4_hasRoomFor_16 hΓ ?_
    exact sX4_hasRoomFor_17 hΓ (by first | exact Or.inl rfl | exact Or.inr rfl) hq
  · rw [decide_eq_false c9] at hq
    refine sX4_hasRoomFor_12 hΓ ?_
    refine sX4_hasRoomFor_13 hΓ ?_
    exact sX4_hasRoomFor_17 hΓ (by first | exact Or.inl rfl | exact Or.inr rfl) hq
theorem si_clear (hΓ : Ok G κ mX4_clear (d + 0) Q X) {l : Int32} (h : IG G σ c y l b) (hq : ∀ σ1 : Hp, IG G σ1 c y (nI 0) b → KF (fun x => x = y) σ c σ1 c → Q none σ1) : AW G κ cs ss 0 [lR y] [] σ := by
  obtain ⟨v, h1, h2, h3, h4⟩ := h
  have hvy : v ≠ y := Ne.symm (oa_ne h1 h2)
  refine sX4_clear_0 hΓ rfl ?_
  refine sX4_clear_1 hΓ ?_
  refine sX4_clear_2 hΓ h1 (Nat.le_of_ble_eq_true rfl) ?_
  exact sX4_clear_5 hΓ (hq _ ⟨v, hset_same _ _ _, by rw [hset_ne hvy]; exact h2, h3, h4⟩ (KF.set h1 h3))
theorem si_appendByte (hΓ : Ok G κ mX4_appendByte (d + 0) Q X) {l : Int32} {k : Nat} (h : IG G σ c y l b) (hl : l = nI k) (hk : k < 500) {x : Int32} (hq : ∀ σ1 : Hp, IG G σ1 c y (nI (k + 1)) (upd b k x) → KF (fun x => x = y) σ c σ1 c → Q none σ1) : AW G κ cs ss 0 [lR y, lI x] [] σ := by
  obtain ⟨v, h1, h2, h3, h4⟩ := h
  have hvy : v ≠ y := Ne.symm (oa_ne h1 h2)
  subst hl
  refine sX4_appendByte_0 hΓ rfl ?_
  refine sX4_appendByte_1 hΓ h1 rfl ?_
  refine sX4_appendByte_4 hΓ (fun c4 => absurd c4 (nI_pos (by omega))) (fun c4 => ?_)
  refine sX4_appendByte_7 hΓ rfl ?_
  refine sX4_appendByte_8 hΓ h1 rfl ?_
  refine sX4_appendByte_11 hΓ rfl ?_
  refine sX4_appendByte_12 hΓ h1 rfl ?_
  refine sX4_appendByte_15 hΓ h2 ?_
  refine sX4_appendByte_16 hΓ (fun c16 => ?_) (fun c16 => absurd (nI_lt (b := 500) hk (by decide)) c16)
  refine sX4_appendByte_20 hΓ rfl ?_
  refine sX4_appendByte_21 hΓ h1 rfl ?_
  refine sX4_appendByte_24 hΓ rfl ?_
  refine sX4_appendByte_25 hΓ h1 rfl ?_
  refine sX4_appendByte_28 hΓ rfl ?_
  refine sX4_appendByte_29 hΓ h2 (j := k) rfl hk (by decide) ?_
  have g1 : hset σ v (eI G 500 (upd b k x)) y = some (.inr (3, [.ref v, .int (nI k)])) := by rw [hset_ne (Ne.symm hvy)]; exact h1
  refine sX4_appendByte_30 hΓ rfl ?_
  refine sX4_appendByte_31 hΓ ?_
  refine sX4_appendByte_32 hΓ g1 rfl ?_
  refine sX4_appendByte_35 hΓ ?_
  refine sX4_appendByte_36 hΓ ?_
  refine sX4_appendByte_37 hΓ g1 (Nat.le_of_ble_eq_true rfl) ?_
  rw [nI_1]
  have f1 : KF (fun x => x = y) σ c (hset σ v (eI G 500 (upd b k x))) c := KF.set h2 h4
  exact sX4_appendByte_40 hΓ (hq _ ⟨v, hset_same _ _ _, by rw [hset_ne hvy, hset_same], h3, h4⟩ (f1.tr (KF.set g1 h3)))
theorem si_appendFour (hΓ : Ok G κ mX4_appendFourBytes (d + 1) Q X) {l : Int32} {k : Nat} (h : IG G σ c y l b) (hl : l = nI k) (hk : k + 4 ≤ 500) {x : Int32} (hq : ∀ σ1 : Hp, IG G σ1 c y (nI (k + 4)) (bPart b k x 4) → KF (fun x => x = y) σ c σ1 c → Q none σ1) : AW G κ cs ss 0 [lR y, lI x, none] [] σ := by
  suffices loop : ∀ (m i : Nat) (u : Int32) (σ2 : Hp), i + m = 4 → u = (if i = 4 then (-8 : Int32) else nI (24 - 8 * i)) → IG G σ2 c y (nI (k + i)) (bPart b k x i) → KF (fun x => x = y) σ c σ2 c → AW G κ cs ss 3 [lR y, lI x, lI u] [] σ2 by
    refine sX4_appendFourBytes_0 hΓ ?_
    refine sX4_appendFourBytes_2 hΓ ?_
    exact loop 4 0 _ σ rfl rfl (by rw [bPart_0]; subst hl; exact h) KF.rf
  intro m
  induction m with
  | zero =>
    intro i u σ2 hi hu h2 f2
    have ei : i = 4 := by omega
    subst ei
    refine sX4_appendFourBytes_3 hΓ rfl ?_
    refine sX4_appendFourBytes_4 hΓ (fun c4 => ?_) (fun c4 => absurd (by rw [hu]; decide) c4)
    exact sX4_appendFourBytes_24 hΓ (hq _ h2 f2)
  | succ m ih =>
    intro i u σ2 hi hu h2 f2
    rw [if_neg (by omega)] at hu
    have h20 := h2
    obtain ⟨v, g1, -⟩ := h20
    refine sX4_appendFourBytes_3 hΓ rfl ?_
    refine sX4_appendFourBytes_4 hΓ (fun c4 => absurd c4 (by rw [hu]; exact nI_pos (by omega))) (fun c4 => ?_)
    refine sX4_appendFourBytes_7 hΓ rfl ?_
    refine sX4_appendFourBytes_8 hΓ rfl ?_
    refine sX4_appendFourBytes_9 hΓ rfl ?_
    refine sX4_appendFourBytes_10 hΓ ?_
    refine sX4_appendFourBytes_11 hΓ ?_
    refine sX4_appendFourBytes_14 hΓ ?_
    refine sX4_appendFourBytes_15 hΓ 0 0 (Nat.le_of_ble_eq_true rfl) g1 (fun κ_15 hΓ_15 => si_appendByte hΓ_15 h2 rfl (by omega) (fun σ1 h1 f1 => ?_))
    show AW G κ _ _ 18 _ _ _
    refine sX4_appendFourBytes_18 hΓ rfl ?_
    refine sX4_appendFourBytes_21 hΓ ?_
    rw [hu, bPart_s] at h1
    refine ih (i + 1) _ _ (by omega) ?_ h1 (f2.tr (KF.rf.tr f1))
    rw [hu]
    match i, hi with
    | 0, _ | 1, _ | 2, _ | 3, _ => decide
    | i + 4, h9 => omega
end ClassHist
