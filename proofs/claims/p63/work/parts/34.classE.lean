/-! the class: whose a cell is; railways made and copied -/
theorem aw_eR {G : Gl} {κ : Kx} {cs ss pc : Nat} {L : List (Option LV)} {st : List Value} {σ : Hp} {a i n : Nat} {f : Nat → Option Nat} (g : Nat → Option Nat) (hσ : σ a = some (eR G i n f)) (hg : ∀ j, j < n → f j = g j) (k : AW G κ cs ss pc L st (hset σ a (eR G i n g))) : AW G κ cs ss pc L st σ := by
  refine aw_hs (fun H hH x e hx => ?_) k
  by_cases c : x = a
  · subst c
    rw [hset_same] at hx
    obtain rfl := Option.some.inj hx
    obtain ⟨h1, h2⟩ := hH x _ hσ
    refine ⟨h1, ?_⟩
    have e1 : vp_cell (gC G i) (n, .inr (.inr (.inr (.inr f)))) = vp_cell (gC G i) (n, .inr (.inr (.inr (.inr g)))) := by
      rw [vp_cell_q, vp_cell_q]
      unfold arrV
      congr 2
      funext j
      show va_rf (f j.val) = va_rf (g j.val)
      rw [hg j.val j.isLt]
    exact (show H[x]? = some (vp_cell (gC G i) (n, .inr (.inr (.inr (.inr f))))) from h2).trans (congrArg some e1)
  · rw [hset_ne c] at hx
    exact hH x e hx
/-- what was there stays -/
def LE (σ σ1 : Hp) : Prop := ∀ x e, σ x = some e → σ1 x = some e
theorem LE.rf {σ : Hp} : LE σ σ := fun _ _ h => h
theorem LE.tr {σ σ1 σ2 : Hp} (h : LE σ σ1) (h1 : LE σ1 σ2) : LE σ σ2 := fun x e hx => h1 x e (h x e hx)
theorem LE.set {σ σ1 : Hp} {q : Nat} {e : va_E} (h : LE σ σ1) (hq : σ q = none) : LE σ (hset σ1 q e) := fun x e1 hx => by
  rw [hset_ne (fun e9 => by rw [e9, hq] at hx; cases hx)]
  exact h x e1 hx
theorem LE.none {σ σ1 : Hp} {q : Nat} (h : LE σ σ1) (hq : σ1 q = none) : σ q = none := by
  cases e : σ q with
  | none => rfl
  | some v => rw [h q v e] at hq; cases hq
theorem TB.le {σ0 σ : Hp} {b : Nat} {v : Nat → Int32} (h : TB σ0 b v σ) (hb : σ0 b = none) : LE σ0 σ := by
  rw [h]
  exact LE.rf.set hb
/-- what isn't W's stays; whose a cell is, stays -/
def KF (W : Nat → Prop) (σ : Hp) (c : Nat → Nat) (σ1 : Hp) (c1 : Nat → Nat) : Prop := ∀ x e, σ x = some e → c1 x = c x ∧ (¬ W (c x) → σ1 x = some e) ∧ ∃ e1, σ1 x = some e1
theorem KF.rf {W : Nat → Prop} {σ : Hp} {c : Nat → Nat} : KF W σ c σ c := fun x e h => ⟨rfl, fun _ => h, e, h⟩
theorem KF.tr {W : Nat → Prop} {σ σ1 σ2 : Hp} {c c1 c2 : Nat → Nat} (h1 : KF W σ c σ1 c1) (h2 : KF W σ1 c1 σ2 c2) : KF W σ c σ2 c2 := fun x e h => by
  obtain ⟨a1, a2, e1, a3⟩ := h1 x e h
  obtain ⟨b1, b2, b3⟩ := h2 x e1 a3
  refine ⟨b1.trans a1, fun hw => ?_, b3⟩
  exact (h2 x e (a2 hw)).2.1 (by rw [a1]; exact hw)
theorem KF.mo {W V : Nat → Prop} {σ σ1 : Hp} {c c1 : Nat → Nat} (h : KF W σ c σ1 c1) (hW : ∀ x, W x → V x) : KF V σ c σ1 c1 := fun x e hx => by
  obtain ⟨a1, a2, a3⟩ := h x e hx
  exact ⟨a1, fun hv => a2 (fun hw => hv (hW _ hw)), a3⟩
theorem KF.eq {a : Nat} {V : Nat → Prop} {σ σ1 : Hp} {c c1 : Nat → Nat} (h : KF (fun x => x = a) σ c σ1 c1) (hV : V a) : KF V σ c σ1 c1 := h.mo (fun x e => e ▸ hV)
theorem KF.le {W : Nat → Prop} {σ σ1 : Hp} {c c1 : Nat → Nat} (h : LE σ σ1) (hc : ∀ x e, σ x = some e → c1 x = c x) : KF W σ c σ1 c1 := fun x e hx => ⟨hc x e hx, fun _ => h x e hx, e, h x e hx⟩
/-- a new cell's owner -/
def colN (c : Nat → Nat) (q o : Nat) : Nat → Nat := fun x => if x = q then o else c x
theorem colN_s {c : Nat → Nat} {q o : Nat} : colN c q o q = o := if_pos rfl
theorem colN_n {c : Nat → Nat} {q o x : Nat} (h : x ≠ q) : colN c q o x = c x := if_neg h
theorem colN_k {c : Nat → Nat} {q o x : Nat} {σ : Hp} {e : va_E} (hq : σ q = none) (hx : σ x = some e) : colN c q o x = c x := if_neg (fun e9 => by rw [e9, hq] at hx; cases hx)
theorem colN_o {c : Nat → Nat} {q o x : Nat} (h : c x = o) : colN c q o x = o := by
  unfold colN
  split
  · rfl
  · exact h
theorem KF.new {W : Nat → Prop} {σ : Hp} {c : Nat → Nat} {q o : Nat} {e : va_E} (hq : σ q = none) : KF W σ c (hset σ q e) (colN c q o) := KF.le (LE.rf.set hq) (fun x e hx => colN_k hq hx)
theorem KF.set {W : Nat → Prop} {σ : Hp} {c : Nat → Nat} {q : Nat} {e0 e : va_E} (hx : σ q = some e0) (hw : W (c q)) : KF W σ c (hset σ q e) c := fun x e1 h => by
  by_cases i : x = q
  · subst i
    exact ⟨rfl, fun n => absurd hw n, e, hset_same _ _ _⟩
  · rw [hset_ne i]
    exact ⟨rfl, fun _ => h, e1, h⟩
/-- but for two cells nothing has changed -/
theorem KF.two {W : Nat → Prop} {σ σ1 : Hp} {c : Nat → Nat} {a x : Nat} (f : ∀ y, y ≠ a → y ≠ x → σ1 y = σ y) (ha : W (c a)) (hx : W (c x)) (ea : ∃ e, σ1 a = some e) (ex : ∃ e, σ1 x = some e) : KF W σ c σ1 c := fun y e hy => by
  by_cases i : y = a
  · subst i; exact ⟨rfl, fun n => absurd ha n, ea⟩
  · by_cases j : y = x
    · subst j; exact ⟨rfl, fun n => absurd hx n, ex⟩
    · rw [f y i j]; exact ⟨rfl, fun _ => hy, e, hy⟩
/-- but for a nothing has changed; new cells there are -/
def KA (a : Nat) (σ : Hp) (c : Nat → Nat) (σ1 : Hp) (c1 : Nat → Nat) : Prop := ∀ x e, σ x = some e → c1 x = c x ∧ (x ≠ a → σ1 x = some e) ∧ ∃ e1, σ1 x = some e1
theorem KA.kf {a : Nat} {W : Nat → Prop} {σ σ1 : Hp} {c c1 : Nat → Nat} (h : KA a σ c σ1 c1) (hW : W (c a)) : KF W σ c σ1 c1 := fun x e hx => by
  obtain ⟨h1, h2, h3⟩ := h x e hx
  exact ⟨h1, fun hw => h2 (fun e9 => hw (e9 ▸ hW)), h3⟩
theorem KA.le {q o : Nat} {e0 : va_E} {σ σ1 : Hp} {c c1 : Nat → Nat} (hq : σ q = none) (h : KA q (hset σ q e0) (colN c q o) σ1 c1) : LE σ σ1 ∧ ∀ x e, σ x = some e → c1 x = c x := by
  have k : ∀ x e, σ x = some e → x ≠ q := fun x e hx e9 => by rw [e9, hq] at hx; cases hx
  refine ⟨fun x e hx => (h x e ((LE.rf.set hq) x e hx)).2.1 (k x e hx), fun x e hx => ?_⟩
  rw [(h x e ((LE.rf.set hq) x e hx)).1]
  exact colN_n (k x e hx)
section ClassOwn
variable {G : Gl} {κ : Kx} {cs ss pc : Nat} {L : List (Option LV)} {st : List Value} {σ σ1 : Hp} {a t q p n : Nat} {tr : Nat → Nat} {S U K : Nat → Int32} {T : Nat → Nat → Int32} {c c1 : Nat → Nat} {W : Nat → Prop} {C : Ct}
theorem RG.le (h : RG G σ a t q p tr n S U K T) (f : LE σ σ1) : RG G σ1 a t q p tr n S U K T := ⟨f _ _ h.1, f _ _ h.2.1, fun j hj => f _ _ (h.2.2.1 j hj), ⟨f _ _ h.2.2.2.1.1, f _ _ h.2.2.2.1.2⟩, h.2.2.2.2⟩
theorem RG.ex (h : RG G σ a t q p tr n S U K T) {x : Nat} (hx : inR a t q p tr n x) : ∃ e, σ x = some e := by
  rcases hx with e | e | e | e | ⟨j, hj, e⟩
  · rw [e]; exact ⟨_, h.1⟩
  · rw [e]; exact ⟨_, h.2.1⟩
  · rw [e]; exact ⟨_, h.2.2.2.1.1⟩
  · rw [e]; exact ⟨_, h.2.2.2.1.2⟩
  · rw [e]; exact ⟨_, h.2.2.1 j hj⟩
theorem KF.cf {S1 U1 K1 : Nat → Int32} {T1 : Nat → Nat → Int32} (hc : ∀ x, inR a t q p tr n x → c x = a) (hW : W a) (h1 : RG G σ1 a t q p tr n S1 U1 K1 T1) (f : CF a t q p tr n σ σ1) : KF W σ c σ1 c := fun x e hx => by
  by_cases i : inR a t q p tr n x
  · exact ⟨rfl, fun hw => absurd (by rw [hc x i]; exact hW) hw, h1.ex i⟩
  · rw [f x i]; exact ⟨rfl, fun _ => hx, e, hx⟩
/-- the railway at a: n trains, its numbers; its cells are its own -/
def RY (G : Gl) (σ : Hp) (c : Nat → Nat) (a n : Nat) (C : Ct) : Prop := ∃ (t q p : Nat) (tr : Nat → Nat), RG G σ a t q p tr n C.1 C.2.1 C.2.2.1 C.2.2.2 ∧ ∀ x, inR a t q p tr n x → c x = a
theorem RY.keep {b : Nat} (h : RY G σ c b n C) (f : KF W σ c σ1 c1) (hb : ¬ W b) : RY G σ1 c1 b n C := by
  obtain ⟨t, q, p, tr, hR, hc⟩ := h
  have k : ∀ x e, inR b t q p tr n x → σ x = some e → σ1 x = some e := fun x e hi hx => (f x e hx).2.1 (by rw [hc x hi]; exact hb)
  refine ⟨t, q, p, tr, ⟨k _ _ (Or.inl rfl) hR.1, k _ _ (Or.inr (Or.inl rfl)) hR.2.1, fun j hj => k _ _ (Or.inr (Or.inr (Or.inr (Or.inr ⟨j, hj, rfl⟩)))) (hR.2.2.1 j hj), ⟨k _ _ (Or.inr (Or.inr (Or.inl rfl))) hR.2.2.2.1.1, k _ _ (Or.inr (Or.inr (Or.inr (Or.inl rfl)))) hR.2.2.2.1.2⟩, hR.2.2.2.2⟩, fun x hi => ?_⟩
  obtain ⟨e, he⟩ := hR.ex hi
  rw [(f x e he).1]
  exact hc x hi
theorem rg_q (h : RG G σ a t q p tr n S U K T) {Z : Hp → Prop} {U1 K1 : Nat → Int32} (kk : ∀ σ1 : Hp, RG G σ1 a t q p tr n S U1 K1 T → CF a t q p tr n σ σ1 → Z σ1) : ∀ σ1 : Hp, QG G σ1 q p U1 K1 → QF q p σ σ1 → Z σ1 := fun σ1 hq f => kk σ1 (h.setQ hq f).1 (h.setQ hq f).2
theorem RG.xp (h : RG G σ a t q p tr n S U K T) {x m : Nat} {g : Nat → Option Nat} (hx : σ x = some (eR G 2 m g)) : x ≠ a ∧ x ≠ q ∧ x ≠ p := by
  refine ⟨Ne.symm (oa_ne h.1 hx), Ne.symm (oa_ne h.2.2.2.1.1 hx), fun e => ?_⟩
  have h1 := hx
  rw [e, h.qg.2] at h1
  injection h1 with h1
  injection h1 with h1
  injection h1 with _ h1
  injection h1 with _ h1
  cases h1
/-- another row of trains -/
theorem rg_tr (h : RG G σ a t q p tr n S U K T) {x m : Nat} {g : Nat → Option Nat} {tr1 : Nat → Nat} {T1 : Nat → Nat → Int32} (hx : σ x = some (eR G 2 m g)) (hg : ∀ j, j < m → g j = some (tr1 j)) (h1 : ∀ j, j < m → σ (tr1 j) = some (.inr (9, tV (T1 j)))) (hi : ∀ i j, i < m → j < m → tr1 i = tr1 j → i = j) (hm : m ≤ 6) {fs : List Value} (hf : fs = sV S x q) (kk : ∀ σ1 : Hp, RG G σ1 a x q p tr1 m S U K T1 → (∀ y, y ≠ a → y ≠ x → σ1 y = σ y) → AW G κ cs ss pc L st σ1) : AW G κ cs ss pc L st (hset σ a (.inr (6, fs))) := by
  subst hf
  obtain ⟨ha, hq, hp⟩ := h.xp hx
  have h0 : hset σ a (.inr (6, sV S x q)) x = some (eR G 2 m g) := by rw [hset_ne ha]; exact hx
  refine aw_eR (fun j => some (tr1 j)) h0 hg (kk _ ⟨?_, hset_same _ _ _, fun j hj => ?_, ⟨?_, ?_⟩, hi, hm⟩ (fun y y1 y2 => ?_))
  · rw [hset_ne (Ne.symm ha), hset_same]
  · rw [hset_ne (oa_ne (h1 j hj) hx), hset_ne (obj_ne (h1 j hj) h.1 (by decide))]; exact h1 j hj
  · rw [hset_ne (Ne.symm hq), hset_ne (obj_ne h.2.2.2.1.1 h.1 (by decide))]; exact h.2.2.2.1.1
  · rw [hset_ne (Ne.symm hp), hset_ne (Ne.symm (oa_ne h.1 h.2.2.2.1.2))]; exact h.2.2.2.1.2
  · rw [hset_ne y2, hset_ne y1]
end ClassOwn
def sLay (S : Nat → Int32) (x y : Int32) : Nat → Int32 := upd (upd (upd (upd (upd (upd (upd S 0 x) 1 y) 2 0) 3 0) 4 0) 5 0) 6 0
def cLay (C : Ct) (x y : Int32) : Ct := (sLay C.1 x y, uZero C.2.1, C.2.2.1, C.2.2.2)
def tNew (x y v w : Int32) : Nat → Int32 := upd (upd (upd (upd (fun _ => 0) 0 x) 1 y) 2 v) 3 w
def cAdd (C : Ct) (n : Nat) (x y v w : Int32) : Ct := (C.1, C.2.1, C.2.2.1, updT C.2.2.2 n (tNew x y v w))
def cCpy (C B : Ct) : Ct := (B.1, B.2.1, va_cpy B.2.2.1 C.2.2.1 0 0 12, B.2.2.2)
def cZero : Ct := (fun _ => 0, fun _ => 0, fun _ => 0, fun _ _ => 0)
section ClassMake
variable {G : Gl} {κ : Kx} {d : Nat} {Q : Option Value → Hp → Prop} {X : String → Hp → Prop} {cs ss : Nat} {σ : Hp} {a n : Nat} {c : Nat → Nat} {C : Ct}
theorem sy_lay (hΓ : Ok G κ mX8_lay (d + 1) Q X) (h : RY G σ c a n C) {x y : Int32} (hq : ∀ (σ1 : Hp) (c1 : Nat → Nat), RY G σ1 c1 a 0 (cLay C x y) → KF (fun x => x = a) σ c σ1 c1 → Q none σ1) : AW G κ (cs + 1) ss 0 [lR a, lI x, lI y] [] σ := by
  obtain ⟨t, q, p, tr, h, hc⟩ := h
  have hca : c a = a := hc a (Or.inl rfl)
  refine sX8_lay_0 hΓ rfl ?_
  refine sX8_lay_1 hΓ rfl ?_
  refine sX8_lay_2 hΓ h.o  (Nat.le_of_ble_eq_true rfl) (rg_S h ((upd C.1 0 x)) rfl (fun σ1 h1 f1 => ?_))
  refine sX8_lay_5 hΓ rfl ?_
  refine sX8_lay_6 hΓ rfl ?_
  refine sX8_lay_7 hΓ h1.o  (Nat.le_of_ble_eq_true rfl) (rg_S h1 ((upd (upd C.1 0 x) 1 y)) rfl (fun σ2 h2 f2 => ?_))
  refine sX8_lay_10 hΓ rfl ?_
  refine sX8_lay_11 hΓ ?_
  refine sX8_lay_12 hΓ h2.o  (Nat.le_of_ble_eq_true rfl) (rg_S h2 ((upd (upd (upd C.1 0 x) 1 y) 2 0)) rfl (fun σ3 h3 f3 => ?_))
  refine sX8_lay_15 hΓ rfl ?_
  refine sX8_lay_16 hΓ ?_
  refine sX8_lay_17 hΓ h3.o  (Nat.le_of_ble_eq_true rfl) (rg_S h3 ((upd (upd (upd (upd C.1 0 x) 1 y) 2 0) 3 0)) rfl (fun σ4 h4 f4 => ?_))
  refine sX8_lay_20 hΓ rfl ?_
  refine sX8_lay_21 hΓ ?_
  refine sX8_lay_22 hΓ h4.o  (Nat.le_of_ble_eq_true rfl) (rg_S h4 ((upd (upd (upd (upd (upd C.1 0 x) 1 y) 2 0) 3 0) 4 0)) rfl (fun σ5 h5 f5 => ?_))
  refine sX8_lay_25 hΓ rfl ?_
  refine sX8_lay_26 hΓ ?_
  refine sX8_lay_27 hΓ h5.o  (Nat.le_of_ble_eq_true rfl) (rg_S h5 ((upd (upd (upd (upd (upd (upd C.1 0 x) 1 y) 2 0) 3 0) 4 0) 5 0)) rfl (fun σ6 h6 f6 => ?_))
  refine sX8_lay_30 hΓ rfl ?_
  refine sX8_lay_31 hΓ ?_
  refine sX8_lay_32 hΓ h6.o  (Nat.le_of_ble_eq_true rfl) (rg_S h6 ((upd (upd (upd (upd (upd (upd (upd C.1 0 x) 1 y) 2 0) 3 0) 4 0) 5 0) 6 0)) rfl (fun σ7 h7 f7 => ?_))
  refine sX8_lay_35 hΓ rfl ?_
  refine sX8_lay_36 hΓ ?_
  refine sX8_lay_37 hΓ (n := 0) rfl (by decide) (fun x1 hx1 _ => ?_)
  have m8 : LE _ _ := LE.rf.set (e := eR G 2 0 (fun _ => none)) hx1
  have h8 := h7.le m8
  have f8 := (KF.cf (W := fun x => x = a) hc rfl h7 (((((((CF.rf.tr f1).tr f2).tr f3).tr f4).tr f5).tr f6).tr f7)).tr (KF.new (o := a) (e := eR G 2 0 (fun _ => none)) hx1)
  refine sX8_lay_40 hΓ h8.o (Nat.le_of_ble_eq_true rfl) (rg_tr h8 (tr1 := tr) (T1 := C.2.2.2) (hset_same _ _ _) (fun j hj => absurd hj (Nat.not_lt_zero j)) (fun j hj => absurd hj (Nat.not_lt_zero j)) (fun i j hi => absurd hi (Nat.not_lt_zero i)) (Nat.zero_le 6) rfl (fun σ9 h9 f9 => ?_))
  have hc9 : ∀ z, inR a x1 q p tr 0 z → colN c x1 a z = a := fun z hz => by
    rcases hz with e | e | e | e | ⟨j, hj, e⟩
    · rw [e]; exact colN_o hca
    · rw [e]; exact colN_s
    · rw [e]; exact colN_o (hc q (Or.inr (Or.inr (Or.inl rfl))))
    · rw [e]; exact colN_o (hc p (Or.inr (Or.inr (Or.inr (Or.inl rfl)))))
    · exact absurd hj (Nat.not_lt_zero j)
  have f10 := f8.tr (KF.two (c := colN c x1 a) f9 (hc9 a (Or.inl rfl)) (hc9 x1 (Or.inr (Or.inl rfl))) (h9.ex (Or.inl rfl)) (h9.ex (Or.inr (Or.inl rfl))))
  refine sX8_lay_43 hΓ rfl ?_
  refine sX8_lay_44 hΓ h9.o rfl ?_
  refine sX8_lay_47 hΓ 0 0 (Nat.le_of_ble_eq_true rfl) h9.qg.o (fun κ_47 hΓ_47 => su_reset hΓ_47 h9.qg (rg_q h9 (fun σ51 h51 f51 => ?_)))
  show AW G κ _ _ 50 _ _ _
  exact sX8_lay_50 hΓ (hq _ _ ⟨x1, q, p, tr, h51, hc9⟩ (f10.tr (KF.cf hc9 rfl h51 (CF.rf.tr f51))))
theorem sy_addTrain (hΓ : Ok G κ mX8_addTrain (d + 2) Q X) (h : RY G σ c a n C) {x y v w : Int32} (hm6 : n + 1 ≤ 6) (hq : ∀ (σ1 : Hp) (c1 : Nat → Nat), RY G σ1 c1 a (n + 1) (cAdd C n x y v w) → KF (fun x => x = a) σ c σ1 c1 → Q none σ1) : AW G κ (cs + 1 + 1) (ss + 15 + (n + 1)) 0 [lR a, lI x, lI y, lI v, lI w, none, none] [] σ := by
  obtain ⟨t, q, p, tr, h, hc⟩ := h
  have hca : c a = a := hc a (Or.inl rfl)
  have hn6 := h.n6
  refine sX8_addTrain_0 hΓ rfl ?_
  refine sX8_addTrain_1 hΓ h.o rfl ?_
  refine sX8_addTrain_4q hΓ (Or.inr rfl) h.ts ?_
  refine sX8_addTrain_5 hΓ ?_
  refine sX8_addTrain_6 hΓ ?_
  refine sX8_addTrain_7 hΓ (n := n + 1) (nI_1 n) (by omega) (fun b hb _ => ?_)
  refine sX8_addTrain_10 hΓ ?_
  suffices loop : ∀ (m i : Nat) (u : Int32) (σ2 : Hp), i + m = n → u = nI i → LE σ σ2 → σ2 b = some (eR G 2 (n + 1) (fun j => if j < i then some (tr j) else none)) → AW G κ (cs + 1) (ss + 15) 15 [lR a, lI x, lI y, lI v, lI w, lR b, lI u] [] σ2 by
    refine sX8_addTrain_12 hΓ ?_
    refine sX8_addTrain_13 hΓ ?_
    exact loop n 0 _ _ (Nat.zero_add n) rfl (LE.rf.set hb) (hset_same _ _ _)
  intro m
  induction m with
  | zero =>
    intro i u σ2 hi hu m2 e2
    have ei : i = n := by omega
    subst ei
    have h2 := h.le m2
    refine sX8_addTrain_15 hΓ rfl ?_
    refine sX8_addTrain_17 hΓ rfl ?_
    refine sX8_addTrain_18 hΓ h2.o rfl ?_
    refine sX8_addTrain_21q hΓ (Or.inr rfl) h2.ts ?_
    refine sX8_addTrain_22 hΓ (fun c22 => ?_) (fun c22 => absurd (lp_out hu rfl (by omega) (by omega)) c22)
    refine sX8_addTrain_43 hΓ (fun y1 hy _ => ?_)
    refine sX8_addTrain_46 hΓ ?_
    refine sX8_addTrain_47 hΓ 0 0 (Nat.le_of_ble_eq_true rfl) (fun κ_47 hΓ_47 => st_tInit hΓ_47 ?_)
    show AW G κ _ _ 50 _ _ _
    have h3 : TB σ2 y1 (fun _ => 0) (hset σ2 y1 (.inr (9, tV (fun _ => 0)))) := rfl
    show AW G κ _ _ 50 _ _ _
    refine sX8_addTrain_50 hΓ ?_
    refine sX8_addTrain_52 hΓ rfl ?_
    refine sX8_addTrain_54 hΓ rfl ?_
    refine sX8_addTrain_55 hΓ h3.o  (Nat.le_of_ble_eq_true rfl) (tb_put h3 ((upd (fun _ => 0 : Nat → Int32) 0 x)) rfl (fun σ21 h21 => ?_))
    refine sX8_addTrain_58 hΓ rfl ?_
    refine sX8_addTrain_60 hΓ rfl ?_
    refine sX8_addTrain_61 hΓ h21.o  (Nat.le_of_ble_eq_true rfl) (tb_put h21 ((upd (upd (fun _ => 0 : Nat → Int32) 0 x) 1 y)) rfl (fun σ22 h22 => ?_))
    refine sX8_addTrain_64 hΓ rfl ?_
    refine sX8_addTrain_66 hΓ rfl ?_
    refine sX8_addTrain_67 hΓ h22.o  (Nat.le_of_ble_eq_true rfl) (tb_put h22 ((upd (upd (upd (fun _ => 0 : Nat → Int32) 0 x) 1 y) 2 v)) rfl (fun σ23 h23 => ?_))
    refine sX8_addTrain_70 hΓ rfl ?_
    refine sX8_addTrain_72 hΓ rfl ?_
    refine sX8_addTrain_74 hΓ h23.o  (Nat.le_of_ble_eq_true rfl) (tb_put h23 ((upd (upd (upd (upd (fun _ => 0 : Nat → Int32) 0 x) 1 y) 2 v) 3 w)) rfl (fun σ24 h24 => ?_))
    refine sX8_addTrain_77 hΓ rfl ?_
    refine sX8_addTrain_79 hΓ rfl ?_
    refine sX8_addTrain_80 hΓ (h2.le (h24.le hy)).o rfl ?_
    refine sX8_addTrain_83q hΓ (Or.inr rfl) (h2.le (h24.le hy)).ts ?_
    refine sX8_addTrain_84 hΓ rfl ?_
    refine sX8_addTrain_86_2 hΓ ((h24.le hy) _ _ e2) h24.o rfl (by omega) (by omega) ?_
    have h7 := h24
    have hyb : y1 ≠ b := fun e => by rw [e, e2] at hy; cases hy
    have m8 : LE σ (hset _ b (eR G 2 (i + 1) (va_up (fun j => if j < i then some (tr j) else none) i (some y1)))) := (m2.tr (h7.le hy)).set hb
    have h8 := h.le m8
    have hty : ∀ j, j < i → tr j ≠ y1 := fun j hj e => by
      have h9 := h2.tn hj
      rw [e, hy] at h9; cases h9
    refine sX8_addTrain_87 hΓ rfl ?_
    refine sX8_addTrain_88 hΓ rfl ?_
    refine sX8_addTrain_90 hΓ h8.o (Nat.le_of_ble_eq_true rfl) (rg_tr h8 (tr1 := fun j => if j = i then y1 else tr j) (T1 := updT C.2.2.2 i (tNew x y v w)) (hset_same _ _ _) (fun j hj => ?_) (fun j hj => ?_) (fun j k hj hk e => ?_) hm6 rfl (fun σ9 h9 f9 => ?_))
    · unfold va_up
      by_cases c : j = i
      · rw [if_pos c, if_pos c]
      · rw [if_neg c, if_neg c]; exact if_pos (by omega)
    · by_cases c : j = i
      · rw [if_pos c, c, updT_same, hset_ne hyb]; exact h7.o
      · rw [if_neg c, updT_ne c]; exact h8.tn (by omega)
    · have e : (if j = i then y1 else tr j) = (if k = i then y1 else tr k) := e
      by_cases c1 : j = i
      · by_cases c2 : k = i
        · rw [c1, c2]
        · rw [if_pos c1, if_neg c2] at e; exact absurd e.symm (hty k (by omega))
      · by_cases c2 : k = i
        · rw [if_neg c1, if_pos c2] at e; exact absurd e (hty j (by omega))
        · rw [if_neg c1, if_neg c2] at e; exact h.inj j k (by omega) (by omega) e
    · have hyn : σ y1 = none := m2.none hy
      have hc9 : ∀ z, inR a b q p (fun j => if j = i then y1 else tr j) (i + 1) z → colN (colN c b a) y1 a z = a := fun z hz => by
        rcases hz with e | e | e | e | ⟨j, hj, e⟩
        · rw [e]; exact colN_o (colN_o hca)
        · rw [e]; exact colN_o colN_s
        · rw [e]; exact colN_o (colN_o (hc q (Or.inr (Or.inr (Or.inl rfl)))))
        · rw [e]; exact colN_o (colN_o (hc p (Or.inr (Or.inr (Or.inr (Or.inl rfl))))))
        · have e : z = (if j = i then y1 else tr j) := e
          by_cases c1 : j = i
          · rw [e, if_pos c1]; exact colN_s
          · rw [e, if_neg c1]; exact colN_o (colN_o (hc _ (Or.inr (Or.inr (Or.inr (Or.inr ⟨j, by omega, rfl⟩))))))
      refine sX8_addTrain_93 hΓ (hq σ9 (colN (colN c b a) y1 a) ⟨b, q, p, _, h9, hc9⟩ ?_)
      exact (KF.le m8 (fun z e hz => (colN_k hyn hz).trans (colN_k hb hz))).tr (KF.two (c := colN (colN c b a) y1 a) f9 (hc9 a (Or.inl rfl)) (hc9 b (Or.inr (Or.inl rfl))) (h9.ex (Or.inl rfl)) (h9.ex (Or.inr (Or.inl rfl))))
  | succ m ih =>
    intro i u σ2 hi hu m2 e2
    have hin : i < n := by omega
    have h2 := h.le m2
    refine sX8_addTrain_15 hΓ rfl ?_
    refine sX8_addTrain_17 hΓ rfl ?_
    refine sX8_addTrain_18 hΓ h2.o rfl ?_
    refine sX8_addTrain_21q hΓ (Or.inr rfl) h2.ts ?_
    refine sX8_addTrain_22 hΓ (fun c22 => absurd c22 (lp_in hu rfl hin (by omega))) (fun c22 => ?_)
    refine sX8_addTrain_25 hΓ rfl ?_
    refine sX8_addTrain_27 hΓ rfl ?_
    refine sX8_addTrain_29 hΓ rfl ?_
    refine sX8_addTrain_30 hΓ h2.o rfl ?_
    refine sX8_addTrain_33 hΓ rfl ?_
    refine sX8_addTrain_35 hΓ (Or.inr rfl) h2.ts hu hin (by omega) ?_
    refine sX8_addTrain_36_2 hΓ e2 (h2.tn hin) hu (by omega) (by omega) ?_
    refine sX8_addTrain_37 hΓ rfl ?_
    refine sX8_addTrain_40 hΓ ?_
    refine ih (i + 1) _ _ (by omega) (lp_1 hu) (m2.set hb) ?_
    rw [hset_same]
    refine congrArg (fun f => some (eR G 2 (n + 1) f)) (funext fun j => ?_)
    show (if j = i then some (tr i) else if j < i then some (tr j) else none) = _
    by_cases c1 : j = i
    · rw [if_pos c1, if_pos (by omega), c1]
    · rw [if_neg c1]
      by_cases c2 : j < i
      · rw [if_pos c2, if_pos (by omega)]
      · rw [if_neg c2, if_neg (by omega)]
theorem sr_copyTrains (hΓ : Ok G κ mX8_copyTrains (d + 2) Q X) {t q p t2 q2 p2 a2 n2 : Nat} {tr tr2 : Nat → Nat} {S U K S2 U2 K2 : Nat → Int32} {T T2 : Nat → Nat → Int32} (h : RG G σ a t q p tr n S U K T) (hc : ∀ x, inR a t q p tr n x → c x = a) (h2 : RG G σ a2 t2 q2 p2 tr2 n2 S2 U2 K2 T2) (hct : ∀ j, j < n2 → c (tr2 j) ≠ a) (hct2 : c t2 ≠ a) (hq : ∀ (σ1 : Hp) (c1 : Nat → Nat) (t1 q1 p1 : Nat) (tr1 : Nat → Nat), RG G σ1 a t1 q1 p1 tr1 n2 S U K T2 → (∀ x, inR a t1 q1 p1 tr1 n2 x → c1 x = a) → KF (fun x => x = a) σ c σ1 c1 → Q none σ1) : AW G κ (cs + 7) (ss + 96) 0 [lR a, lR t2, none] [] σ := by
  have hca : c a = a := hc a (Or.inl rfl)
  have hn6 := h.n6
  have hm6 := h2.n6
  suffices copies : ∀ (t q p : Nat) (tr : Nat → Nat) (σ2 : Hp) (c2 : Nat → Nat) (T : Nat → Nat → Int32) (ob : Option LV), RG G σ2 a t q p tr n2 S U K T → (∀ x, inR a t q p tr n2 x → c2 x = a) → KF (fun x => x = a) σ c σ2 c2 → (∀ j, j < n2 → c2 (tr2 j) ≠ a) → c2 t2 ≠ a → AW G κ cs ss 49 [lR a, lR t2, ob] [] σ2 by
    suffices at49 : n = n2 → AW G κ cs ss 49 [lR a, lR t2, none] [] σ by
      suffices at10 : ¬ n = n2 → AW G κ (cs + 7) (ss + 96) 10 [lR a, lR t2, none] [] σ by
        refine sX8_copyTrains_0 hΓ rfl ?_
        refine sX8_copyTrains_1 hΓ h.o rfl ?_
        refine sX8_copyTrains_4q hΓ (Or.inr rfl) h.ts ?_
        refine sX8_copyTrains_5 hΓ rfl ?_
        refine sX8_copyTrains_6q hΓ (Or.inr rfl) h2.ts ?_
        refine sX8_copyTrains_7 hΓ (fun c7 => ?_) (fun c7 => ?_)
        · have e : n = n2 := (nI_eq (by omega) (by omega)).mp c7
          exact aw_less (Nat.le_add_right _ _) (Nat.le_add_right _ _) (at49 e)
        · have e : ¬ n = n2 := fun e9 => c7 (by rw [e9])
          exact at10 e
      intro hne
      refine aw_less (cs2 := cs + n2 + 1) (ss2 := ss + 15 * n2 + n2) (by omega) (by omega) ?_
      refine sX8_copyTrains_10 hΓ rfl ?_
      refine sX8_copyTrains_11 hΓ rfl ?_
      refine sX8_copyTrains_12q hΓ (Or.inr rfl) h2.ts ?_
      refine sX8_copyTrains_13 hΓ (n := n2) rfl (by omega) (fun b hb _ => ?_)
      have hba : b ≠ a := fun e => by rw [e, h.o] at hb; cases hb
      have hx0 : hset (hset σ b (eR G 2 n2 (fun _ => none))) a (.inr (6, sV S b q)) b = some (eR G 2 n2 (fun _ => none)) := by rw [hset_ne hba, hset_same]
      have k0 : ∀ x e, x ≠ a → σ x = some e → hset (hset σ b (eR G 2 n2 (fun _ => none))) a (.inr (6, sV S b q)) x = some e := fun x e hx he => by
        rw [hset_ne hx, hset_ne (fun e9 => by rw [e9, hb] at he; cases he)]; exact he
      have n0 : ∀ x, hset (hset σ b (eR G 2 n2 (fun _ => none))) a (.inr (6, sV S b q)) x = none → σ x = none ∧ x ≠ b := fun x hx => by
        have x1 : x ≠ a := fun e => by rw [e, hset_same] at hx; cases hx
        have x2 : x ≠ b := fun e => by rw [e, hx0] at hx; cases hx
        rw [hset_ne x1, hset_ne x2] at hx
        exact ⟨hx, x2⟩
      suffices loop : ∀ (m i : Nat) (u : Int32) (σ2 : Hp) (c2 : Nat → Nat) (y : Nat → Nat) (g : Nat → Option Nat), i + m = n2 → u = nI i → (∀ x e, x ≠ a → σ x = some e → σ2 x = some e) → σ2 a = some (.inr (6, sV S b q)) → σ2 b = some (eR G 2 n2 g) → (∀ j, j < i → g j = some (y j) ∧ σ2 (y j) = some (.inr (9, tV (fun _ => 0))) ∧ c2 (y j) = a) → (∀ j k, j < i → k < i → y j = y k → j = k) → (∀ x e, σ x = some e → c2 x = c x) → c2 b = a → (∀ x, σ2 x = none → σ x = none ∧ x ≠ b) → AW G κ (cs + m) (ss + 15 * m) 21 [lR a, lR t2, lI u] [] σ2 by
        refine sX8_copyTrains_16 hΓ ((LE.rf.set hb) _ _ h.o) (Nat.le_of_ble_eq_true rfl) ?_
        refine sX8_copyTrains_19 hΓ ?_
        refine sX8_copyTrains_20 hΓ ?_
        exact loop n2 0 _ _ (colN c b a) (fun _ => 0) _ (Nat.zero_add n2) rfl k0 (hset_same _ _ _) hx0 (fun j hj => absurd hj (Nat.not_lt_zero j)) (fun j k hj => absurd hj (Nat.not_lt_zero j)) (fun x e hx => colN_k hb hx) colN_s n0
      intro m
      induction m with
      | zero =>
        intro i u σ2 c2 y g hi hu k2 ha hx hy hinj hc2 hcb hnn
        have ei : i = n2 := by omega
        subst ei
        refine sX8_copyTrains_21 hΓ rfl ?_
        refine sX8_copyTrains_22 hΓ rfl ?_
        refine sX8_copyTrains_23 hΓ ha rfl ?_
        refine sX8_copyTrains_26q hΓ (Or.inr rfl) hx ?_
        refine sX8_copyTrains_27 hΓ (fun c27 => ?_) (fun c27 => absurd (lp_out hu rfl (by omega) (by omega)) c27)
        refine aw_eR (fun j => some (y j)) hx (fun j hj => (hy j hj).1) ?_
        have hyb : ∀ j, j < i → y j ≠ b := fun j hj => oa_ne (hy j hj).2.1 hx
        have hba2 : a ≠ b := Ne.symm hba
        have hqa : q ≠ a := obj_ne h.qg.1 h.1 (by decide)
        have hpa : p ≠ a := Ne.symm (oa_ne h.1 h.qg.2)
        have hqb : q ≠ b := fun e => by have h9 := h.qg.1; rw [e, hb] at h9; cases h9
        have hpb : p ≠ b := fun e => by have h9 := h.qg.2; rw [e, hb] at h9; cases h9
        have hcr : ∀ x, inR a b q p y i x → c2 x = a := fun z hz => by
          rcases hz with e | e | e | e | ⟨j, hj, e⟩
          · rw [e, hc2 a _ h.o]; exact hca
          · rw [e]; exact hcb
          · rw [e, hc2 q _ h.qg.1]; exact hc q (Or.inr (Or.inr (Or.inl rfl)))
          · rw [e, hc2 p _ h.qg.2]; exact hc p (Or.inr (Or.inr (Or.inr (Or.inl rfl))))
          · rw [e]; exact (hy j hj).2.2
        have kx : ∀ x e, x ≠ a → σ x = some e → hset σ2 b (eR G 2 i (fun j => some (y j))) x = some e := fun x e hxa he => by
          rw [hset_ne (fun e9 => by rw [e9, hb] at he; cases he)]; exact k2 x e hxa he
        have hra : hset σ2 b (eR G 2 i (fun j => some (y j))) a = some (.inr (6, sV S b q)) := by rw [hset_ne hba2]; exact ha
        refine copies b q p y _ c2 (fun _ _ => 0) _ ⟨hra, hset_same _ _ _, fun j hj => ?_, ⟨kx q _ hqa h.qg.1, kx p _ hpa h.qg.2⟩, hinj, hm6⟩ hcr ?_ (fun j hj => ?_) ?_
        · rw [hset_ne (hyb j hj)]; exact (hy j hj).2.1
        · intro z e hz
          refine ⟨hc2 z e hz, fun hza => kx z e (fun e9 => hza (by rw [e9]; exact hca)) hz, ?_⟩
          by_cases e9 : z = a
          · rw [e9]; exact ⟨_, hra⟩
          · exact ⟨e, kx z e e9 hz⟩
        · rw [hc2 _ _ (h2.tn hj)]; exact hct j hj
        · rw [hc2 _ _ h2.ts]; exact hct2
      | succ m ih =>
        intro i u σ2 c2 y g hi hu k2 ha hx hy hinj hc2 hcb hnn
        have hin : i < n2 := by omega
        refine aw_less (cs2 := cs + m + 1) (ss2 := ss + 15 * m + 15) (by omega) (by omega) ?_
        refine sX8_copyTrains_21 hΓ rfl ?_
        refine sX8_copyTrains_22 hΓ rfl ?_
        refine sX8_copyTrains_23 hΓ ha rfl ?_
        refine sX8_copyTrains_26q hΓ (Or.inr rfl) hx ?_
        refine sX8_copyTrains_27 hΓ (fun c27 => absurd c27 (lp_in hu rfl hin (by omega))) (fun c27 => ?_)
        refine sX8_copyTrains_30 hΓ rfl ?_
        refine sX8_copyTrains_31 hΓ ha rfl ?_
        refine sX8_copyTrains_34 hΓ rfl ?_
        refine sX8_copyTrains_35 hΓ (fun y1 hy1 _ => ?_)
        have hyb : y1 ≠ b := (hnn y1 hy1).2
        have hyn : σ y1 = none := (hnn y1 hy1).1
        have hya : y1 ≠ a := fun e => by rw [e, h.o] at hyn; cases hyn
        have hyj : ∀ j, j < i → y j ≠ y1 := fun j hj e => by have h9 := (hy j hj).2.1; rw [e, hy1] at h9; cases h9
        refine sX8_copyTrains_38 hΓ ?_
        refine sX8_copyTrains_39 hΓ 0 0 (Nat.le_of_ble_eq_true rfl) (fun κ_39 hΓ_39 => st_tInit hΓ_39 ?_)
        show AW G κ _ _ 42 _ _ _
        refine sX8_copyTrains_42_2 hΓ ((LE.rf.set hy1) _ _ hx) (hset_same _ _ _) hu hin (by omega) ?_
        refine sX8_copyTrains_43 hΓ rfl ?_
        refine sX8_copyTrains_46 hΓ ?_
        have hyjb : ∀ j, j < i → y j ≠ b := fun j hj => oa_ne (hy j hj).2.1 hx
        refine ih (i + 1) _ _ (colN c2 y1 a) (fun j => if j = i then y1 else y j) _ (by omega) (lp_1 hu) (fun x e hxa he => ?_) ?_ (hset_same _ _ _) (fun j hj => ?_) (fun j k hj hk e => ?_) (fun x e he => ?_) ?_ (fun x hx1 => ?_)
        · rw [hset_ne (fun e9 => by rw [e9, hb] at he; cases he), hset_ne (fun e9 => by rw [e9, hyn] at he; cases he)]
          exact k2 x e hxa he
        · rw [hset_ne (Ne.symm hba), hset_ne (Ne.symm hya)]; exact ha
        · show va_up g i (some y1) j = some (if j = i then y1 else y j) ∧ hset (hset σ2 y1 _) b _ (if j = i then y1 else y j) = _ ∧ colN c2 y1 a (if j = i then y1 else y j) = a
          by_cases e : j = i
          · rw [if_pos e, hset_ne hyb, hset_same]
            refine ⟨?_, rfl, colN_s⟩
            unfold va_up
            rw [if_pos e]
          · obtain ⟨e1, e2, e3⟩ := hy j (by omega)
            rw [if_neg e, hset_ne (hyjb j (by omega)), hset_ne (hyj j (by omega))]
            refine ⟨?_, e2, colN_o e3⟩
            unfold va_up
            rw [if_neg e]
            exact e1
        · have e : (if j = i then y1 else y j) = (if k = i then y1 else y k) := e
          by_cases c1 : j = i
          · by_cases c2 : k = i
            · rw [c1, c2]
            · rw [if_pos c1, if_neg c2] at e; exact absurd e.symm (hyj k (by omega))
          · by_cases c2 : k = i
            · rw [if_neg c1, if_pos c2] at e; exact absurd e (hyj j (by omega))
            · rw [if_neg c1, if_neg c2] at e; exact hinj j k (by omega) (by omega) e
        · rw [colN_k hyn he]; exact hc2 x e he
        · exact colN_o hcb
        · by_cases e1 : x = b
          · rw [e1, hset_same] at hx1; cases hx1
          · rw [hset_ne e1] at hx1
            by_cases e2 : x = y1
            · rw [e2, hset_same] at hx1; cases hx1
            · rw [hset_ne e2] at hx1; exact ⟨(hnn x hx1).1, e1⟩
    intro e
    subst e
    exact copies t q p tr σ c T _ h hc KF.rf hct hct2
  intro t q p tr σ2 c2 T ob h3 hc3 f3 ht2 htt
  suffices loop : ∀ (m i : Nat) (u : Int32) (σ4 : Hp) (T4 : Nat → Nat → Int32), i + m = n2 → u = nI i → RG G σ4 a t q p tr n2 S U K T4 → KF (fun x => x = a) σ2 c2 σ4 c2 → (∀ j, j < i → T4 j = T2 j) → AW G κ cs ss 51 [lR a, lR t2, lI u] [] σ4 by
    refine sX8_copyTrains_49 hΓ ?_
    refine sX8_copyTrains_50 hΓ ?_
    exact loop n2 0 _ _ T (Nat.zero_add n2) rfl h3 KF.rf (fun j hj => absurd hj (Nat.not_lt_zero j))
  intro m
  induction m with
  | zero =>
    intro i u σ4 T4 hi hu h4 f4 e4
    have ei : i = n2 := by omega
    subst ei
    have h5 : RG G σ4 a t q p tr i S U K T2 := ⟨h4.1, h4.2.1, fun j hj => by rw [← e4 j hj]; exact h4.tn hj, h4.2.2.2⟩
    refine sX8_copyTrains_51 hΓ rfl ?_
    refine sX8_copyTrains_52 hΓ rfl ?_
    refine sX8_copyTrains_53 hΓ h4.o rfl ?_
    refine sX8_copyTrains_56q hΓ (Or.inr rfl) h4.ts ?_
    refine sX8_copyTrains_57 hΓ (fun c57 => ?_) (fun c57 => absurd (lp_out hu rfl (by omega) (by omega)) c57)
    exact sX8_copyTrains_84 hΓ (hq _ _ t q p tr h5 hc3 (f3.tr f4))
  | succ m ih =>
    intro i u σ4 T4 hi hu h4 f4 e4
    have hin : i < n2 := by omega
    have g4 := f3.tr f4
    have ho : σ4 t2 = some (eR G 2 n2 (fun j => some (tr2 j))) := (g4 t2 _ h2.ts).2.1 hct2
    have hot : ∀ j, j < n2 → σ4 (tr2 j) = some (.inr (9, tV (T2 j))) := fun j hj => (g4 _ _ (h2.tn hj)).2.1 (hct j hj)
    have hne : tr2 i ≠ tr i := fun e => ht2 i hin (by rw [e]; exact hc3 _ (Or.inr (Or.inr (Or.inr (Or.inr ⟨i, hin, rfl⟩)))))
    refine sX8_copyTrains_51 hΓ rfl ?_
    refine sX8_copyTrains_52 hΓ rfl ?_
    refine sX8_copyTrains_53 hΓ h4.o rfl ?_
    refine sX8_copyTrains_56q hΓ (Or.inr rfl) h4.ts ?_
    refine sX8_copyTrains_57 hΓ (fun c57 => absurd c57 (lp_in hu rfl hin (by omega))) (fun c57 => ?_)
    refine sX8_copyTrains_60 hΓ rfl ?_
    refine sX8_copyTrains_61 hΓ rfl ?_
    refine sX8_copyTrains_62q hΓ (Or.inr rfl) ho ?_
    refine sX8_copyTrains_63 hΓ (fun c63 => absurd c63 (lp_in hu rfl hin (by omega))) (fun c63 => ?_)
    refine sX8_copyTrains_66 hΓ rfl ?_
    refine sX8_copyTrains_67 hΓ h4.o rfl ?_
    refine sX8_copyTrains_70 hΓ rfl ?_
    refine sX8_copyTrains_71 hΓ (Or.inr rfl) h4.ts hu hin (by omega) ?_
    refine sX8_copyTrains_72 hΓ rfl ?_
    refine sX8_copyTrains_73 hΓ rfl ?_
    refine sX8_copyTrains_74 hΓ (Or.inr rfl) ho hu hin (by omega) ?_
    refine sX8_copyTrains_75 hΓ 0 0 (Nat.le_of_ble_eq_true rfl) (h4.tn hin) (fun κ_75 hΓ_75 => st_copyFrom hΓ_75 (h4.tn hin) hne (hot i hin) ?_)
    show AW G κ _ _ 78 _ _ _
    refine rg_T h4 hin (T2 i) rfl (fun σ5 h5 f5 => ?_)
    show AW G κ _ _ 78 _ _ _
    refine sX8_copyTrains_78 hΓ rfl ?_
    refine sX8_copyTrains_81 hΓ ?_
    refine ih (i + 1) _ _ (updT T4 i (T2 i)) (by omega) (lp_1 hu) h5 (f4.tr (KF.cf hc3 rfl h5 f5)) (fun j hj => ?_)
    by_cases e : j = i
    · rw [e, updT_same]
    · rw [updT_ne e]; exact e4 j (by omega)
theorem sy_copyFrom (hΓ : Ok G κ mX8_copyFrom (d + 3) Q X) (h : RY G σ c a n C) {b m : Nat} {B : Ct} (h2 : RY G σ c b m B) (hab : b ≠ a) (hq : ∀ (σ1 : Hp) (c1 : Nat → Nat), RY G σ1 c1 a m (cCpy C B) → KF (fun x => x = a) σ c σ1 c1 → Q none σ1) : AW G κ (cs + 7) (ss + 96) 0 [lR a, lR b] [] σ := by
  obtain ⟨t, q, p, tr, h, hc⟩ := h
  obtain ⟨t2, q2, p2, tr2, hB, hc2⟩ := h2
  have hn : ∀ x, inR b t2 q2 p2 tr2 m x → ¬ inR a t q p tr n x := fun x hx hx2 => hab ((hc2 x hx).symm.trans (hc x hx2))
  have nb : ¬ inR a t q p tr n b := hn b (Or.inl rfl)
  refine sX8_copyFrom_0 hΓ rfl ?_
  refine sX8_copyFrom_1 hΓ rfl ?_
  refine sX8_copyFrom_2 hΓ ((CF.rf b nb).trans hB.o) rfl ?_
  refine sX8_copyFrom_5 hΓ h.o  (Nat.le_of_ble_eq_true rfl) (rg_S h ((upd C.1 0 (B.1 0))) rfl (fun σ1 h1 f1 => ?_))
  refine sX8_copyFrom_8 hΓ rfl ?_
  refine sX8_copyFrom_9 hΓ rfl ?_
  refine sX8_copyFrom_10 hΓ (((CF.rf.tr f1) b nb).trans hB.o) rfl ?_
  refine sX8_copyFrom_13 hΓ h1.o  (Nat.le_of_ble_eq_true rfl) (rg_S h1 ((upd (upd C.1 0 (B.1 0)) 1 (B.1 1))) rfl (fun σ2 h2 f2 => ?_))
  refine sX8_copyFrom_16 hΓ rfl ?_
  refine sX8_copyFrom_17 hΓ rfl ?_
  refine sX8_copyFrom_18 hΓ ((((CF.rf.tr f1).tr f2) b nb).trans hB.o) rfl ?_
  refine sX8_copyFrom_21 hΓ h2.o  (Nat.le_of_ble_eq_true rfl) (rg_S h2 ((upd (upd (upd C.1 0 (B.1 0)) 1 (B.1 1)) 2 (B.1 2))) rfl (fun σ3 h3 f3 => ?_))
  refine sX8_copyFrom_24 hΓ rfl ?_
  refine sX8_copyFrom_25 hΓ rfl ?_
  refine sX8_copyFrom_26 hΓ (((((CF.rf.tr f1).tr f2).tr f3) b nb).trans hB.o) rfl ?_
  refine sX8_copyFrom_29 hΓ h3.o  (Nat.le_of_ble_eq_true rfl) (rg_S h3 ((upd (upd (upd (upd C.1 0 (B.1 0)) 1 (B.1 1)) 2 (B.1 2)) 3 (B.1 3))) rfl (fun σ4 h4 f4 => ?_))
  refine sX8_copyFrom_32 hΓ rfl ?_
  refine sX8_copyFrom_33 hΓ rfl ?_
  refine sX8_copyFrom_34 hΓ ((((((CF.rf.tr f1).tr f2).tr f3).tr f4) b nb).trans hB.o) rfl ?_
  refine sX8_copyFrom_37 hΓ h4.o  (Nat.le_of_ble_eq_true rfl) (rg_S h4 ((upd (upd (upd (upd (upd C.1 0 (B.1 0)) 1 (B.1 1)) 2 (B.1 2)) 3 (B.1 3)) 4 (B.1 4))) rfl (fun σ5 h5 f5 => ?_))
  refine sX8_copyFrom_40 hΓ rfl ?_
  refine sX8_copyFrom_41 hΓ rfl ?_
  refine sX8_copyFrom_42 hΓ (((((((CF.rf.tr f1).tr f2).tr f3).tr f4).tr f5) b nb).trans hB.o) rfl ?_
  refine sX8_copyFrom_45 hΓ h5.o  (Nat.le_of_ble_eq_true rfl) (rg_S h5 ((upd (upd (upd (upd (upd (upd C.1 0 (B.1 0)) 1 (B.1 1)) 2 (B.1 2)) 3 (B.1 3)) 4 (B.1 4)) 5 (B.1 5))) rfl (fun σ6 h6 f6 => ?_))
  refine sX8_copyFrom_48 hΓ rfl ?_
  refine sX8_copyFrom_49 hΓ rfl ?_
  refine sX8_copyFrom_50 hΓ ((((((((CF.rf.tr f1).tr f2).tr f3).tr f4).tr f5).tr f6) b nb).trans hB.o) rfl ?_
  refine sX8_copyFrom_53 hΓ h6.o  (Nat.le_of_ble_eq_true rfl) (rg_S h6 ((upd (upd (upd (upd (upd (upd (upd C.1 0 (B.1 0)) 1 (B.1 1)) 2 (B.1 2)) 3 (B.1 3)) 4 (B.1 4)) 5 (B.1 5)) 6 (B.1 6))) rfl (fun σ7 h7 f7 => ?_))
  refine sX8_copyFrom_56 hΓ rfl ?_
  refine sX8_copyFrom_57 hΓ rfl ?_
  refine sX8_copyFrom_58 hΓ (((((((((CF.rf.tr f1).tr f2).tr f3).tr f4).tr f5).tr f6).tr f7) b nb).trans hB.o) rfl ?_
  have k7 := h7
  have f7 := (((((((CF.rf.tr f1).tr f2).tr f3).tr f4).tr f5).tr f6).tr f7)
  have g7 : RG G _ b t2 q2 p2 tr2 m B.1 B.2.1 B.2.2.1 B.2.2.2 := ⟨(f7 _ (hn _ (Or.inl rfl))).trans hB.1, (f7 _ (hn _ (Or.inr (Or.inl rfl)))).trans hB.2.1, fun j hj => (f7 _ (hn _ (Or.inr (Or.inr (Or.inr (Or.inr ⟨j, hj, rfl⟩)))))).trans (hB.tn hj), ⟨(f7 _ (hn _ (Or.inr (Or.inr (Or.inl rfl))))).trans hB.qg.1, (f7 _ (hn _ (Or.inr (Or.inr (Or.inr (Or.inl rfl)))))).trans hB.qg.2⟩, hB.2.2.2.2⟩
  have z7 : KF (fun x => x = a) σ c _ c := KF.cf hc rfl k7 f7
  refine sX8_copyFrom_61 hΓ 7 96 (Nat.le_of_ble_eq_true rfl) k7.o (fun κ_61 hΓ_61 => sr_copyTrains (cs := 0) (ss := 0) hΓ_61 k7 hc g7 (fun j hj => fun e => hab ((hc2 _ (Or.inr (Or.inr (Or.inr (Or.inr ⟨j, hj, rfl⟩))))).symm.trans e)) (fun e => hab ((hc2 _ (Or.inr (Or.inl rfl))).symm.trans e)) (fun σ9 c9 t9 q9 p9 tr9 h9 hc9 f9 => ?_))
  show AW G κ _ _ 64 _ _ _
  have hb9 : ∀ x e, inR b t2 q2 p2 tr2 m x → σ x = some e → σ9 x = some e := fun x e hx he => ((z7.tr f9) x e he).2.1 (fun e9 => hab ((hc2 x hx).symm.trans e9))
  have hcb9 : ∀ x e, inR b t2 q2 p2 tr2 m x → σ x = some e → c9 x = b := fun x e hx he => ((z7.tr f9) x e he).1.trans (hc2 x hx)
  have h29 : QG G σ9 q2 p2 B.2.1 B.2.2.1 := ⟨hb9 _ _ (Or.inr (Or.inr (Or.inl rfl))) hB.qg.1, hb9 _ _ (Or.inr (Or.inr (Or.inr (Or.inl rfl)))) hB.qg.2⟩
  have hqq : q2 ≠ q9 ∧ p2 ≠ p9 := ⟨fun e => hab ((hcb9 _ _ (Or.inr (Or.inr (Or.inl rfl))) hB.qg.1).symm.trans (hc9 _ (Or.inr (Or.inr (Or.inl e))))), fun e => hab ((hcb9 _ _ (Or.inr (Or.inr (Or.inr (Or.inl rfl)))) hB.qg.2).symm.trans (hc9 _ (Or.inr (Or.inr (Or.inr (Or.inl e))))))⟩
  refine sX8_copyFrom_64 hΓ rfl ?_
  refine sX8_copyFrom_65 hΓ h9.o rfl ?_
  refine sX8_copyFrom_68 hΓ rfl ?_
  refine sX8_copyFrom_69 hΓ (hb9 _ _ (Or.inl rfl) hB.o) rfl ?_
  refine sX8_copyFrom_72 hΓ 0 0 (Nat.le_of_ble_eq_true rfl) h9.qg.o (fun κ_72 hΓ_72 => su_copyFrom hΓ_72 h9.qg h29 hqq (rg_q h9 (fun σ51 h51 f51 => ?_)))
  show AW G κ _ _ 75 _ _ _
  exact sX8_copyFrom_75 hΓ (hq _ _ ⟨_, _, _, _, h51, hc9⟩ ((z7.tr f9).tr (KF.cf hc9 rfl h51 (CF.rf.tr f51))))
theorem su_init (hΓ : Ok G κ mX6_init (d + 1) Q X) {q : Nat} (h : σ q = some (.inr (4, [.null, .int 0, .int 0, .int 0, .int 0]))) (hq : ∀ (σ1 : Hp) (p : Nat), QG G σ1 q p (fun _ => 0) (fun _ => 0) → σ p = none → (∀ x, x ≠ q → x ≠ p → σ1 x = σ x) → Q none σ1) : AW G κ (cs + 1) (ss + 12) 0 [lR q] [] σ := by
  refine sX6_init_0 hΓ rfl ?_
  refine sX6_init_1 hΓ (Nat.le_of_ble_eq_true rfl) ?_
  refine sX6_init_4 hΓ rfl ?_
  refine sX6_init_5 hΓ ?_
  refine sX6_init_7 hΓ (n := 12) rfl (by decide) (fun p hp _ => ?_)
  refine sX6_init_9 hΓ ((LE.rf.set hp) _ _ h) (Nat.le_of_ble_eq_true rfl) ?_
  have hqp : p ≠ q := fun e => by rw [e, h] at hp; cases hp
  refine sX6_init_12 hΓ (hq _ p ⟨hset_same _ _ _, ?_⟩ hp (fun x h1 h2 => ?_))
  · rw [hset_ne hqp, hset_same]
  · rw [hset_ne h1, hset_ne h2]
theorem sy_init (hΓ : Ok G κ mX8_init (d + 2) Q X) (h : σ a = some (.inr (6, [.int 0, .int 0, .int 0, .int 0, .int 0, .int 0, .int 0, .null, .null]))) (hc : c a = a) (hq : ∀ (σ1 : Hp) (c1 : Nat → Nat), RY G σ1 c1 a 0 cZero → KA a σ c σ1 c1 → Q none σ1) : AW G κ (cs + 3) (ss + 17) 0 [lR a] [] σ := by
  refine sX8_init_0 hΓ rfl ?_
  refine sX8_init_1 hΓ (Nat.le_of_ble_eq_true rfl) ?_
  refine sX8_init_4 hΓ rfl ?_
  refine sX8_init_5 hΓ ?_
  refine sX8_init_6 hΓ (cs := cs + 2) (n := 0) rfl (by decide) (fun t ht _ => ?_)
  have hta : t ≠ a := fun e => by rw [e, h] at ht; cases ht
  refine sX8_init_9 hΓ ((LE.rf.set ht) _ _ h) (Nat.le_of_ble_eq_true rfl) ?_
  refine sX8_init_12 hΓ rfl ?_
  refine sX8_init_13 hΓ (cs := cs + 1) (ss := ss + 12) (fun q hq1 _ => ?_)
  have hqa : q ≠ a := fun e => by rw [e, hset_same] at hq1; cases hq1
  have hqt : q ≠ t := fun e => by rw [e, hset_ne hta, hset_same] at hq1; cases hq1
  have hqn : σ q = none := by rw [hset_ne hqa, hset_ne hqt] at hq1; exact hq1
  refine sX8_init_16 hΓ ?_
  refine sX8_init_17 hΓ 1 12 (Nat.le_of_ble_eq_true rfl) (fun κ_17 hΓ_17 => su_init (cs := 0) (ss := 0) hΓ_17 (hset_same _ _ _) (fun σ5 p h5 hp f5 => ?_))
  show AW G κ _ _ 20 _ _ _
  have hpq : p ≠ q := Ne.symm h5.ne
  have hpn0 : hset (hset σ t (eR G 2 0 (fun _ => none))) a (.inr (6, [.int 0, .int 0, .int 0, .int 0, .int 0, .int 0, .int 0, .ref t, .null])) p = none := by rw [hset_ne hpq] at hp; exact hp
  have hpa : p ≠ a := fun e => by rw [e, hset_same] at hpn0; cases hpn0
  have hpt : p ≠ t := fun e => by rw [e, hset_ne hta, hset_same] at hpn0; cases hpn0
  have hpn : σ p = none := by rw [hset_ne hpa, hset_ne hpt] at hpn0; exact hpn0
  have e5 : ∀ x, x ≠ q → x ≠ p → σ5 x = hset (hset σ t (eR G 2 0 (fun _ => none))) a (.inr (6, [.int 0, .int 0, .int 0, .int 0, .int 0, .int 0, .int 0, .ref t, .null])) x := fun x h1 h2 => (f5 x h1 h2).trans (hset_ne h1)
  have h5a : σ5 a = some (.inr (6, [.int 0, .int 0, .int 0, .int 0, .int 0, .int 0, .int 0, .ref t, .null])) := (e5 a (Ne.symm hqa) (Ne.symm hpa)).trans (hset_same _ _ _)
  have h5t : σ5 t = some (eR G 2 0 (fun _ => none)) := by rw [e5 t (Ne.symm hqt) (Ne.symm hpt), hset_ne hta, hset_same]
  refine sX8_init_20 hΓ h5a (Nat.le_of_ble_eq_true rfl) ?_
  refine aw_eR (a := t) (fun j => some j) (by rw [hset_ne hta]; exact h5t) (fun j hj => absurd hj (Nat.not_lt_zero j)) ?_
  refine sX8_init_23 hΓ (hq _ (colN (colN (colN c t a) q a) p a) ⟨t, q, p, fun j => j, ⟨?_, hset_same _ _ _, fun j hj => absurd hj (Nat.not_lt_zero j), ⟨?_, ?_⟩, fun i j hi => absurd hi (Nat.not_lt_zero i), Nat.zero_le 6⟩, fun z hz => ?_⟩ (fun z e hz => ?_))
  · rw [hset_ne (Ne.symm hta), hset_same]; rfl
  · rw [hset_ne hqt, hset_ne hqa]; exact h5.1
  · rw [hset_ne hpt, hset_ne hpa]; exact h5.2
  · rcases hz with e | e | e | e | ⟨j, hj, e⟩
    · rw [e]; exact colN_o (colN_o (colN_o hc))
    · rw [e]; exact colN_o (colN_o colN_s)
    · rw [e]; exact colN_o colN_s
    · rw [e]; exact colN_s
    · exact absurd hj (Nat.not_lt_zero j)
  · have z1 : z ≠ t := fun e9 => by rw [e9, ht] at hz; cases hz
    have z2 : z ≠ q := fun e9 => by rw [e9, hqn] at hz; cases hz
    have z3 : z ≠ p := fun e9 => by rw [e9, hpn] at hz; cases hz
    refine ⟨by rw [colN_n z3, colN_n z2, colN_n z1], fun z4 => ?_, ?_⟩
    · rw [hset_ne z1, hset_ne z4, e5 z z2 z3, hset_ne z4, hset_ne z1]; exact hz
    · by_cases z4 : z = a
      · rw [z4, hset_ne (Ne.symm hta), hset_same]; exact ⟨_, rfl⟩
      · rw [hset_ne z1, hset_ne z4, e5 z z2 z3, hset_ne z4, hset_ne z1]; exact ⟨e, hz⟩
end ClassMake
