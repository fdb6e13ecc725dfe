/-! the law: what it holds; its small methods -/
section LawState
variable {G : Gl} {κ : Kx} {d : Nat} {Q : Option Value → Hp → Prop} {X : String → Hp → Prop} {cs ss pc : Nat} {σ σ1 : Hp} {c c1 A : Nat → Nat} {x am : Nat} {z z1 : Nat → Int32} {B B1 : Nat → Nat → Int32} {F F1 : Hp}
/-- the law's own cells -/
def OW (σ : Hp) (c : Nat → Nat) (am : Nat) (F : Hp) : Prop := ∀ y e, F y = some e → σ y = some e ∧ c y = am
def LwS (G : Gl) (σ : Hp) (c : Nat → Nat) (x am : Nat) (A : Nat → Nat) (z : Nat → Int32) (B : Nat → Nat → Int32) (F : Hp) : Prop := RLx G σ c x A am z B ∧ OW σ c am F
theorem LwS.cls (h : LwS G σ c x am A z B F) (hR : RLx G σ1 c1 x A am z1 B1) (f : KF (NA am) σ c σ1 c1) : LwS G σ1 c1 x am A z1 B1 F := ⟨hR, fun y e hy => by
  obtain ⟨h1, h2⟩ := h.2 y e hy
  obtain ⟨g1, g2, -⟩ := f y e h1
  exact ⟨g2 (fun e9 => e9 h2), g1.trans h2⟩⟩
theorem LwS.new (h : LwS G σ c x am A z B F) {q : Nat} (hq : σ q = none) (e : va_E) : LwS G (hset σ q e) (colN c q am) x am A z B (hset F q e) := ⟨h.1.keep (KF.new hq), fun y e1 hy => by
  by_cases e9 : y = q
  · subst e9
    rw [hset_same] at hy
    cases hy
    exact ⟨hset_same _ _ _, if_pos rfl⟩
  · rw [hset_ne e9] at hy
    obtain ⟨h1, h2⟩ := h.2 y e1 hy
    exact ⟨(hset_ne e9).trans h1, (if_neg e9).trans h2⟩⟩
theorem LwS.put (h : LwS G σ c x am A z B F) {a : Nat} {e0 : va_E} (ha : F a = some e0) (e : va_E) : LwS G (hset σ a e) c x am A z B (hset F a e) := ⟨h.1.keep (KF.set (h.2 a e0 ha).1 (h.2 a e0 ha).2), fun y e1 hy => by
  by_cases e9 : y = a
  · subst e9
    rw [hset_same] at hy
    cases hy
    exact ⟨hset_same _ _ _, (h.2 y e0 ha).2⟩
  · rw [hset_ne e9] at hy
    obtain ⟨h1, h2⟩ := h.2 y e1 hy
    exact ⟨(hset_ne e9).trans h1, h2⟩⟩
theorem LwS.less (h : LwS G σ c x am A z B F) (hF : ∀ y e, F1 y = some e → F y = some e) : LwS G σ c x am A z B F1 := ⟨h.1, fun y e hy => h.2 y e (hF y e hy)⟩
theorem LwS.at (h : LwS G σ c x am A z B F) {a : Nat} {e : va_E} (ha : F a = some e) : σ a = some e := (h.2 a e ha).1
theorem LwS.own (h : LwS G σ c x am A z B F) {q : Nat} (hq : σ q = none) : F q = none := by
  cases h9 : F q with
  | none => rfl
  | some e => rw [(h.2 q e h9).1] at hq; cases hq
/-- what the code of texts has made is the law's -/
def extF (σ σ1 F : Hp) : Hp := fun y => match σ y with
  | none => σ1 y
  | some _ => F y
def extC (σ : Hp) (c : Nat → Nat) (am : Nat) : Nat → Nat := fun y => match σ y with
  | none => am
  | some _ => c y
theorem LwS.ext (h : LwS G σ c x am A z B F) (hext : ∀ y e, σ y = some e → σ1 y = some e) : LwS G σ1 (extC σ c am) x am A z B (extF σ σ1 F) := ⟨h.1.keep (KF.le hext (fun y e hy => by unfold extC; rw [hy])), fun y e hy => by
  unfold extF at hy
  unfold extC
  cases h9 : σ y with
  | none => rw [h9] at hy; exact ⟨hy, rfl⟩
  | some e9 =>
    rw [h9] at hy
    obtain ⟨h1, h2⟩ := h.2 y e hy
    exact ⟨hext y e h1, h2⟩⟩
theorem extF_new {y : Nat} (h : σ y = none) : extF σ σ1 F y = σ1 y := by unfold extF; rw [h]
theorem extF_old {y : Nat} {e : va_E} (h : LwS G σ c x am A z B F) (hy : F y = some e) : extF σ σ1 F y = some e := by
  unfold extF
  rw [(h.2 y e hy).1]
  exact hy
/-! most -/
def mo (v : Int32) (m : Nat) : Nat := v.toBitVec.toNat % 2 ^ 31 % m
theorem mo_lt (v : Int32) {m : Nat} (h : 0 < m) : mo v m < m := Nat.mod_lt _ h
theorem lm_most (hΓ : Ok G κ mL_most (d + 0) Q X) {v : Int32} {m : Nat} (h0 : 0 < m) (hm : m < 2 ^ 31) (hq : Q (some (.int (nI (mo v m)))) σ) : AW G κ cs ss 0 [lI v, lI (nI m)] [] σ := by
  have e1 : v &&& 2147483647 = nI (v.toBitVec.toNat % 2 ^ 31) := by
    obtain ⟨k, hk, e⟩ := nI_any v
    have hb := v.toBitVec.isLt
    have e2 : v = nI v.toBitVec.toNat := by
      apply Int32.toBitVec_inj.mp
      apply BitVec.eq_of_toNat_eq
      exact (pk_tn hb).symm
    have h9 := pk_andN (n := v.toBitVec.toNat) hb (m := 2147483647) 31 (by decide)
    rw [← e2] at h9
    exact h9
  refine sL_most_0 hΓ rfl ?_
  refine sL_most_1 hΓ ?_
  refine sL_most_3 hΓ ?_
  rw [e1]
  refine sL_most_4 hΓ rfl ?_
  refine sL_most_5 hΓ (nI_ne0 h0 hm) ?_
  rw [pk_rem (Nat.mod_lt _ (by decide)) h0 hm]
  exact sL_most_6 hΓ hq
/-! cell -/
def clF (G : Gl) (k : Nat) : Int32 := if k < gE G 3 then gF G k else 37 * nI k
theorem lm_cell (hΓ : Ok G κ mL_cell (d + 0) Q X) {k : Nat} (hN : gE G 3 ≤ 260) (hk : k < 2 ^ 31) (hq : Q (some (.int (clF G k))) σ) : AW G κ cs ss 0 [lR (gE G 2), lI (nI k)] [] σ := by
  refine sL_cell_0 hΓ rfl ?_
  refine sL_cell_1 hΓ rfl ?_
  refine aw_tlen hΓ (t := gE G 2) (N := gE G 3) (f := fun j => .int (gF G j)) (fun _ _ h => h.2.2.2.2.2.1) dL_cell_2 ?_
  by_cases e : k < gE G 3
  · refine sL_cell_3 hΓ (fun c9 => absurd c9 (nI_ge e (by omega))) (fun _ => ?_)
    refine sL_cell_6 hΓ rfl ?_
    refine sL_cell_7 hΓ rfl ?_
    refine aw_ti hΓ (t := gE G 2) (N := gE G 3) (f := fun j => .int (gF G j)) (fun _ _ h => h.2.2.2.2.2.1) rfl e (by omega) dL_cell_8 ?_
    refine sL_cell_9 hΓ ?_
    rw [clF, if_pos e] at hq
    exact sL_cell_16 hΓ hq
  · refine sL_cell_3 hΓ (fun _ => ?_) (fun c9 => absurd (nI_le (Nat.le_of_not_lt e) hk) c9)
    refine sL_cell_12 hΓ ?_
    refine sL_cell_14 hΓ rfl ?_
    refine sL_cell_15 hΓ ?_
    rw [clF, if_neg e] at hq
    exact sL_cell_16 hΓ hq
/-! alike: two arrays of the same numbers -/
theorem lm_alike (hΓ : Ok G κ mL_alike (d + 0) Q X) {a b m : Nat} {f : Nat → Int32} (ha : σ a = some (eI G m f)) (hb : σ b = some (eI G m f)) (hm : m < 2 ^ 31) (hq : Q (some (.int 1)) σ) : AW G κ cs ss 0 [lR a, lR b, none] [] σ := by
  have loop : ∀ j k, k + j = m → AW G κ cs ss 11 [lR a, lR b, lI (nI k)] [] σ := by
    intro j
    induction j with
    | zero =>
      intro k hk
      refine sL_alike_11 hΓ rfl ?_
      refine sL_alike_12 hΓ rfl ?_
      refine sL_alike_13 hΓ ha ?_
      refine sL_alike_14 hΓ (fun _ => ?_) (fun c9 => absurd (nI_le (by omega) (by omega)) c9)
      refine sL_alike_34 hΓ ?_
      exact sL_alike_35 hΓ (Or.inr rfl) hq
    | succ j ih =>
      intro k hk
      refine sL_alike_11 hΓ rfl ?_
      refine sL_alike_12 hΓ rfl ?_
      refine sL_alike_13 hΓ ha ?_
      refine sL_alike_14 hΓ (fun c9 => absurd c9 (nI_ge (by omega) hm)) (fun _ => ?_)
      refine sL_alike_17 hΓ rfl ?_
      refine sL_alike_18 hΓ rfl ?_
      refine sL_alike_19 hΓ ha rfl (by omega) hm ?_
      refine sL_alike_20 hΓ rfl ?_
      refine sL_alike_21 hΓ rfl ?_
      refine sL_alike_22 hΓ hb rfl (by omega) hm ?_
      refine sL_alike_23 hΓ (fun _ => ?_) (fun c9 => absurd rfl c9)
      refine sL_alike_28 hΓ rfl ?_
      refine sL_alike_31 hΓ ?_
      show AW G κ cs ss 11 [lR a, lR b, lI (nI k + 1)] [] σ
      rw [nI_1]
      exact ih (k + 1) (by omega)
  refine sL_alike_0 hΓ rfl ?_
  refine sL_alike_1 hΓ ha ?_
  refine sL_alike_2 hΓ rfl ?_
  refine sL_alike_3 hΓ hb ?_
  refine sL_alike_4 hΓ (fun _ => ?_) (fun c9 => absurd rfl c9)
  refine sL_alike_9 hΓ ?_
  refine sL_alike_10 hΓ ?_
  exact loop m 0 (Nat.zero_add m)
end LawState
