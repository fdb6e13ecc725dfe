/-! the reference's tick -/
def bI (b : Bool) : Int32 := if b = true then 1 else 0
theorem bI_01 (b : Bool) : bI b = 0 ∨ bI b = 1 := by cases b <;> first | exact Or.inl rfl | exact Or.inr rfl
theorem bI_0 {b : Bool} (h : bI b = 0) : b = false := by cases b with | false => rfl | true => exact absurd h (by decide)
theorem bI_n0 {b : Bool} (h : ¬ bI b = 0) : b = true := by cases b with | true => rfl | false => exact absurd rfl h
def iMin (a b : Int32) : Int32 := if a < b then a else b
def iMax (a b : Int32) : Int32 := if b < a then a else b
theorem upd_same (f : Nat → Int32) (k : Nat) (x : Int32) : upd f k x k = x := if_pos rfl
theorem upd_ne {f : Nat → Int32} {k j : Nat} {x : Int32} (h : j ≠ k) : upd f k x j = f j := if_neg h
/-- a row whose numbers that serve as places are in their ranges: n trains, s sections -/
def RW (ρ : Nat → Int32) (n s : Nat) : Prop :=
  ρ 3 = nI n ∧ n ≤ 6 ∧ ρ 1 = nI s ∧ 4 ≤ s ∧ s ≤ 24 ∧ (∀ k, k < n → ∃ j, j < s ∧ ρ (58 + 15 * k + 3) = nI j) ∧ (∀ k, k < n → ¬ ρ (58 + 15 * k + 2) = 0)
theorem RW.put {ρ : Nat → Int32} {n s : Nat} (h : RW ρ n s) {i : Nat} {v : Int32} (h1 : i ≠ 1) (h3 : i ≠ 3) (ht : ∀ k, k < 6 → i ≠ 58 + 15 * k + 3 ∧ i ≠ 58 + 15 * k + 2) : RW (upd ρ i v) n s := by
  obtain ⟨a1, a2, a3, a4, a5, a6, a7⟩ := h
  refine ⟨by rw [upd_ne (Ne.symm h3)]; exact a1, a2, by rw [upd_ne (Ne.symm h1)]; exact a3, a4, a5, fun k hk => ?_, fun k hk => ?_⟩
  · rw [upd_ne (Ne.symm (ht k (by omega)).1)]; exact a6 k hk
  · rw [upd_ne (Ne.symm (ht k (by omega)).2)]; exact a7 k hk
theorem RW.seg {ρ : Nat → Int32} {n s : Nat} (h : RW ρ n s) {k w : Nat} {v : Int32} (hw : w < 15) (h3 : w ≠ 3) (h2 : w ≠ 2) : RW (upd ρ (58 + 15 * k + w) v) n s := h.put (by omega) (by omega) (fun j hj => by omega)
abbrev rWhole (ρ : Nat → Int32) (p : Nat) : Bool := (ρ (148 + 3 * p + 0) ^^^ ρ (148 + 3 * p + 1)) == ρ (148 + 3 * p + 2)
abbrev rFor (ρ : Nat → Int32) (p k : Nat) : Bool := (ρ (148 + 3 * p + 0) == 0) || (ρ (148 + 3 * p + 0) == ρ (58 + 15 * k + 0))
def rArg (c : Int32) : Int32 := c - c / 64 * 64
def rObey0 (ρ : Nat → Int32) (k : Nat) (c : Int32) : Nat → Int32 :=
  if c / 64 = 0 then upd ρ (58 + 15 * k + 6) (iMin 28 (rArg c))
  else if c / 64 = 1 then upd ρ (58 + 15 * k + 8) (rArg c - rArg c / 16 * 16)
  else if c / 64 = 2 then upd (upd ρ (58 + 15 * k + 5) 0) (58 + 15 * k + 6) 0
  else ρ
def rAdd (ρ : Nat → Int32) (k w : Nat) (v : Int32) : Nat → Int32 := upd ρ (58 + 15 * k + w) (ρ (58 + 15 * k + w) + v)
def rObey (ρ : Nat → Int32) (k : Nat) (c : Int32) : Nat → Int32 := rAdd (rObey0 ρ k c) k 11 1
def rSec (ρ : Nat → Int32) (k : Nat) : Nat := (ρ (58 + 15 * k + 3)).toNatClampNeg
def rRecv (ρ : Nat → Int32) (k : Nat) : Nat → Int32 :=
  if ρ (10 + rSec ρ k) = 1 then rAdd ρ k 13 1 else if rWhole ρ 0 = true then rObey ρ k (ρ 149) else rAdd ρ k 12 1
def rRecvH (ρ η : Nat → Int32) (k : Nat) : Nat → Int32 :=
  if ρ (10 + rSec ρ k) = 1 then η else if rWhole ρ 0 = true then upd η k 1 else η
def rRecvIf (p : (Nat → Int32) × (Nat → Int32)) (k : Nat) : (Nat → Int32) × (Nat → Int32) := if rFor p.1 0 k = true then (rRecv p.1 k, rRecvH p.1 p.2 k) else p
def iter {α : Type} (f : α → Nat → α) (x : α) : Nat → α
  | 0 => x
  | n + 1 => f (iter f x n) n
def rSend (p : (Nat → Int32) × (Nat → Int32)) (n : Nat) : (Nat → Int32) × (Nat → Int32) := iter rRecvIf p n
def rShift (ρ : Nat → Int32) (q : Nat) : Nat → Int32 := upd (va_cpy (upd ρ 6 (nI q)) (upd ρ 6 (nI q)) 151 148 (3 * q)) 8 (va_cpy (upd ρ 6 (nI q)) (upd ρ 6 (nI q)) 151 148 (3 * q) 8 + 1)
def rListen (ρ η : Nat → Int32) (k : Nat) : Nat → Int32 :=
  if 40 ≤ (if η k = 1 then 0 else ρ (58 + 15 * k + 9) + 1) then upd (upd ρ (58 + 15 * k + 9) (if η k = 1 then 0 else ρ (58 + 15 * k + 9) + 1)) (58 + 15 * k + 6) 0
  else upd ρ (58 + 15 * k + 9) (if η k = 1 then 0 else ρ (58 + 15 * k + 9) + 1)
def rBraked (s v : Int32) : Int32 := s - iMax 1 (s / v)
def rNewSpeed (p s t acc v : Int32) : Int32 := if ¬ p = 0 then iMax 0 (s - 5) else if s < t then iMin t (s + acc) else if t < s then iMax t (rBraked s v) else s
def rSpeed (ρ : Nat → Int32) (k : Nat) : Nat → Int32 := upd ρ (58 + 15 * k + 5) (rNewSpeed (ρ 4) (ρ (58 + 15 * k + 5)) (ρ (58 + 15 * k + 6)) (ρ (58 + 15 * k + 1)) (ρ (58 + 15 * k + 2)))
def rDimS (t : Int32) : Int32 := if 0 < t then 1 else if t < 0 then -1 else 0
def rDim (ρ : Nat → Int32) (k : Nat) : Nat → Int32 := upd ρ (58 + 15 * k + 7) (if ρ 4 = 0 then ρ (58 + 15 * k + 7) + rDimS (ρ (58 + 15 * k + 8) - ρ (58 + 15 * k + 7)) else 0)
def rFirst (ρ : Nat → Int32) (n w : Nat) (v : Int32) : Option Nat := fsB (fun k => ρ (58 + 15 * k + w) == v) n
def rMove (n s : Nat) (ρ : Nat → Int32) (k : Nat) : Nat → Int32 :=
  if ρ (58 + 15 * k + 4) + ρ (58 + 15 * k + 5) < 100 then upd ρ (58 + 15 * k + 4) (ρ (58 + 15 * k + 4) + ρ (58 + 15 * k + 5))
  else if rFirst ρ n 3 (nI ((rSec ρ k + 1) % s)) = none then rAdd (upd (upd (upd ρ (58 + 15 * k + 4) (ρ (58 + 15 * k + 4) + ρ (58 + 15 * k + 5))) (58 + 15 * k + 3) (nI ((rSec ρ k + 1) % s))) (58 + 15 * k + 4) (ρ (58 + 15 * k + 4) + ρ (58 + 15 * k + 5) - 100)) k 10 1
  else rAdd (upd (upd (upd ρ (58 + 15 * k + 4) (ρ (58 + 15 * k + 4) + ρ (58 + 15 * k + 5))) (58 + 15 * k + 4) 99) (58 + 15 * k + 5) 0) k 14 1
def rShorted (ρ : Nat → Int32) (n : Nat) : Bool := (fsB (fun k => ρ (34 + rSec ρ k) == 1) n).isSome
def rWatch (ρ : Nat → Int32) (n : Nat) : Nat → Int32 :=
  if ¬ ρ 4 = 0 then upd ρ 4 (ρ 4 - 1) else if rShorted ρ n = true then upd (upd ρ 4 (ρ 2)) 5 (ρ 5 + 1) else ρ
theorem iMin_t {a b : Int32} (h : a < b) : iMin a b = a := if_pos h
theorem iMin_f {a b : Int32} (h : ¬ a < b) : iMin a b = b := if_neg h
theorem iMax_t {a b : Int32} (h : b < a) : iMax a b = a := if_pos h
theorem iMax_f {a b : Int32} (h : ¬ b < a) : iMax a b = b := if_neg h
theorem oI_none {o : Option Nat} (h : oI o = -1) : o = none ∨ ∃ k, o = some k ∧ 6 ≤ k := by
  cases o with
  | none => exact Or.inl rfl
  | some k =>
    right
    refine ⟨k, rfl, ?_⟩
    rcases Nat.lt_or_ge k 6 with c | c
    · exfalso
      revert h
      match k, c with
      | 0, _ | 1, _ | 2, _ | 3, _ | 4, _ | 5, _ => decide
    · exact c
section ModelTick
variable {G : Gl} {κ : Kx} {d : Nat} {Q : Option Value → Hp → Prop} {X : String → Hp → Prop} {cs ss : Nat} {σ : Hp} {a : Nat} {r : Nat → Nat} {z : Nat → Int32} {A : Nat → Nat → Int32} {rw : Nat} {ρ η : Nat → Int32}
theorem sp_isWhole (hΓ : Ok G κ mX13_isWhole (d + 1) Q X) (h : MV G σ a r z A rw ρ η) {x : Int32} {p : Nat} (hx : x = nI p) (hp : p < 12) (hq : Q (some (.int (bI (rWhole ρ p)))) σ) : AW G κ cs ss 0 [lR a, lI x] [] σ := by
  refine sX13_isWhole_0 hΓ rfl ?_
  refine sX13_isWhole_1 hΓ rfl ?_
  refine sX13_isWhole_2 hΓ ?_
  refine sX13_isWhole_3 hΓ 0 0 (Nat.le_of_ble_eq_true rfl) h.o (fun κ_3 hΓ_3 => sp_ofPacket hΓ_3 h (w := 0) hx rfl hp (by decide) ?_)
  show AW G κ _ _ 6 _ _ _
  refine sX13_isWhole_6 hΓ rfl ?_
  refine sX13_isWhole_7 hΓ rfl ?_
  refine sX13_isWhole_8 hΓ ?_
  refine sX13_isWhole_9 hΓ 0 0 (Nat.le_of_ble_eq_true rfl) h.o (fun κ_9 hΓ_9 => sp_ofPacket hΓ_9 h (w := 1) hx rfl hp (by decide) ?_)
  show AW G κ _ _ 12 _ _ _
  refine sX13_isWhole_12 hΓ ?_
  refine sX13_isWhole_13 hΓ rfl ?_
  refine sX13_isWhole_14 hΓ rfl ?_
  refine sX13_isWhole_15 hΓ ?_
  refine sX13_isWhole_16 hΓ 0 0 (Nat.le_of_ble_eq_true rfl) h.o (fun κ_16 hΓ_16 => sp_ofPacket hΓ_16 h (w := 2) hx rfl hp (by decide) ?_)
  show AW G κ _ _ 19 _ _ _
  refine sX13_isWhole_19 hΓ (fun c19 => ?_) (fun c19 => ?_)
  · have e : rWhole ρ p = false := beq_eq_false_iff_ne.mpr c19
    rw [e] at hq
    refine sX13_isWhole_26 hΓ ?_
    exact sX13_isWhole_27 hΓ (by first | exact Or.inl rfl | exact Or.inr rfl) hq
  · have e : rWhole ρ p = true := beq_iff_eq.mpr c19
    rw [e] at hq
    refine sX13_isWhole_22 hΓ ?_
    refine sX13_isWhole_23 hΓ ?_
    exact sX13_isWhole_27 hΓ (by first | exact Or.inl rfl | exact Or.inr rfl) hq
theorem sp_isFor (hΓ : Ok G κ mX13_isFor (d + 1) Q X) (h : MV G σ a r z A rw ρ η) {x y : Int32} {p k : Nat} (hx : x = nI p) (hp : p < 12) (hy : y = nI k) (hk : k < 6) (hq : Q (some (.int (bI (rFor ρ p k)))) σ) : AW G κ cs ss 0 [lR a, lI x, lI y, none] [] σ := by
  refine sX13_isFor_0 hΓ rfl ?_
  refine sX13_isFor_1 hΓ rfl ?_
  refine sX13_isFor_2 hΓ ?_
  refine sX13_isFor_3 hΓ 0 0 (Nat.le_of_ble_eq_true rfl) h.o (fun κ_3 hΓ_3 => sp_ofPacket hΓ_3 h (w := 0) hx rfl hp (by decide) ?_)
  show AW G κ _ _ 6 _ _ _
  refine sX13_isFor_6 hΓ ?_
  refine sX13_isFor_7 hΓ rfl ?_
  refine sX13_isFor_8 hΓ (fun c8 => ?_) (fun c8 => ?_)
  · have e : rFor ρ p k = true := Bool.or_eq_true_iff.mpr (Or.inl (beq_iff_eq.mpr c8))
    rw [e] at hq
    refine sX13_isFor_21 hΓ ?_
    refine sX13_isFor_22 hΓ ?_
    exact sX13_isFor_26 hΓ (by first | exact Or.inl rfl | exact Or.inr rfl) hq
  · refine sX13_isFor_11 hΓ rfl ?_
    refine sX13_isFor_12 hΓ rfl ?_
    refine sX13_isFor_13 hΓ rfl ?_
    refine sX13_isFor_14 hΓ ?_
    refine sX13_isFor_15 hΓ 0 0 (Nat.le_of_ble_eq_true rfl) h.o (fun κ_15 hΓ_15 => sp_of hΓ_15 h (w := 0) hy rfl hk (by decide) ?_)
    show AW G κ _ _ 18 _ _ _
    refine sX13_isFor_18 hΓ (fun c18 => ?_) (fun c18 => ?_)
    · have e : rFor ρ p k = false := Bool.or_eq_false_iff.mpr ⟨beq_eq_false_iff_ne.mpr c8, beq_eq_false_iff_ne.mpr c18⟩
      rw [e] at hq
      refine sX13_isFor_25 hΓ ?_
      exact sX13_isFor_26 hΓ (by first | exact Or.inl rfl | exact Or.inr rfl) hq
    · have e : rFor ρ p k = true := Bool.or_eq_true_iff.mpr (Or.inr (beq_iff_eq.mpr c18))
      rw [e] at hq
      refine sX13_isFor_21 hΓ ?_
      refine sX13_isFor_22 hΓ ?_
      exact sX13_isFor_26 hΓ (by first | exact Or.inl rfl | exact Or.inr rfl) hq
theorem sp_least (hΓ : Ok G κ mX13_least (d + 0) Q X) {x y : Int32} (hq : Q (some (.int (iMin x y))) σ) : AW G κ cs ss 0 [lI x, lI y] [] σ := by
  refine sX13_least_0 hΓ rfl ?_
  refine sX13_least_1 hΓ rfl ?_
  refine sX13_least_2 hΓ (fun c2 => ?_) (fun c2 => ?_)
  · rw [iMin_f (Int32.not_lt.mpr c2)] at hq
    refine sX13_least_9 hΓ rfl ?_
    exact sX13_least_10 hΓ hq
  · rw [iMin_t (Int32.not_le.mp c2)] at hq
    refine sX13_least_5 hΓ rfl ?_
    refine sX13_least_6 hΓ ?_
    exact sX13_least_10 hΓ hq
theorem sp_most (hΓ : Ok G κ mX13_most (d + 0) Q X) {x y : Int32} (hq : Q (some (.int (iMax x y))) σ) : AW G κ cs ss 0 [lI x, lI y] [] σ := by
  refine sX13_most_0 hΓ rfl ?_
  refine sX13_most_1 hΓ rfl ?_
  refine sX13_most_2 hΓ (fun c2 => ?_) (fun c2 => ?_)
  · rw [iMax_f (Int32.not_lt.mpr c2)] at hq
    refine sX13_most_9 hΓ rfl ?_
    exact sX13_most_10 hΓ hq
  · rw [iMax_t (Int32.not_le.mp c2)] at hq
    refine sX13_most_5 hΓ rfl ?_
    refine sX13_most_6 hΓ ?_
    exact sX13_most_10 hΓ hq
theorem sp_braked (hΓ : Ok G κ mX13_braked (d + 1) Q X) {x y : Int32} (hy : ¬ y = 0) (hq : Q (some (.int (rBraked x y))) σ) : AW G κ cs ss 0 [lI x, lI y] [] σ := by
  refine sX13_braked_0 hΓ rfl ?_
  refine sX13_braked_1 hΓ ?_
  refine sX13_braked_2 hΓ rfl ?_
  refine sX13_braked_3 hΓ rfl ?_
  refine sX13_braked_4 hΓ hy ?_
  refine sX13_braked_5 hΓ 0 0 (Nat.le_of_ble_eq_true rfl) (fun κ_5 hΓ_5 => sp_most hΓ_5 ?_)
  show AW G κ _ _ 8 _ _ _
  refine sX13_braked_8 hΓ ?_
  exact sX13_braked_9 hΓ hq
theorem sp_obey (hΓ : Ok G κ mX13_obey (d + 2) Q X) (h : MV G σ a r z A rw ρ η) {x c : Int32} {k : Nat} (hx : x = nI k) (hk : k < 6) (hq : ∀ σ1 : Hp, MV G σ1 a r z A rw (rObey ρ k c) (upd η k 1) → MF a r σ σ1 → Q none σ1) : AW G κ cs ss 0 [lR a, lI x, lI c, none] [] σ := by
  suffices fin : ∀ σ2 : Hp, MV G σ2 a r z A rw (rObey0 ρ k c) η → MF a r σ σ2 → AW G κ cs ss 84 [lR a, lI x, lI c, lI (rArg c)] [] σ2 by
    refine sX13_obey_0 hΓ rfl ?_
    refine sX13_obey_1 hΓ ?_
    refine sX13_obey_3 hΓ (by decide) ?_
    refine sX13_obey_4 hΓ ?_
    refine sX13_obey_5 hΓ rfl ?_
    refine sX13_obey_6 hΓ ?_
    refine sX13_obey_8 hΓ (by decide) ?_
    refine sX13_obey_9 hΓ (fun c9 => ?_) (fun c9 => ?_) (fun c9 => ?_) (fun c9_0 c9_1 c9_2 => ?_)
    · refine sX13_obey_36 hΓ rfl ?_
      refine sX13_obey_37 hΓ rfl ?_
      refine sX13_obey_38 hΓ ?_
      refine sX13_obey_40 hΓ ?_
      refine sX13_obey_42 hΓ rfl ?_
      refine sX13_obey_43 hΓ 0 0 (Nat.le_of_ble_eq_true rfl) (fun κ_43 hΓ_43 => sp_least hΓ_43 ?_)
      show AW G κ _ _ 46 _ _ _
      refine sX13_obey_46 hΓ 0 0 (Nat.le_of_ble_eq_true rfl) h.o (fun κ_46 hΓ_46 => sp_lay hΓ_46 h (w := 6) hx rfl hk (by decide) (fun σ1 h1 f1 => ?_))
      show AW G κ _ _ 49 _ _ _
      refine sX13_obey_49 hΓ ?_
      exact fin _ (by simpa [rObey0, rArg, *] using h1) f1
    · refine sX13_obey_52 hΓ rfl ?_
      refine sX13_obey_53 hΓ rfl ?_
      refine sX13_obey_54 hΓ ?_
      refine sX13_obey_56 hΓ rfl ?_
      refine sX13_obey_57 hΓ ?_
      refine sX13_obey_59 hΓ (by decide) ?_
      refine sX13_obey_60 hΓ 0 0 (Nat.le_of_ble_eq_true rfl) h.o (fun κ_60 hΓ_60 => sp_lay hΓ_60 h (w := 8) hx rfl hk (by decide) (fun σ2 h2 f2 => ?_))
      show AW G κ _ _ 63 _ _ _
      refine sX13_obey_63 hΓ ?_
      exact fin _ (by simpa [rObey0, rArg, *] using h2) f2
    · refine sX13_obey_66 hΓ rfl ?_
      refine sX13_obey_67 hΓ rfl ?_
      refine sX13_obey_68 hΓ ?_
      refine sX13_obey_69 hΓ ?_
      refine sX13_obey_70 hΓ 0 0 (Nat.le_of_ble_eq_true rfl) h.o (fun κ_70 hΓ_70 => sp_lay hΓ_70 h (w := 5) hx rfl hk (by decide) (fun σ3 h3 f3 => ?_))
      show AW G κ _ _ 73 _ _ _
      refine sX13_obey_73 hΓ rfl ?_
      refine sX13_obey_74 hΓ rfl ?_
      refine sX13_obey_75 hΓ ?_
      refine sX13_obey_77 hΓ ?_
      refine sX13_obey_78 hΓ 0 0 (Nat.le_of_ble_eq_true rfl) h3.o (fun κ_78 hΓ_78 => sp_lay hΓ_78 h3 (w := 6) hx rfl hk (by decide) (fun σ4 h4 f4 => ?_))
      show AW G κ _ _ 81 _ _ _
      refine sX13_obey_81 hΓ ?_
      exact fin _ (by simpa [rObey0, rArg, *] using h4) (f3.tr f4)
    · exact fin _ (by simpa [rObey0, rArg, *] using h) MF.rf
  intro σ2 h f
  refine sX13_obey_84 hΓ rfl ?_
  refine sX13_obey_85 hΓ rfl ?_
  refine sX13_obey_86 hΓ ?_
  refine sX13_obey_88 hΓ ?_
  refine sX13_obey_89 hΓ 0 0 (Nat.le_of_ble_eq_true rfl) h.o (fun κ_89 hΓ_89 => sp_add hΓ_89 h (w := 11) hx rfl hk (by decide) (fun σ21 h21 f21 => ?_))
  show AW G κ _ _ 92 _ _ _
  refine sX13_obey_92 hΓ rfl ?_
  refine sX13_obey_93 hΓ h21.o rfl ?_
  refine sX13_obey_96 hΓ rfl ?_
  refine sX13_obey_97 hΓ ?_
  refine sX13_obey_98 hΓ h21.heard hx hk (by decide) (mv_heard h21 (fun σ22 h22 f22 => ?_))
  exact sX13_obey_99 hΓ (hq _ h22 ((f.tr f21).tr f22))
theorem sp_receive (hΓ : Ok G κ mX13_receive (d + 3) Q X) (h : MV G σ a r z A rw ρ η) {x : Int32} {k n s : Nat} (hx : x = nI k) (hk : k < n) (hR : RW ρ n s) (hq : ∀ σ1 : Hp, MV G σ1 a r z A rw (rRecv ρ k) (rRecvH ρ η k) → MF a r σ σ1 → Q none σ1) : AW G κ cs ss 0 [lR a, lI x] [] σ := by
  have hk6 : k < 6 := Nat.lt_of_lt_of_le hk hR.2.1
  obtain ⟨j, hjs, hj⟩ := hR.2.2.2.2.2.1 k hk
  have hs24 := hR.2.2.2.2.1
  have hsj : rSec ρ k = j := by rw [rSec, hj]; exact nI_clamp (by omega)
  refine sX13_receive_0 hΓ rfl ?_
  refine sX13_receive_1 hΓ h.o rfl ?_
  refine sX13_receive_4 hΓ ?_
  refine sX13_receive_6 hΓ rfl ?_
  refine sX13_receive_7 hΓ rfl ?_
  refine sX13_receive_8 hΓ ?_
  refine sX13_receive_9 hΓ 0 0 (Nat.le_of_ble_eq_true rfl) h.o (fun κ_9 hΓ_9 => sp_of hΓ_9 h (w := 3) hx rfl hk6 (by decide) ?_)
  show AW G κ _ _ 12 _ _ _
  refine sX13_receive_12 hΓ ?_
  refine sX13_receive_13 hΓ h.row (ixS (k := 10) rfl hj) (by omega) (by decide) ?_
  refine sX13_receive_14 hΓ ?_
  refine sX13_receive_15 hΓ (fun c15 => ?_) (fun c15 => ?_)
  · rw [← hsj] at c15
    refine sX13_receive_29 hΓ rfl ?_
    refine sX13_receive_30 hΓ ?_
    refine sX13_receive_31 hΓ 0 0 (Nat.le_of_ble_eq_true rfl) h.o (fun κ_31 hΓ_31 => sp_isWhole hΓ_31 h (p := 0) rfl (by decide) ?_)
    show AW G κ _ _ 34 _ _ _
    refine sX13_receive_34 hΓ (fun c34 => ?_) (fun c34 => ?_)
    · have c : ¬ rWhole ρ 0 = true := by rw [bI_0 c34]; exact Bool.false_ne_true
      have e1 : rRecv ρ k = rAdd ρ k 12 1 := (if_neg c15).trans (if_neg c)
      have e2 : rRecvH ρ η k = η := (if_neg c15).trans (if_neg c)
      refine sX13_receive_51 hΓ rfl ?_
      refine sX13_receive_52 hΓ rfl ?_
      refine sX13_receive_53 hΓ ?_
      refine sX13_receive_55 hΓ ?_
      refine sX13_receive_56 hΓ 0 0 (Nat.le_of_ble_eq_true rfl) h.o (fun κ_56 hΓ_56 => sp_add hΓ_56 h (w := 12) hx rfl hk6 (by decide) (fun σ1 h1 f1 => ?_))
      show AW G κ _ _ 59 _ _ _
      exact sX13_receive_59 hΓ (hq _ (by rw [e1, e2]; exact h1) f1)
    · have c := bI_n0 c34
      have e1 : rRecv ρ k = rObey ρ k (ρ 149) := (if_neg c15).trans (if_pos c)
      have e2 : rRecvH ρ η k = upd η k 1 := (if_neg c15).trans (if_pos c)
      refine sX13_receive_37 hΓ rfl ?_
      refine sX13_receive_38 hΓ rfl ?_
      refine sX13_receive_39 hΓ rfl ?_
      refine sX13_receive_40 hΓ ?_
      refine sX13_receive_41 hΓ ?_
      refine sX13_receive_42 hΓ 0 0 (Nat.le_of_ble_eq_true rfl) h.o (fun κ_42 hΓ_42 => sp_ofPacket hΓ_42 h (k := 0) (w := 1) rfl rfl (by decide) (by decide) ?_)
      show AW G κ _ _ 45 _ _ _
      refine sX13_receive_45 hΓ 0 0 (Nat.le_of_ble_eq_true rfl) h.o (fun κ_45 hΓ_45 => sp_obey hΓ_45 h hx hk6 (fun σ2 h2 f2 => ?_))
      show AW G κ _ _ 48 _ _ _
      refine sX13_receive_48 hΓ ?_
      exact sX13_receive_59 hΓ (hq _ (by rw [e1, e2]; exact h2) f2)
  · rw [← hsj] at c15
    have e1 : rRecv ρ k = rAdd ρ k 13 1 := if_pos c15
    have e2 : rRecvH ρ η k = η := if_pos c15
    refine sX13_receive_18 hΓ rfl ?_
    refine sX13_receive_19 hΓ rfl ?_
    refine sX13_receive_20 hΓ ?_
    refine sX13_receive_22 hΓ ?_
    refine sX13_receive_23 hΓ 0 0 (Nat.le_of_ble_eq_true rfl) h.o (fun κ_23 hΓ_23 => sp_add hΓ_23 h (w := 13) hx rfl hk6 (by decide) (fun σ3 h3 f3 => ?_))
    show AW G κ _ _ 26 _ _ _
    refine sX13_receive_26 hΓ ?_
    exact sX13_receive_59 hΓ (hq _ (by rw [e1, e2]; exact h3) f3)
theorem sp_listen (hΓ : Ok G κ mX13_listen (d + 2) Q X) (h : MV G σ a r z A rw ρ η) {x : Int32} {k : Nat} (hx : x = nI k) (hk : k < 6) (hq : ∀ σ1 : Hp, MV G σ1 a r z A rw (rListen ρ η k) η → MF a r σ σ1 → Q none σ1) : AW G κ cs ss 0 [lR a, lI x] [] σ := by
  refine sX13_listen_0 hΓ rfl ?_
  refine sX13_listen_1 hΓ rfl ?_
  refine sX13_listen_2 hΓ ?_
  refine sX13_listen_4 hΓ rfl ?_
  refine sX13_listen_5 hΓ h.o rfl ?_
  refine sX13_listen_8 hΓ rfl ?_
  refine sX13_listen_9 hΓ h.heard hx hk (by decide) ?_
  refine sX13_listen_10 hΓ ?_
  refine sX13_listen_11 hΓ (fun c11 => ?_) (fun c11 => ?_)
  · refine sX13_listen_18 hΓ rfl ?_
    refine sX13_listen_19 hΓ rfl ?_
    refine sX13_listen_20 hΓ ?_
    refine sX13_listen_22 hΓ 0 0 (Nat.le_of_ble_eq_true rfl) h.o (fun κ_22 hΓ_22 => sp_of hΓ_22 h (w := 9) hx rfl hk (by decide) ?_)
    show AW G κ _ _ 25 _ _ _
    refine sX13_listen_25 hΓ ?_
    refine sX13_listen_26 hΓ ?_
    refine sX13_listen_27 hΓ 0 0 (Nat.le_of_ble_eq_true rfl) h.o (fun κ_27 hΓ_27 => sp_lay hΓ_27 h (w := 9) hx rfl hk (by decide) (fun σ1 h1 f1 => ?_))
    show AW G κ _ _ 30 _ _ _
    refine sX13_listen_30 hΓ rfl ?_
    refine sX13_listen_31 hΓ rfl ?_
    refine sX13_listen_32 hΓ ?_
    refine sX13_listen_34 hΓ 0 0 (Nat.le_of_ble_eq_true rfl) h1.o (fun κ_34 hΓ_34 => sp_of hΓ_34 h1 (w := 9) hx rfl hk (by decide) ?_)
    rw [upd_same]
    show AW G κ _ _ 37 _ _ _
    refine sX13_listen_37 hΓ ?_
    refine sX13_listen_39 hΓ (fun c39 => ?_) (fun c39 => ?_)
    · have c39 := Int32.not_le.mpr c39
      exact sX13_listen_50 hΓ (hq _ (by simpa [rListen, c11, c39] using h1) f1)
    · have c39 := Int32.not_lt.mp c39
      refine sX13_listen_42 hΓ rfl ?_
      refine sX13_listen_43 hΓ rfl ?_
      refine sX13_listen_44 hΓ ?_
      refine sX13_listen_46 hΓ ?_
      refine sX13_listen_47 hΓ 0 0 (Nat.le_of_ble_eq_true rfl) h1.o (fun κ_47 hΓ_47 => sp_lay hΓ_47 h1 (w := 6) hx rfl hk (by decide) (fun σ2 h2 f2 => ?_))
      show AW G κ _ _ 50 _ _ _
      exact sX13_listen_50 hΓ (hq _ (by simpa [rListen, c11, c39] using h2) (f1.tr f2))
  · refine sX13_listen_14 hΓ ?_
    refine sX13_listen_15 hΓ ?_
    refine sX13_listen_27 hΓ 0 0 (Nat.le_of_ble_eq_true rfl) h.o (fun κ_27 hΓ_27 => sp_lay hΓ_27 h (w := 9) hx rfl hk (by decide) (fun σ3 h3 f3 => ?_))
    show AW G κ _ _ 30 _ _ _
    refine sX13_listen_30 hΓ rfl ?_
    refine sX13_listen_31 hΓ rfl ?_
    refine sX13_listen_32 hΓ ?_
    refine sX13_listen_34 hΓ 0 0 (Nat.le_of_ble_eq_true rfl) h3.o (fun κ_34 hΓ_34 => sp_of hΓ_34 h3 (w := 9) hx rfl hk (by decide) ?_)
    rw [upd_same]
    show AW G κ _ _ 37 _ _ _
    refine sX13_listen_37 hΓ ?_
    refine sX13_listen_39 hΓ (fun c39 => ?_) (fun c39 => ?_)
    · have c39 := Int32.not_le.mpr c39
      exact sX13_listen_50 hΓ (hq _ (by simpa [rListen, c11, c39] using h3) f3)
    · have c39 := Int32.not_lt.mp c39
      refine sX13_listen_42 hΓ rfl ?_
      refine sX13_listen_43 hΓ rfl ?_
      refine sX13_listen_44 hΓ ?_
      refine sX13_listen_46 hΓ ?_
      refine sX13_listen_47 hΓ 0 0 (Nat.le_of_ble_eq_true rfl) h3.o (fun κ_47 hΓ_47 => sp_lay hΓ_47 h3 (w := 6) hx rfl hk (by decide) (fun σ4 h4 f4 => ?_))
      show AW G κ _ _ 50 _ _ _
      exact sX13_listen_50 hΓ (hq _ (by simpa [rListen, c11, c39] using h4) (f3.tr f4))
theorem sp_changeSpeed (hΓ : Ok G κ mX13_changeSpeed (d + 2) Q X) (h : MV G σ a r z A rw ρ η) {x : Int32} {k : Nat} (hx : x = nI k) (hk : k < 6) (hv : ¬ ρ (58 + 15 * k + 2) = 0) (hq : ∀ σ1 : Hp, MV G σ1 a r z A rw (rSpeed ρ k) η → MF a r σ σ1 → Q none σ1) : AW G κ cs ss 0 [lR a, lI x, none, none] [] σ := by
  refine sX13_changeSpeed_0 hΓ rfl ?_
  refine sX13_changeSpeed_1 hΓ rfl ?_
  refine sX13_changeSpeed_2 hΓ ?_
  refine sX13_changeSpeed_3 hΓ 0 0 (Nat.le_of_ble_eq_true rfl) h.o (fun κ_3 hΓ_3 => sp_of hΓ_3 h (w := 5) hx rfl hk (by decide) ?_)
  show AW G κ _ _ 6 _ _ _
  refine sX13_changeSpeed_6 hΓ ?_
  refine sX13_changeSpeed_7 hΓ rfl ?_
  refine sX13_changeSpeed_8 hΓ rfl ?_
  refine sX13_changeSpeed_9 hΓ ?_
  refine sX13_changeSpeed_11 hΓ 0 0 (Nat.le_of_ble_eq_true rfl) h.o (fun κ_11 hΓ_11 => sp_of hΓ_11 h (w := 6) hx rfl hk (by decide) ?_)
  show AW G κ _ _ 14 _ _ _
  refine sX13_changeSpeed_14 hΓ ?_
  refine sX13_changeSpeed_15 hΓ rfl ?_
  refine sX13_changeSpeed_16 hΓ 0 0 (Nat.le_of_ble_eq_true rfl) h.o (fun κ_16 hΓ_16 => sp_hasPower hΓ_16 h (fun p0 => ?_) (fun p0 => ?_) )
  · show AW G κ _ _ 19 _ _ _
    refine sX13_changeSpeed_19 hΓ (fun c => ?_) (fun c => absurd c (by decide))
    refine sX13_changeSpeed_33 hΓ rfl ?_
    refine sX13_changeSpeed_34 hΓ rfl ?_
    refine sX13_changeSpeed_35 hΓ (fun c35 => ?_) (fun c35 => ?_)
    · have c35 := Int32.not_lt.mpr c35
      have c56x := True.intro
      refine sX13_changeSpeed_54 hΓ rfl ?_
      refine sX13_changeSpeed_55 hΓ rfl ?_
      refine sX13_changeSpeed_56 hΓ (fun c56 => ?_) (fun c56 => ?_)
      · have c56x := Int32.not_lt.mpr c56
        refine sX13_changeSpeed_74 hΓ rfl ?_
        refine sX13_changeSpeed_75 hΓ rfl ?_
        refine sX13_changeSpeed_76 hΓ ?_
        refine sX13_changeSpeed_77 hΓ rfl ?_
        refine sX13_changeSpeed_78 hΓ 0 0 (Nat.le_of_ble_eq_true rfl) h.o (fun κ_78 hΓ_78 => sp_lay hΓ_78 h (w := 5) hx rfl hk (by decide) (fun σ1 h1 f1 => ?_))
        show AW G κ _ _ 81 _ _ _
        exact sX13_changeSpeed_81 hΓ (hq _ (by simpa only [rSpeed, rNewSpeed, p0, c35, c56x, not_true, not_false_eq_true, if_true, if_false] using h1) f1)
      · have c56x := Int32.not_le.mp c56
        refine sX13_changeSpeed_59 hΓ rfl ?_
        refine sX13_changeSpeed_60 hΓ rfl ?_
        refine sX13_changeSpeed_61 hΓ rfl ?_
        refine sX13_changeSpeed_62 hΓ rfl ?_
        refine sX13_changeSpeed_63 hΓ ?_
        refine sX13_changeSpeed_64 hΓ 0 0 (Nat.le_of_ble_eq_true rfl) h.o (fun κ_64 hΓ_64 => sp_of hΓ_64 h (w := 2) hx rfl hk (by decide) ?_)
        show AW G κ _ _ 67 _ _ _
        refine sX13_changeSpeed_67 hΓ 0 0 (Nat.le_of_ble_eq_true rfl) (fun κ_67 hΓ_67 => sp_braked hΓ_67 hv ?_)
        show AW G κ _ _ 70 _ _ _
        refine sX13_changeSpeed_70 hΓ 0 0 (Nat.le_of_ble_eq_true rfl) (fun κ_70 hΓ_70 => sp_most hΓ_70 ?_)
        show AW G κ _ _ 73 _ _ _
        refine sX13_changeSpeed_73 hΓ ?_
        refine sX13_changeSpeed_74 hΓ rfl ?_
        refine sX13_changeSpeed_75 hΓ rfl ?_
        refine sX13_changeSpeed_76 hΓ ?_
        refine sX13_changeSpeed_77 hΓ rfl ?_
        refine sX13_changeSpeed_78 hΓ 0 0 (Nat.le_of_ble_eq_true rfl) h.o (fun κ_78 hΓ_78 => sp_lay hΓ_78 h (w := 5) hx rfl hk (by decide) (fun σ2 h2 f2 => ?_))
        show AW G κ _ _ 81 _ _ _
        exact sX13_changeSpeed_81 hΓ (hq _ (by simpa only [rSpeed, rNewSpeed, p0, c35, c56x, not_true, not_false_eq_true, if_true, if_false] using h2) f2)
    · have c35 := Int32.not_le.mp c35
      have c56x := True.intro
      refine sX13_changeSpeed_38 hΓ rfl ?_
      refine sX13_changeSpeed_39 hΓ rfl ?_
      refine sX13_changeSpeed_40 hΓ rfl ?_
      refine sX13_changeSpeed_41 hΓ rfl ?_
      refine sX13_changeSpeed_42 hΓ ?_
      refine sX13_changeSpeed_43 hΓ 0 0 (Nat.le_of_ble_eq_true rfl) h.o (fun κ_43 hΓ_43 => sp_of hΓ_43 h (w := 1) hx rfl hk (by decide) ?_)
      show AW G κ _ _ 46 _ _ _
      refine sX13_changeSpeed_46 hΓ ?_
      refine sX13_changeSpeed_47 hΓ 0 0 (Nat.le_of_ble_eq_true rfl) (fun κ_47 hΓ_47 => sp_least hΓ_47 ?_)
      show AW G κ _ _ 50 _ _ _
      refine sX13_changeSpeed_50 hΓ ?_
      refine sX13_changeSpeed_51 hΓ ?_
      refine sX13_changeSpeed_74 hΓ rfl ?_
      refine sX13_changeSpeed_75 hΓ rfl ?_
      refine sX13_changeSpeed_76 hΓ ?_
      refine sX13_changeSpeed_77 hΓ rfl ?_
      refine sX13_changeSpeed_78 hΓ 0 0 (Nat.le_of_ble_eq_true rfl) h.o (fun κ_78 hΓ_78 => sp_lay hΓ_78 h (w := 5) hx rfl hk (by decide) (fun σ3 h3 f3 => ?_))
      show AW G κ _ _ 81 _ _ _
      exact sX13_changeSpeed_81 hΓ (hq _ (by simpa only [rSpeed, rNewSpeed, p0, c35, c56x, not_true, not_false_eq_true, if_true, if_false] using h3) f3)
  · show AW G κ _ _ 19 _ _ _
    refine sX13_changeSpeed_19 hΓ (fun c => absurd rfl c) (fun c => ?_)
    refine sX13_changeSpeed_22 hΓ ?_
    refine sX13_changeSpeed_23 hΓ rfl ?_
    refine sX13_changeSpeed_24 hΓ ?_
    refine sX13_changeSpeed_25 hΓ ?_
    refine sX13_changeSpeed_26 hΓ 0 0 (Nat.le_of_ble_eq_true rfl) (fun κ_26 hΓ_26 => sp_most hΓ_26 ?_)
    show AW G κ _ _ 29 _ _ _
    refine sX13_changeSpeed_29 hΓ ?_
    refine sX13_changeSpeed_30 hΓ ?_
    refine sX13_changeSpeed_74 hΓ rfl ?_
    refine sX13_changeSpeed_75 hΓ rfl ?_
    refine sX13_changeSpeed_76 hΓ ?_
    refine sX13_changeSpeed_77 hΓ rfl ?_
    refine sX13_changeSpeed_78 hΓ 0 0 (Nat.le_of_ble_eq_true rfl) h.o (fun κ_78 hΓ_78 => sp_lay hΓ_78 h (w := 5) hx rfl hk (by decide) (fun σ1 h1 f1 => ?_))
    show AW G κ _ _ 81 _ _ _
    exact sX13_changeSpeed_81 hΓ (hq _ (by simpa only [rSpeed, rNewSpeed, p0, not_false_eq_true, if_true] using h1) f1)
theorem sp_dim (hΓ : Ok G κ mX13_dim (d + 2) Q X) (h : MV G σ a r z A rw ρ η) {x : Int32} {k : Nat} (hx : x = nI k) (hk : k < 6) (hq : ∀ σ1 : Hp, MV G σ1 a r z A rw (rDim ρ k) η → MF a r σ σ1 → Q none σ1) : AW G κ cs ss 0 [lR a, lI x, none, none] [] σ := by
  suffices fin : AW G κ cs ss 34 [lR a, lI x, lI (ρ (58 + 15 * k + 8) - ρ (58 + 15 * k + 7)), lI (rDimS (ρ (58 + 15 * k + 8) - ρ (58 + 15 * k + 7)))] [] σ by
    refine sX13_dim_0 hΓ rfl ?_
    refine sX13_dim_1 hΓ rfl ?_
    refine sX13_dim_2 hΓ ?_
    refine sX13_dim_4 hΓ 0 0 (Nat.le_of_ble_eq_true rfl) h.o (fun κ_4 hΓ_4 => sp_of hΓ_4 h (w := 8) hx rfl hk (by decide) ?_)
    show AW G κ _ _ 7 _ _ _
    refine sX13_dim_7 hΓ rfl ?_
    refine sX13_dim_8 hΓ rfl ?_
    refine sX13_dim_9 hΓ ?_
    refine sX13_dim_11 hΓ 0 0 (Nat.le_of_ble_eq_true rfl) h.o (fun κ_11 hΓ_11 => sp_of hΓ_11 h (w := 7) hx rfl hk (by decide) ?_)
    show AW G κ _ _ 14 _ _ _
    refine sX13_dim_14 hΓ ?_
    refine sX13_dim_15 hΓ ?_
    refine sX13_dim_16 hΓ rfl ?_
    refine sX13_dim_17 hΓ (fun c17 => ?_) (fun c17 => ?_)
    · have e : rDimS (ρ (58 + 15 * k + 8) - ρ (58 + 15 * k + 7)) = _ := if_neg (Int32.not_lt.mpr c17)
      refine sX13_dim_24 hΓ rfl ?_
      refine sX13_dim_25 hΓ (fun c25 => ?_) (fun c25 => ?_)
      · rw [if_neg (Int32.not_lt.mpr c25)] at e
        rw [e] at fin
        refine sX13_dim_32 hΓ ?_
        refine sX13_dim_33 hΓ ?_
        exact fin
      · rw [if_pos (Int32.not_le.mp c25)] at e
        rw [e] at fin
        refine sX13_dim_28 hΓ ?_
        refine sX13_dim_29 hΓ ?_
        refine sX13_dim_33 hΓ ?_
        exact fin
    · have e : rDimS (ρ (58 + 15 * k + 8) - ρ (58 + 15 * k + 7)) = 1 := if_pos (Int32.not_le.mp c17)
      rw [e] at fin
      refine sX13_dim_20 hΓ ?_
      refine sX13_dim_21 hΓ ?_
      refine sX13_dim_33 hΓ ?_
      exact fin
  refine sX13_dim_34 hΓ rfl ?_
  refine sX13_dim_35 hΓ rfl ?_
  refine sX13_dim_36 hΓ ?_
  refine sX13_dim_38 hΓ rfl ?_
  refine sX13_dim_39 hΓ 0 0 (Nat.le_of_ble_eq_true rfl) h.o (fun κ_39 hΓ_39 => sp_hasPower hΓ_39 h (fun p0 => ?_) (fun p0 => ?_) )
  · show AW G κ _ _ 42 _ _ _
    refine sX13_dim_42 hΓ (fun c => absurd c (by decide)) (fun c => ?_)
    refine sX13_dim_45 hΓ rfl ?_
    refine sX13_dim_46 hΓ rfl ?_
    refine sX13_dim_47 hΓ ?_
    refine sX13_dim_49 hΓ 0 0 (Nat.le_of_ble_eq_true rfl) h.o (fun κ_49 hΓ_49 => sp_of hΓ_49 h (w := 7) hx rfl hk (by decide) ?_)
    show AW G κ _ _ 52 _ _ _
    refine sX13_dim_52 hΓ rfl ?_
    refine sX13_dim_53 hΓ ?_
    refine sX13_dim_54 hΓ ?_
    refine sX13_dim_58 hΓ 0 0 (Nat.le_of_ble_eq_true rfl) h.o (fun κ_58 hΓ_58 => sp_lay hΓ_58 h (w := 7) hx rfl hk (by decide) (fun σ1 h1 f1 => ?_))
    show AW G κ _ _ 61 _ _ _
    exact sX13_dim_61 hΓ (hq _ (by rw [rDim, if_pos p0]; exact h1) f1)
  · show AW G κ _ _ 42 _ _ _
    refine sX13_dim_42 hΓ (fun c => ?_) (fun c => absurd rfl c)
    refine sX13_dim_57 hΓ ?_
    refine sX13_dim_58 hΓ 0 0 (Nat.le_of_ble_eq_true rfl) h.o (fun κ_58 hΓ_58 => sp_lay hΓ_58 h (w := 7) hx rfl hk (by decide) (fun σ1 h1 f1 => ?_))
    show AW G κ _ _ 61 _ _ _
    exact sX13_dim_61 hΓ (hq _ (by rw [rDim, if_neg p0]; exact h1) f1)
theorem sp_moveTrain (hΓ : Ok G κ mX13_moveTrain (d + 3) Q X) (h : MV G σ a r z A rw ρ η) {x : Int32} {k n s : Nat} (hx : x = nI k) (hk : k < n) (hR : RW ρ n s) (hq : ∀ σ1 : Hp, MV G σ1 a r z A rw (rMove n s ρ k) η → MF a r σ σ1 → Q none σ1) : AW G κ cs ss 0 [lR a, lI x, none, none] [] σ := by
  have hk6 : k < 6 := Nat.lt_of_lt_of_le hk hR.2.1
  obtain ⟨j, hjs, hj⟩ := hR.2.2.2.2.2.1 k hk
  have hs24 := hR.2.2.2.2.1
  have hsj : rSec ρ k = j := by rw [rSec, hj]; exact nI_clamp (by omega)
  have hfst : fsB (fun k1 => upd ρ (58 + 15 * k + 4) (ρ (58 + 15 * k + 4) + ρ (58 + 15 * k + 5)) (58 + 15 * k1 + 3) == nI ((rSec ρ k + 1) % s)) n = rFirst ρ n 3 (nI ((rSec ρ k + 1) % s)) := by
    unfold rFirst
    congr 1
    funext k1
    rw [upd_ne (by omega)]
  refine sX13_moveTrain_0 hΓ rfl ?_
  refine sX13_moveTrain_1 hΓ rfl ?_
  refine sX13_moveTrain_2 hΓ ?_
  refine sX13_moveTrain_3 hΓ 0 0 (Nat.le_of_ble_eq_true rfl) h.o (fun κ_3 hΓ_3 => sp_of hΓ_3 h (w := 4) hx rfl hk6 (by decide) ?_)
  show AW G κ _ _ 6 _ _ _
  refine sX13_moveTrain_6 hΓ rfl ?_
  refine sX13_moveTrain_7 hΓ rfl ?_
  refine sX13_moveTrain_8 hΓ ?_
  refine sX13_moveTrain_9 hΓ 0 0 (Nat.le_of_ble_eq_true rfl) h.o (fun κ_9 hΓ_9 => sp_of hΓ_9 h (w := 5) hx rfl hk6 (by decide) ?_)
  show AW G κ _ _ 12 _ _ _
  refine sX13_moveTrain_12 hΓ ?_
  refine sX13_moveTrain_13 hΓ ?_
  refine sX13_moveTrain_14 hΓ rfl ?_
  refine sX13_moveTrain_15 hΓ rfl ?_
  refine sX13_moveTrain_16 hΓ ?_
  refine sX13_moveTrain_17 hΓ rfl ?_
  refine sX13_moveTrain_18 hΓ 0 0 (Nat.le_of_ble_eq_true rfl) h.o (fun κ_18 hΓ_18 => sp_lay hΓ_18 h (w := 4) hx rfl hk6 (by decide) (fun σ1 h1 f1 => ?_))
  show AW G κ _ _ 21 _ _ _
  refine sX13_moveTrain_21 hΓ rfl ?_
  refine sX13_moveTrain_22 hΓ ?_
  refine sX13_moveTrain_24 hΓ (fun c24 => ?_) (fun c24 => ?_)
  · have c24 := Int32.not_lt.mpr c24
    have hR1 : RW (upd ρ (58 + 15 * k + 4) (ρ (58 + 15 * k + 4) + ρ (58 + 15 * k + 5))) n s := hR.seg (by decide) (by decide) (by decide)
    refine sX13_moveTrain_28 hΓ rfl ?_
    refine sX13_moveTrain_29 hΓ rfl ?_
    refine sX13_moveTrain_30 hΓ rfl ?_
    refine sX13_moveTrain_31 hΓ ?_
    refine sX13_moveTrain_32 hΓ 0 0 (Nat.le_of_ble_eq_true rfl) h1.o (fun κ_32 hΓ_32 => sp_of hΓ_32 h1 (w := 3) hx rfl hk6 (by decide) ?_)
    show AW G κ _ _ 35 _ _ _
    refine sX13_moveTrain_35 hΓ 0 0 (Nat.le_of_ble_eq_true rfl) h1.o (fun κ_35 hΓ_35 => sp_behind hΓ_35 h1 hR1.2.2.1 hR.2.2.2.1 hs24 (by rw [upd_ne (by omega)]; exact hj) (by omega) ?_)
    show AW G κ _ _ 38 _ _ _
    refine sX13_moveTrain_38 hΓ ?_
    refine sX13_moveTrain_39 hΓ rfl ?_
    refine sX13_moveTrain_40 hΓ ?_
    refine sX13_moveTrain_41 hΓ rfl ?_
    refine sX13_moveTrain_42 hΓ 0 0 (Nat.le_of_ble_eq_true rfl) h1.o (fun κ_42 hΓ_42 => sp_first hΓ_42 h1 hR1.1 hR.2.1 (w := 3) rfl (by decide) ?_)
    rw [← hsj, hfst]
    show AW G κ _ _ 45 _ _ _
    refine sX13_moveTrain_45 hΓ ?_
    refine sX13_moveTrain_46 hΓ (fun c46 => ?_) (fun c46 => ?_)
    · have c : ¬ rFirst ρ n 3 (nI ((rSec ρ k + 1) % s)) = none := fun e => c46 (by rw [e]; rfl)
      refine sX13_moveTrain_77 hΓ rfl ?_
      refine sX13_moveTrain_78 hΓ rfl ?_
      refine sX13_moveTrain_79 hΓ ?_
      refine sX13_moveTrain_80 hΓ ?_
      refine sX13_moveTrain_82 hΓ 0 0 (Nat.le_of_ble_eq_true rfl) h1.o (fun κ_82 hΓ_82 => sp_lay hΓ_82 h1 (w := 4) hx rfl hk6 (by decide) (fun σ2 h2 f2 => ?_))
      show AW G κ _ _ 85 _ _ _
      refine sX13_moveTrain_85 hΓ rfl ?_
      refine sX13_moveTrain_86 hΓ rfl ?_
      refine sX13_moveTrain_87 hΓ ?_
      refine sX13_moveTrain_88 hΓ ?_
      refine sX13_moveTrain_89 hΓ 0 0 (Nat.le_of_ble_eq_true rfl) h2.o (fun κ_89 hΓ_89 => sp_lay hΓ_89 h2 (w := 5) hx rfl hk6 (by decide) (fun σ3 h3 f3 => ?_))
      show AW G κ _ _ 92 _ _ _
      refine sX13_moveTrain_92 hΓ rfl ?_
      refine sX13_moveTrain_93 hΓ rfl ?_
      refine sX13_moveTrain_94 hΓ ?_
      refine sX13_moveTrain_96 hΓ ?_
      refine sX13_moveTrain_97 hΓ 0 0 (Nat.le_of_ble_eq_true rfl) h3.o (fun κ_97 hΓ_97 => sp_add hΓ_97 h3 (w := 14) hx rfl hk6 (by decide) (fun σ4 h4 f4 => ?_))
      show AW G κ _ _ 100 _ _ _
      exact sX13_moveTrain_100 hΓ (hq _ (by first | (rw [rMove, if_neg c24, if_pos c]; exact h4) | (rw [rMove, if_neg c24, if_neg c]; exact h4)) (((f1.tr f2).tr f3).tr f4))
    · have c : rFirst ρ n 3 (nI ((rSec ρ k + 1) % s)) = none := (oI_none c46).elim id (fun e => by obtain ⟨k1, e1, e2⟩ := e; have := (fsB_lt _ e1).1; have := hR.2.1; omega)
      refine sX13_moveTrain_49 hΓ rfl ?_
      refine sX13_moveTrain_50 hΓ rfl ?_
      refine sX13_moveTrain_51 hΓ ?_
      refine sX13_moveTrain_52 hΓ rfl ?_
      refine sX13_moveTrain_53 hΓ 0 0 (Nat.le_of_ble_eq_true rfl) h1.o (fun κ_53 hΓ_53 => sp_lay hΓ_53 h1 (w := 3) hx rfl hk6 (by decide) (fun σ5 h5 f5 => ?_))
      show AW G κ _ _ 56 _ _ _
      refine sX13_moveTrain_56 hΓ rfl ?_
      refine sX13_moveTrain_57 hΓ rfl ?_
      refine sX13_moveTrain_58 hΓ ?_
      refine sX13_moveTrain_59 hΓ rfl ?_
      refine sX13_moveTrain_60 hΓ ?_
      refine sX13_moveTrain_62 hΓ ?_
      refine sX13_moveTrain_63 hΓ 0 0 (Nat.le_of_ble_eq_true rfl) h5.o (fun κ_63 hΓ_63 => sp_lay hΓ_63 h5 (w := 4) hx rfl hk6 (by decide) (fun σ6 h6 f6 => ?_))
      show AW G κ _ _ 66 _ _ _
      refine sX13_moveTrain_66 hΓ rfl ?_
      refine sX13_moveTrain_67 hΓ rfl ?_
      refine sX13_moveTrain_68 hΓ ?_
      refine sX13_moveTrain_70 hΓ ?_
      refine sX13_moveTrain_71 hΓ 0 0 (Nat.le_of_ble_eq_true rfl) h6.o (fun κ_71 hΓ_71 => sp_add hΓ_71 h6 (w := 10) hx rfl hk6 (by decide) (fun σ7 h7 f7 => ?_))
      show AW G κ _ _ 74 _ _ _
      refine sX13_moveTrain_74 hΓ ?_
      exact sX13_moveTrain_100 hΓ (hq _ (by first | (rw [rMove, if_neg c24, if_pos c]; exact h7) | (rw [rMove, if_neg c24, if_neg c]; exact h7)) (((f1.tr f5).tr f6).tr f7))
  · have c24 := Int32.not_le.mp c24
    exact sX13_moveTrain_27 hΓ (hq _ (by rw [rMove, if_pos c24]; exact h1) f1)
end ModelTick
