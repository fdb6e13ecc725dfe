/-! the reference's methods that tell -/
theorem updI_updI (f : Nat → Int32) (k : Nat) (x y : Int32) : upd (upd f k x) k y = upd f k y := by
  funext j
  by_cases h : j = k
  · rw [h, upd_same, upd_same]
  · rw [upd_ne h, upd_ne h, upd_ne h]
def rIn (x lo hi : Int32) : Bool := decide (lo ≤ x) && decide (x ≤ hi)
abbrev rIsT (ρ : Nat → Int32) (x : Int32) : Bool := rIn x 0 (ρ 3 - 1)
abbrev rIsS (ρ : Nat → Int32) (x : Int32) : Bool := rIn x 0 (ρ 1 - 1)
abbrev rIsP (ρ : Nat → Int32) (x : Int32) : Bool := rIn x 0 (ρ 6 - 1)
theorem rIn_lo {x lo hi : Int32} (h : x < lo) : rIn x lo hi = false := by
  unfold rIn
  rw [decide_eq_false (Int32.not_le.mpr h), Bool.false_and]
theorem rIn_hi {x lo hi : Int32} (h : hi < x) : rIn x lo hi = false := by
  unfold rIn
  rw [decide_eq_false (Int32.not_le.mpr h), Bool.and_false]
theorem rIn_in {x lo hi : Int32} (h1 : ¬ x < lo) (h2 : ¬ hi < x) : rIn x lo hi = true := by
  unfold rIn
  rw [decide_eq_true (Int32.not_lt.mp h1), decide_eq_true (Int32.not_lt.mp h2)]
  rfl
theorem rIn_t {x lo hi : Int32} (h : rIn x lo hi = true) : lo ≤ x ∧ x ≤ hi := by
  unfold rIn at h
  rw [Bool.and_eq_true] at h
  exact ⟨of_decide_eq_true h.1, of_decide_eq_true h.2⟩
theorem rIn_nI {x : Int32} {n : Nat} (hn : n < 2 ^ 30) (h : rIn x 0 (nI n - 1) = true) : ∃ k, k < n ∧ x = nI k := by
  obtain ⟨h1, h2⟩ := rIn_t h
  rcases Nat.eq_zero_or_pos n with e | e
  · subst e
    exact absurd (Int32.le_trans h1 h2) (by decide)
  · have e1 : nI n - 1 = nI (n - 1) := pk_sub (b := 1) e
    rw [e1] at h2
    obtain ⟨j, hj, hx⟩ := nI_of2 (nI_toInt (by omega)) (Int32.not_lt.mpr h1) h2
    exact ⟨j, by omega, hx⟩
theorem rIn_ok {x : Int32} {k n : Nat} (hn : n < 2 ^ 30) (hk : k < n) (hx : x = nI k) : rIn x 0 (nI n - 1) = true := by
  have e1 : nI n - 1 = nI (n - 1) := pk_sub (b := 1) (by omega)
  rw [e1, hx]
  exact rIn_in (nI_pos (by omega)) (Int32.not_lt.mpr (nI_le (by omega) (by omega)))
theorem bN_0 {b : Bool} (h : bI (!b) = 0) : b = true := by cases b with | true => rfl | false => exact absurd h (by decide)
theorem bN_n {b : Bool} (h : ¬ bI (!b) = 0) : b = false := by cases b with | false => rfl | true => exact absurd rfl h
def rThr2 (b c : Bool) : Int32 := if b = true then (if c = true then 0 else 2) else 1
theorem rThr2_0 {b c : Bool} (h : bI (!(b && c)) = 0) : b = true ∧ c = true := by cases b <;> cases c <;> first | exact ⟨rfl, rfl⟩ | exact absurd h (by decide)
def rTold (ρ : Nat → Int32) (x : Int32) (w : Nat) : Int32 := if rIsT ρ x = true then ρ (58 + 15 * x.toNatClampNeg + w) else 0
def rFlag (ρ : Nat → Int32) (b : Nat) (x : Int32) : Bool := rIsS ρ x && (ρ (b + x.toNatClampNeg) == 1)
def rInS (ρ : Nat → Int32) (n : Nat) (x : Int32) : Int32 := if rIsS ρ x = true then oI (rFirst ρ n 3 x) else 0
def rCnt (ρ : Nat → Int32) (b s : Nat) : Int32 := sumN (fun j => ρ (b + j)) s
def rSum (ρ : Nat → Int32) (w n : Nat) : Int32 := sumN (fun k => ρ (58 + 15 * k + w)) n
def rFast (ρ : Nat → Int32) (m : Nat) : Nat := iter (fun b k => if ρ (58 + 15 * b + 5) < ρ (58 + 15 * (k + 1) + 5) then k + 1 else b) 0 m
theorem rFast_le (ρ : Nat → Int32) : ∀ m, rFast ρ m ≤ m
  | 0 => Nat.le_refl 0
  | m + 1 => by
    show (if _ then m + 1 else rFast ρ m) ≤ m + 1
    split
    · exact Nat.le_refl _
    · exact Nat.le_succ_of_le (rFast_le ρ m)
def rFreeP (ρ : Nat → Int32) (n s j m : Nat) : Bool := (rFirst ρ n 3 (nI ((j + 1 + m) % s))).isSome
def rFree (ρ : Nat → Int32) (n s j : Nat) : Int32 := oI (fsB (rFreeP ρ n s j) s)
def rFreeA (ρ : Nat → Int32) (n s : Nat) (x : Int32) : Int32 := if rIsT ρ x = true then rFree ρ n s (rSec ρ x.toNatClampNeg) else 0
def rToldP (ρ : Nat → Int32) (x : Int32) (w : Nat) : Int32 := if rIsP ρ x = true then ρ (148 + 3 * x.toNatClampNeg + w) else 0
def rIntact (ρ : Nat → Int32) (x : Int32) : Bool := rIsP ρ x && rWhole ρ x.toNatClampNeg
def rForN (ρ : Nat → Int32) (q k : Nat) : Int32 := sumN (fun p => bI (rFor ρ p k)) q
def rPackets (ρ : Nat → Int32) (q : Nat) (x : Int32) : Int32 := if rIsT ρ x = true then rForN ρ q x.toNatClampNeg else 0
abbrev rByte (x : Int32) : Bool := rIn x 0 255
def rCheck (x y : Int32) : Int32 := if (rByte x && rByte y) = true then x ^^^ y else 0
def rAbs (x : Int32) : Int32 := if x < 0 then -x else x
def rPairI (ρ : Nat → Int32) (i j : Nat) : Int32 := sumN (fun j => bI (ρ (58 + 15 * i + 3) == ρ (58 + 15 * j + 3))) j
def rPairs (ρ : Nat → Int32) (n : Nat) : Int32 := sumN (fun i => rPairI ρ i i) n
def rGap (ρ : Nat → Int32) (n : Nat) : Int32 := rAbs (ρ 7 - ρ 8 - ρ 9 - ρ 6) + rPairs ρ n
def rBrk (dist : Bool) (v : Int32) : Nat → Int32 → Int32 → Int32
  | 0, _, acc => acc
  | f + 1, s, acc => if 0 < s then rBrk dist v f (rBraked s v) (acc + (if dist = true then rBraked s v else 1)) else acc
def rBrake (ρ : Nat → Int32) (dist : Bool) (x : Int32) : Int32 := if rIsT ρ x = true then rBrk dist (ρ (58 + 15 * x.toNatClampNeg + 2)) 28 (ρ (58 + 15 * x.toNatClampNeg + 5)) 0 else 0
theorem rBraked_nI {m d : Nat} (hm : m < 2 ^ 30) (hm0 : 0 < m) (hd0 : 0 < d) (hd : d < 2 ^ 30) : ∃ m1, m1 < m ∧ rBraked (nI m) (nI d) = nI m1 := by
  refine ⟨m - (if m / d ≤ 1 then 1 else m / d), ?_, ?_⟩
  · split <;> omega
  · unfold rBraked iMax
    rw [pk_div (by omega) hd0 (by omega)]
    have hq : m / d ≤ m := Nat.div_le_self m d
    by_cases c : m / d ≤ 1
    · rw [if_pos c]
      by_cases c2 : m / d < 1
      · rw [if_pos (show nI (m / d) < (1 : Int32) from nI_lt (b := 1) c2 (by omega))]
        exact pk_sub (b := 1) hm0
      · rw [if_neg (show ¬ nI (m / d) < (1 : Int32) from nI_nlt (b := 1) (by omega) (by omega)), show m / d = 1 by omega]
        exact pk_sub (b := 1) hm0
    · rw [if_neg c, if_neg (show ¬ nI (m / d) < (1 : Int32) from nI_nlt (b := 1) (by omega) (by omega))]
      exact pk_sub hq
section ModelTell
variable {G : Gl} {κ : Kx} {d : Nat} {Q : Option Value → Hp → Prop} {X : String → Hp → Prop} {cs ss : Nat} {σ : Hp} {a : Nat} {r : Nat → Nat} {z : Nat → Int32} {A : Nat → Nat → Int32} {rw : Nat} {ρ η : Nat → Int32}
theorem sp_inRange (hΓ : Ok G κ mX13_inRange (d + 0) Q X) {x lo hi : Int32} (hq : Q (some (.int (bI (rIn x lo hi)))) σ) : AW G κ cs ss 0 [lI x, lI lo, lI hi] [] σ := by
  refine sX13_inRange_0 hΓ rfl ?_
  refine sX13_inRange_1 hΓ rfl ?_
  refine sX13_inRange_2 hΓ (fun c2 => ?_) (fun c2 => ?_)
  · rw [rIn_lo c2] at hq
    refine sX13_inRange_14 hΓ ?_
    exact sX13_inRange_15 hΓ (by first | exact Or.inl rfl | exact Or.inr rfl) hq
  · refine sX13_inRange_5 hΓ rfl ?_
    refine sX13_inRange_6 hΓ rfl ?_
    refine sX13_inRange_7 hΓ (fun c7 => ?_) (fun c7 => ?_)
    · rw [rIn_hi c7] at hq
      refine sX13_inRange_14 hΓ ?_
      exact sX13_inRange_15 hΓ (by first | exact Or.inl rfl | exact Or.inr rfl) hq
    · rw [rIn_in c2 c7] at hq
      refine sX13_inRange_10 hΓ ?_
      refine sX13_inRange_11 hΓ ?_
      exact sX13_inRange_15 hΓ (by first | exact Or.inl rfl | exact Or.inr rfl) hq
theorem sp_lacks (hΓ : Ok G κ mX13_lacks (d + 0) Q X) (h : MV G σ a r z A rw ρ η) {x : Int32} {b : Bool} (hx : x = bI b) (hq : ∀ σ1 : Hp, MV G σ1 a r (upd z 9 (bI (!b))) A rw ρ η → MF a r σ σ1 → Q (some (.int (bI (!b)))) σ1) : AW G κ cs ss 0 [lR a, lI x] [] σ := by
  subst hx
  cases b with
  | true =>
    refine sX13_lacks_0 hΓ rfl ?_
    refine sX13_lacks_1 hΓ rfl ?_
    refine sX13_lacks_2 hΓ (fun c2 => absurd c2 (by decide)) (fun c2 => ?_)
    refine sX13_lacks_5 hΓ ?_
    refine sX13_lacks_6 hΓ ?_
    refine sX13_lacks_10 hΓ h.o  (Nat.le_of_ble_eq_true rfl) (mv_z h (upd z 9 0) rfl (fun σ1 h1 f1 => ?_))
    refine sX13_lacks_13 hΓ rfl ?_
    refine sX13_lacks_14 hΓ (fun c14 => ?_) (fun c14 => absurd c14 (by decide))
    refine sX13_lacks_21 hΓ ?_
    exact sX13_lacks_22 hΓ (Or.inl rfl) (hq _ h1 f1)
  | false =>
    refine sX13_lacks_0 hΓ rfl ?_
    refine sX13_lacks_1 hΓ rfl ?_
    refine sX13_lacks_2 hΓ (fun c2 => ?_) (fun c2 => absurd rfl c2)
    refine sX13_lacks_9 hΓ ?_
    refine sX13_lacks_10 hΓ h.o  (Nat.le_of_ble_eq_true rfl) (mv_z h (upd z 9 1) rfl (fun σ1 h1 f1 => ?_))
    refine sX13_lacks_13 hΓ rfl ?_
    refine sX13_lacks_14 hΓ (fun c14 => absurd rfl c14) (fun c14 => ?_)
    refine sX13_lacks_17 hΓ ?_
    refine sX13_lacks_18 hΓ ?_
    exact sX13_lacks_22 hΓ (Or.inr rfl) (hq _ h1 f1)
theorem sp_lacksBoth (hΓ : Ok G κ mX13_lacksBoth (d + 1) Q X) (h : MV G σ a r z A rw ρ η) {x y : Int32} {b c : Bool} (hx : x = bI b) (hy : y = bI c) (hq : ∀ σ1 : Hp, MV G σ1 a r (upd z 9 (rThr2 b c)) A rw ρ η → MF a r σ σ1 → Q (some (.int (bI (!(b && c))))) σ1) : AW G κ cs ss 0 [lR a, lI x, lI y] [] σ := by
  subst hx
  subst hy
  cases b with
  | false =>
    refine sX13_lacksBoth_0 hΓ rfl ?_
    refine sX13_lacksBoth_1 hΓ rfl ?_
    refine sX13_lacksBoth_2 hΓ 0 0 (Nat.le_of_ble_eq_true rfl) h.o (fun κ_2 hΓ_2 => sp_lacks hΓ_2 h rfl (fun σ1 h1 f1 => ?_))
    show AW G κ _ _ 5 _ _ _
    refine sX13_lacksBoth_5 hΓ (fun c5 => absurd c5 (by decide)) (fun c5 => ?_)
    refine sX13_lacksBoth_8 hΓ ?_
    exact sX13_lacksBoth_9 hΓ (Or.inr rfl) (hq _ h1 f1)
  | true =>
    cases c with
    | true =>
      refine sX13_lacksBoth_0 hΓ rfl ?_
      refine sX13_lacksBoth_1 hΓ rfl ?_
      refine sX13_lacksBoth_2 hΓ 0 0 (Nat.le_of_ble_eq_true rfl) h.o (fun κ_2 hΓ_2 => sp_lacks hΓ_2 h rfl (fun σ1 h1 f1 => ?_))
      show AW G κ _ _ 5 _ _ _
      refine sX13_lacksBoth_5 hΓ (fun c5 => ?_) (fun c5 => absurd rfl c5)
      refine sX13_lacksBoth_10 hΓ rfl ?_
      refine sX13_lacksBoth_11 hΓ rfl ?_
      refine sX13_lacksBoth_12 hΓ (fun c12 => absurd c12 (by decide)) (fun c12 => ?_)
      refine sX13_lacksBoth_15 hΓ ?_
      refine sX13_lacksBoth_16 hΓ ?_
      refine sX13_lacksBoth_20 hΓ h1.o  (Nat.le_of_ble_eq_true rfl) (mv_z h1 (upd (upd z 9 (bI (!true))) 9 0) rfl (fun σ2 h2 f2 => ?_))
      refine sX13_lacksBoth_23 hΓ rfl ?_
      refine sX13_lacksBoth_24 hΓ h2.o rfl ?_
      refine sX13_lacksBoth_27 hΓ (fun c27 => ?_) (fun c27 => absurd rfl c27)
      refine sX13_lacksBoth_34 hΓ ?_
      exact sX13_lacksBoth_35 hΓ (Or.inl rfl) (hq _ (by rw [updI_updI] at h2; exact h2) (f1.tr f2))
    | false =>
      refine sX13_lacksBoth_0 hΓ rfl ?_
      refine sX13_lacksBoth_1 hΓ rfl ?_
      refine sX13_lacksBoth_2 hΓ 0 0 (Nat.le_of_ble_eq_true rfl) h.o (fun κ_2 hΓ_2 => sp_lacks hΓ_2 h rfl (fun σ1 h1 f1 => ?_))
      show AW G κ _ _ 5 _ _ _
      refine sX13_lacksBoth_5 hΓ (fun c5 => ?_) (fun c5 => absurd rfl c5)
      refine sX13_lacksBoth_10 hΓ rfl ?_
      refine sX13_lacksBoth_11 hΓ rfl ?_
      refine sX13_lacksBoth_12 hΓ (fun c12 => ?_) (fun c12 => absurd rfl c12)
      refine sX13_lacksBoth_19 hΓ ?_
      refine sX13_lacksBoth_20 hΓ h1.o  (Nat.le_of_ble_eq_true rfl) (mv_z h1 (upd (upd z 9 (bI (!true))) 9 2) rfl (fun σ2 h2 f2 => ?_))
      refine sX13_lacksBoth_23 hΓ rfl ?_
      refine sX13_lacksBoth_24 hΓ h2.o rfl ?_
      refine sX13_lacksBoth_27 hΓ (fun c27 => absurd c27 (by rw [upd_same]; decide)) (fun c27 => ?_)
      refine sX13_lacksBoth_30 hΓ ?_
      refine sX13_lacksBoth_31 hΓ ?_
      exact sX13_lacksBoth_35 hΓ (Or.inr rfl) (hq _ (by rw [updI_updI] at h2; exact h2) (f1.tr f2))
theorem sp_isTrain (hΓ : Ok G κ mX13_isTrain (d + 1) Q X) (h : MV G σ a r z A rw ρ η) {x : Int32} (hq : Q (some (.int (bI (rIsT ρ x)))) σ) : AW G κ cs ss 0 [lR a, lI x] [] σ := by
  refine sX13_isTrain_0 hΓ rfl ?_
  refine sX13_isTrain_1 hΓ ?_
  refine sX13_isTrain_2 hΓ rfl ?_
  refine sX13_isTrain_3 hΓ h.o rfl ?_
  refine sX13_isTrain_6 hΓ ?_
  refine sX13_isTrain_7 hΓ h.row (j := 3) rfl (by decide) (by decide) ?_
  refine sX13_isTrain_8 hΓ ?_
  refine sX13_isTrain_9 hΓ ?_
  refine sX13_isTrain_10 hΓ 0 0 (Nat.le_of_ble_eq_true rfl) (fun κ_10 hΓ_10 => sp_inRange hΓ_10 ?_)
  show AW G κ _ _ 13 _ _ _
  exact sX13_isTrain_13 hΓ (bI_01 _) hq
theorem sp_isSection (hΓ : Ok G κ mX13_isSection (d + 1) Q X) (h : MV G σ a r z A rw ρ η) {x : Int32} (hq : Q (some (.int (bI (rIsS ρ x)))) σ) : AW G κ cs ss 0 [lR a, lI x] [] σ := by
  refine sX13_isSection_0 hΓ rfl ?_
  refine sX13_isSection_1 hΓ ?_
  refine sX13_isSection_2 hΓ rfl ?_
  refine sX13_isSection_3 hΓ h.o rfl ?_
  refine sX13_isSection_6 hΓ ?_
  refine sX13_isSection_7 hΓ h.row (j := 1) rfl (by decide) (by decide) ?_
  refine sX13_isSection_8 hΓ ?_
  refine sX13_isSection_9 hΓ ?_
  refine sX13_isSection_10 hΓ 0 0 (Nat.le_of_ble_eq_true rfl) (fun κ_10 hΓ_10 => sp_inRange hΓ_10 ?_)
  show AW G κ _ _ 13 _ _ _
  exact sX13_isSection_13 hΓ (bI_01 _) hq
theorem sp_isPacket (hΓ : Ok G κ mX13_isPacket (d + 1) Q X) (h : MV G σ a r z A rw ρ η) {x : Int32} (hq : Q (some (.int (bI (rIsP ρ x)))) σ) : AW G κ cs ss 0 [lR a, lI x] [] σ := by
  refine sX13_isPacket_0 hΓ rfl ?_
  refine sX13_isPacket_1 hΓ ?_
  refine sX13_isPacket_2 hΓ rfl ?_
  refine sX13_isPacket_3 hΓ h.o rfl ?_
  refine sX13_isPacket_6 hΓ ?_
  refine sX13_isPacket_8 hΓ h.row (j := 6) rfl (by decide) (by decide) ?_
  refine sX13_isPacket_9 hΓ ?_
  refine sX13_isPacket_10 hΓ ?_
  refine sX13_isPacket_11 hΓ 0 0 (Nat.le_of_ble_eq_true rfl) (fun κ_11 hΓ_11 => sp_inRange hΓ_11 ?_)
  show AW G κ _ _ 14 _ _ _
  exact sX13_isPacket_14 hΓ (bI_01 _) hq
theorem sp_sizeOf (hΓ : Ok G κ mX13_sizeOf (d + 0) Q X) {x : Int32} (hq : Q (some (.int (rAbs x))) σ) : AW G κ cs ss 0 [lI x] [] σ := by
  refine sX13_sizeOf_0 hΓ rfl ?_
  refine sX13_sizeOf_1 hΓ (fun c1 => ?_) (fun c1 => ?_)
  · rw [rAbs, if_neg (Int32.not_lt.mpr c1)] at hq
    refine sX13_sizeOf_9 hΓ rfl ?_
    exact sX13_sizeOf_10 hΓ hq
  · rw [rAbs, if_pos (Int32.not_le.mp c1)] at hq
    refine sX13_sizeOf_4 hΓ rfl ?_
    refine sX13_sizeOf_5 hΓ ?_
    refine sX13_sizeOf_6 hΓ ?_
    exact sX13_sizeOf_10 hΓ hq
theorem sp_tick (hΓ : Ok G κ mX13_tick (d + 0) Q X) (h : MV G σ a r z A rw ρ η) (hq : ∀ σ1 : Hp, MV G σ1 a r (upd z 9 0) A rw ρ η → MF a r σ σ1 → Q (some (.int (ρ 0))) σ1) : AW G κ cs ss 0 [lR a] [] σ := by
  refine sX13_tick_0 hΓ rfl ?_
  refine sX13_tick_1 hΓ ?_
  refine sX13_tick_2 hΓ h.o  (Nat.le_of_ble_eq_true rfl) (mv_z h (upd z 9 0) rfl (fun σ1 h1 f1 => ?_))
  refine sX13_tick_5 hΓ rfl ?_
  refine sX13_tick_6 hΓ h1.o rfl ?_
  refine sX13_tick_9 hΓ ?_
  refine sX13_tick_10 hΓ h1.row (j := 0) rfl (by decide) (by decide) ?_
  exact sX13_tick_11 hΓ (hq _ h1 f1)
theorem sp_sectionCount (hΓ : Ok G κ mX13_sectionCount (d + 0) Q X) (h : MV G σ a r z A rw ρ η) (hq : ∀ σ1 : Hp, MV G σ1 a r (upd z 9 0) A rw ρ η → MF a r σ σ1 → Q (some (.int (ρ 1))) σ1) : AW G κ cs ss 0 [lR a] [] σ := by
  refine sX13_sectionCount_0 hΓ rfl ?_
  refine sX13_sectionCount_1 hΓ ?_
  refine sX13_sectionCount_2 hΓ h.o  (Nat.le_of_ble_eq_true rfl) (mv_z h (upd z 9 0) rfl (fun σ1 h1 f1 => ?_))
  refine sX13_sectionCount_5 hΓ rfl ?_
  refine sX13_sectionCount_6 hΓ h1.o rfl ?_
  refine sX13_sectionCount_9 hΓ ?_
  refine sX13_sectionCount_10 hΓ h1.row (j := 1) rfl (by decide) (by decide) ?_
  exact sX13_sectionCount_11 hΓ (hq _ h1 f1)
theorem sp_remainingCutoff (hΓ : Ok G κ mX13_remainingCutoff (d + 0) Q X) (h : MV G σ a r z A rw ρ η) (hq : ∀ σ1 : Hp, MV G σ1 a r (upd z 9 0) A rw ρ η → MF a r σ σ1 → Q (some (.int (ρ 4))) σ1) : AW G κ cs ss 0 [lR a] [] σ := by
  refine sX13_remainingCutoff_0 hΓ rfl ?_
  refine sX13_remainingCutoff_1 hΓ ?_
  refine sX13_remainingCutoff_2 hΓ h.o  (Nat.le_of_ble_eq_true rfl) (mv_z h (upd z 9 0) rfl (fun σ1 h1 f1 => ?_))
  refine sX13_remainingCutoff_5 hΓ rfl ?_
  refine sX13_remainingCutoff_6 hΓ h1.o rfl ?_
  refine sX13_remainingCutoff_9 hΓ ?_
  refine sX13_remainingCutoff_10 hΓ h1.row (j := 4) rfl (by decide) (by decide) ?_
  exact sX13_remainingCutoff_11 hΓ (hq _ h1 f1)
theorem sp_cutoffs (hΓ : Ok G κ mX13_cutoffs (d + 0) Q X) (h : MV G σ a r z A rw ρ η) (hq : ∀ σ1 : Hp, MV G σ1 a r (upd z 9 0) A rw ρ η → MF a r σ σ1 → Q (some (.int (ρ 5))) σ1) : AW G κ cs ss 0 [lR a] [] σ := by
  refine sX13_cutoffs_0 hΓ rfl ?_
  refine sX13_cutoffs_1 hΓ ?_
  refine sX13_cutoffs_2 hΓ h.o  (Nat.le_of_ble_eq_true rfl) (mv_z h (upd z 9 0) rfl (fun σ1 h1 f1 => ?_))
  refine sX13_cutoffs_5 hΓ rfl ?_
  refine sX13_cutoffs_6 hΓ h1.o rfl ?_
  refine sX13_cutoffs_9 hΓ ?_
  refine sX13_cutoffs_10 hΓ h1.row (j := 5) rfl (by decide) (by decide) ?_
  exact sX13_cutoffs_11 hΓ (hq _ h1 f1)
theorem sp_trainCount (hΓ : Ok G κ mX13_trainCount (d + 0) Q X) (h : MV G σ a r z A rw ρ η) (hq : ∀ σ1 : Hp, MV G σ1 a r (upd z 9 0) A rw ρ η → MF a r σ σ1 → Q (some (.int (ρ 3))) σ1) : AW G κ cs ss 0 [lR a] [] σ := by
  refine sX13_trainCount_0 hΓ rfl ?_
  refine sX13_trainCount_1 hΓ ?_
  refine sX13_trainCount_2 hΓ h.o  (Nat.le_of_ble_eq_true rfl) (mv_z h (upd z 9 0) rfl (fun σ1 h1 f1 => ?_))
  refine sX13_trainCount_5 hΓ rfl ?_
  refine sX13_trainCount_6 hΓ h1.o rfl ?_
  refine sX13_trainCount_9 hΓ ?_
  refine sX13_trainCount_10 hΓ h1.row (j := 3) rfl (by decide) (by decide) ?_
  exact sX13_trainCount_11 hΓ (hq _ h1 f1)
theorem sp_queueLength (hΓ : Ok G κ mX13_queueLength (d + 0) Q X) (h : MV G σ a r z A rw ρ η) (hq : ∀ σ1 : Hp, MV G σ1 a r (upd z 9 0) A rw ρ η → MF a r σ σ1 → Q (some (.int (ρ 6))) σ1) : AW G κ cs ss 0 [lR a] [] σ := by
  refine sX13_queueLength_0 hΓ rfl ?_
  refine sX13_queueLength_1 hΓ ?_
  refine sX13_queueLength_2 hΓ h.o  (Nat.le_of_ble_eq_true rfl) (mv_z h (upd z 9 0) rfl (fun σ1 h1 f1 => ?_))
  refine sX13_queueLength_5 hΓ rfl ?_
  refine sX13_queueLength_6 hΓ h1.o rfl ?_
  refine sX13_queueLength_9 hΓ ?_
  refine sX13_queueLength_11 hΓ h1.row (j := 6) rfl (by decide) (by decide) ?_
  exact sX13_queueLength_12 hΓ (hq _ h1 f1)
theorem sp_sentPackets (hΓ : Ok G κ mX13_sentPackets (d + 0) Q X) (h : MV G σ a r z A rw ρ η) (hq : ∀ σ1 : Hp, MV G σ1 a r (upd z 9 0) A rw ρ η → MF a r σ σ1 → Q (some (.int (ρ 8))) σ1) : AW G κ cs ss 0 [lR a] [] σ := by
  refine sX13_sentPackets_0 hΓ rfl ?_
  refine sX13_sentPackets_1 hΓ ?_
  refine sX13_sentPackets_2 hΓ h.o  (Nat.le_of_ble_eq_true rfl) (mv_z h (upd z 9 0) rfl (fun σ1 h1 f1 => ?_))
  refine sX13_sentPackets_5 hΓ rfl ?_
  refine sX13_sentPackets_6 hΓ h1.o rfl ?_
  refine sX13_sentPackets_9 hΓ ?_
  refine sX13_sentPackets_11 hΓ h1.row (j := 8) rfl (by decide) (by decide) ?_
  exact sX13_sentPackets_12 hΓ (hq _ h1 f1)
theorem sp_isTunnel (hΓ : Ok G κ mX13_isTunnel (d + 2) Q X) (h : MV G σ a r z A rw ρ η) {n s : Nat} (hR : RW ρ n s) {x : Int32} (hq : ∀ σ1 : Hp, MV G σ1 a r (upd z 9 (bI (!rIsS ρ x))) A rw ρ η → MF a r σ σ1 → Q (some (.int (bI (rFlag ρ 10 x)))) σ1) : AW G κ cs ss 0 [lR a, lI x] [] σ := by
  have hs24 := hR.2.2.2.2.1
  refine sX13_isTunnel_0 hΓ rfl ?_
  refine sX13_isTunnel_1 hΓ rfl ?_
  refine sX13_isTunnel_2 hΓ rfl ?_
  refine sX13_isTunnel_3 hΓ 0 0 (Nat.le_of_ble_eq_true rfl) h.o (fun κ_3 hΓ_3 => sp_isSection hΓ_3 h ?_)
  show AW G κ _ _ 6 _ _ _
  refine sX13_isTunnel_6 hΓ 0 0 (Nat.le_of_ble_eq_true rfl) h.o (fun κ_6 hΓ_6 => sp_lacks hΓ_6 h rfl (fun σ1 h1 f1 => ?_))
  show AW G κ _ _ 9 _ _ _
  refine sX13_isTunnel_9 hΓ (fun c9 => ?_) (fun c9 => ?_)
  · have c := bN_n c9
    have e : rFlag ρ 10 x = false := by rw [rFlag, c, Bool.false_and]
    rw [e] at hq
    refine sX13_isTunnel_29 hΓ ?_
    exact sX13_isTunnel_30 hΓ (by first | exact Or.inl rfl | exact Or.inr rfl) (hq _ h1 f1)
  · have c := bN_0 c9
    obtain ⟨k, hk, hx⟩ := rIn_nI (n := s) (by omega) (by rw [← hR.2.2.1]; exact c)
    refine sX13_isTunnel_12 hΓ rfl ?_
    refine sX13_isTunnel_13 hΓ h1.o rfl ?_
    refine sX13_isTunnel_16 hΓ ?_
    refine sX13_isTunnel_18 hΓ rfl ?_
    refine sX13_isTunnel_19 hΓ ?_
    refine sX13_isTunnel_20 hΓ h1.row (ixS (k := 10) rfl hx) (by omega) (by decide) ?_
    refine sX13_isTunnel_21 hΓ ?_
    refine sX13_isTunnel_22 hΓ (fun c22 => ?_) (fun c22 => ?_)
    · have e : rFlag ρ 10 x = false := by rw [rFlag, hx, nI_clamp (by omega), beq_eq_false_iff_ne.mpr c22, Bool.and_false]
      rw [e] at hq
      refine sX13_isTunnel_29 hΓ ?_
      exact sX13_isTunnel_30 hΓ (by first | exact Or.inl rfl | exact Or.inr rfl) (hq _ h1 f1)
    · have e : rFlag ρ 10 x = true := by rw [rFlag, c, hx, nI_clamp (by omega), c22]; rfl
      rw [e] at hq
      refine sX13_isTunnel_25 hΓ ?_
      refine sX13_isTunnel_26 hΓ ?_
      exact sX13_isTunnel_30 hΓ (by first | exact Or.inl rfl | exact Or.inr rfl) (hq _ h1 f1)
theorem sp_hasShort (hΓ : Ok G κ mX13_hasShort (d + 2) Q X) (h : MV G σ a r z A rw ρ η) {n s : Nat} (hR : RW ρ n s) {x : Int32} (hq : ∀ σ1 : Hp, MV G σ1 a r (upd z 9 (bI (!rIsS ρ x))) A rw ρ η → MF a r σ σ1 → Q (some (.int (bI (rFlag ρ 34 x)))) σ1) : AW G κ cs ss 0 [lR a, lI x] [] σ := by
  have hs24 := hR.2.2.2.2.1
  refine sX13_hasShort_0 hΓ rfl ?_
  refine sX13_hasShort_1 hΓ rfl ?_
  refine sX13_hasShort_2 hΓ rfl ?_
  refine sX13_hasShort_3 hΓ 0 0 (Nat.le_of_ble_eq_true rfl) h.o (fun κ_3 hΓ_3 => sp_isSection hΓ_3 h ?_)
  show AW G κ _ _ 6 _ _ _
  refine sX13_hasShort_6 hΓ 0 0 (Nat.le_of_ble_eq_true rfl) h.o (fun κ_6 hΓ_6 => sp_lacks hΓ_6 h rfl (fun σ1 h1 f1 => ?_))
  show AW G κ _ _ 9 _ _ _
  refine sX13_hasShort_9 hΓ (fun c9 => ?_) (fun c9 => ?_)
  · have c := bN_n c9
    have e : rFlag ρ 34 x = false := by rw [rFlag, c, Bool.false_and]
    rw [e] at hq
    refine sX13_hasShort_29 hΓ ?_
    exact sX13_hasShort_30 hΓ (by first | exact Or.inl rfl | exact Or.inr rfl) (hq _ h1 f1)
  · have c := bN_0 c9
    obtain ⟨k, hk, hx⟩ := rIn_nI (n := s) (by omega) (by rw [← hR.2.2.1]; exact c)
    refine sX13_hasShort_12 hΓ rfl ?_
    refine sX13_hasShort_13 hΓ h1.o rfl ?_
    refine sX13_hasShort_16 hΓ ?_
    refine sX13_hasShort_18 hΓ rfl ?_
    refine sX13_hasShort_19 hΓ ?_
    refine sX13_hasShort_20 hΓ h1.row (ixS (k := 34) rfl hx) (by omega) (by decide) ?_
    refine sX13_hasShort_21 hΓ ?_
    refine sX13_hasShort_22 hΓ (fun c22 => ?_) (fun c22 => ?_)
    · have e : rFlag ρ 34 x = false := by rw [rFlag, hx, nI_clamp (by omega), beq_eq_false_iff_ne.mpr c22, Bool.and_false]
      rw [e] at hq
      refine sX13_hasShort_29 hΓ ?_
      exact sX13_hasShort_30 hΓ (by first | exact Or.inl rfl | exact Or.inr rfl) (hq _ h1 f1)
    · have e : rFlag ρ 34 x = true := by rw [rFlag, c, hx, nI_clamp (by omega), c22]; rfl
      rw [e] at hq
      refine sX13_hasShort_25 hΓ ?_
      refine sX13_hasShort_26 hΓ ?_
      exact sX13_hasShort_30 hΓ (by first | exact Or.inl rfl | exact Or.inr rfl) (hq _ h1 f1)
theorem sp_trainIn (hΓ : Ok G κ mX13_trainIn (d + 2) Q X) (h : MV G σ a r z A rw ρ η) {n s : Nat} (hR : RW ρ n s) {x : Int32} (hq : ∀ σ1 : Hp, MV G σ1 a r (upd z 9 (bI (!rIsS ρ x))) A rw ρ η → MF a r σ σ1 → Q (some (.int (rInS ρ n x))) σ1) : AW G κ cs ss 0 [lR a, lI x] [] σ := by
  refine sX13_trainIn_0 hΓ rfl ?_
  refine sX13_trainIn_1 hΓ rfl ?_
  refine sX13_trainIn_2 hΓ rfl ?_
  refine sX13_trainIn_3 hΓ 0 0 (Nat.le_of_ble_eq_true rfl) h.o (fun κ_3 hΓ_3 => sp_isSection hΓ_3 h ?_)
  show AW G κ _ _ 6 _ _ _
  refine sX13_trainIn_6 hΓ 0 0 (Nat.le_of_ble_eq_true rfl) h.o (fun κ_6 hΓ_6 => sp_lacks hΓ_6 h rfl (fun σ1 h1 f1 => ?_))
  show AW G κ _ _ 9 _ _ _
  refine sX13_trainIn_9 hΓ (fun c9 => ?_) (fun c9 => ?_)
  · rw [rInS, if_pos (bN_0 c9)] at hq
    refine sX13_trainIn_16 hΓ rfl ?_
    refine sX13_trainIn_17 hΓ ?_
    refine sX13_trainIn_18 hΓ rfl ?_
    refine sX13_trainIn_19 hΓ 0 0 (Nat.le_of_ble_eq_true rfl) h1.o (fun κ_19 hΓ_19 => sp_first hΓ_19 h1 hR.1 hR.2.1 (w := 3) rfl (by decide) ?_)
    show AW G κ _ _ 22 _ _ _
    exact sX13_trainIn_22 hΓ (hq _ h1 f1)
  · rw [rInS, if_neg (by rw [bN_n c9]; exact Bool.false_ne_true)] at hq
    refine sX13_trainIn_12 hΓ ?_
    refine sX13_trainIn_13 hΓ ?_
    exact sX13_trainIn_22 hΓ (hq _ h1 f1)
theorem sp_countIn (hΓ : Ok G κ mX13_countIn (d + 0) Q X) (h : MV G σ a r z A rw ρ η) {n s b : Nat} (hR : RW ρ n s) {y : Int32} (hy : y = nI b) (hb : b < 100) (hq : Q (some (.int (rCnt ρ b s))) σ) : AW G κ cs ss 0 [lR a, lI y, none, none] [] σ := by
  have hs := hR.2.2.1
  have hs24 := hR.2.2.2.2.1
  suffices loop : ∀ (m i : Nat) (x : Int32) (u : Int32), i + m = s → x = nI i → u = rCnt ρ b i → AW G κ cs ss 4 [lR a, lI y, lI u, lI x] [] σ by
    refine sX13_countIn_0 hΓ ?_
    refine sX13_countIn_1 hΓ ?_
    refine sX13_countIn_2 hΓ ?_
    refine sX13_countIn_3 hΓ ?_
    exact loop s 0 _ _ (Nat.zero_add s) rfl rfl
  intro m
  induction m with
  | zero =>
    intro i x u hi hx hu
    refine sX13_countIn_4 hΓ rfl ?_
    refine sX13_countIn_5 hΓ rfl ?_
    refine sX13_countIn_6 hΓ h.o rfl ?_
    refine sX13_countIn_9 hΓ ?_
    refine sX13_countIn_10 hΓ h.row (j := 1) rfl (by decide) (by decide) ?_
    refine sX13_countIn_11 hΓ (fun c11 => ?_) (fun c11 => absurd (lp_out hx hs (by omega) (by omega)) c11)
    refine sX13_countIn_31 hΓ rfl ?_
    exact sX13_countIn_32 hΓ (by rw [hu, show i = s by omega]; exact hq)
  | succ m ih =>
    intro i x u hi hx hu
    refine sX13_countIn_4 hΓ rfl ?_
    refine sX13_countIn_5 hΓ rfl ?_
    refine sX13_countIn_6 hΓ h.o rfl ?_
    refine sX13_countIn_9 hΓ ?_
    refine sX13_countIn_10 hΓ h.row (j := 1) rfl (by decide) (by decide) ?_
    refine sX13_countIn_11 hΓ (fun c11 => absurd c11 (lp_in hx hs (by omega) (by omega))) (fun c11 => ?_)
    refine sX13_countIn_14 hΓ rfl ?_
    refine sX13_countIn_15 hΓ rfl ?_
    refine sX13_countIn_16 hΓ h.o rfl ?_
    refine sX13_countIn_19 hΓ rfl ?_
    refine sX13_countIn_20 hΓ rfl ?_
    refine sX13_countIn_21 hΓ ?_
    refine sX13_countIn_22 hΓ h.row (ixS hy hx) (by omega) (by decide) ?_
    refine sX13_countIn_23 hΓ ?_
    refine sX13_countIn_24 hΓ ?_
    refine sX13_countIn_25 hΓ rfl ?_
    refine sX13_countIn_28 hΓ ?_
    exact ih (i + 1) _ _ (by omega) (lp_1 hx) (by rw [hu]; rfl)
theorem sp_tunnelCount (hΓ : Ok G κ mX13_tunnelCount (d + 1) Q X) (h : MV G σ a r z A rw ρ η) {n s : Nat} (hR : RW ρ n s) (hq : ∀ σ1 : Hp, MV G σ1 a r (upd z 9 0) A rw ρ η → MF a r σ σ1 → Q (some (.int (rCnt ρ 10 s))) σ1) : AW G κ cs ss 0 [lR a] [] σ := by
  refine sX13_tunnelCount_0 hΓ rfl ?_
  refine sX13_tunnelCount_1 hΓ ?_
  refine sX13_tunnelCount_2 hΓ h.o  (Nat.le_of_ble_eq_true rfl) (mv_z h (upd z 9 0) rfl (fun σ1 h1 f1 => ?_))
  refine sX13_tunnelCount_5 hΓ rfl ?_
  refine sX13_tunnelCount_6 hΓ ?_
  refine sX13_tunnelCount_8 hΓ 0 0 (Nat.le_of_ble_eq_true rfl) h1.o (fun κ_8 hΓ_8 => sp_countIn hΓ_8 h1 hR (b := 10) rfl (by decide) ?_)
  show AW G κ _ _ 11 _ _ _
  exact sX13_tunnelCount_11 hΓ (hq _ h1 f1)
theorem sp_isPowerOn (hΓ : Ok G κ mX13_isPowerOn (d + 1) Q X) (h : MV G σ a r z A rw ρ η) (hq : ∀ σ1 : Hp, MV G σ1 a r (upd z 9 0) A rw ρ η → MF a r σ σ1 → Q (some (.int (bI (ρ 4 == 0)))) σ1) : AW G κ cs ss 0 [lR a] [] σ := by
  refine sX13_isPowerOn_0 hΓ rfl ?_
  refine sX13_isPowerOn_1 hΓ ?_
  refine sX13_isPowerOn_2 hΓ h.o  (Nat.le_of_ble_eq_true rfl) (mv_z h (upd z 9 0) rfl (fun σ1 h1 f1 => ?_))
  refine sX13_isPowerOn_5 hΓ rfl ?_
  refine sX13_isPowerOn_6 hΓ 0 0 (Nat.le_of_ble_eq_true rfl) h1.o (fun κ_6 hΓ_6 => sp_hasPower hΓ_6 h1 (fun p0 => ?_) (fun p0 => ?_) )
  · rw [beq_iff_eq.mpr p0] at hq
    show AW G κ _ _ 9 _ _ _
    exact sX13_isPowerOn_9 hΓ (Or.inr rfl) (hq _ h1 f1)
  · rw [beq_eq_false_iff_ne.mpr p0] at hq
    show AW G κ _ _ 9 _ _ _
    exact sX13_isPowerOn_9 hΓ (Or.inl rfl) (hq _ h1 f1)
theorem sp_told (hΓ : Ok G κ mX13_told (d + 2) Q X) (h : MV G σ a r z A rw ρ η) {n s w : Nat} (hR : RW ρ n s) {x y : Int32} (hy : y = nI w) (hw : w < 15) (hq : ∀ σ1 : Hp, MV G σ1 a r (upd z 9 (bI (!rIsT ρ x))) A rw ρ η → MF a r σ σ1 → Q (some (.int (rTold ρ x w))) σ1) : AW G κ cs ss 0 [lR a, lI x, lI y] [] σ := by
  have hn6 := hR.2.1
  refine sX13_told_0 hΓ rfl ?_
  refine sX13_told_1 hΓ rfl ?_
  refine sX13_told_2 hΓ rfl ?_
  refine sX13_told_3 hΓ 0 0 (Nat.le_of_ble_eq_true rfl) h.o (fun κ_3 hΓ_3 => sp_isTrain hΓ_3 h ?_)
  show AW G κ _ _ 6 _ _ _
  refine sX13_told_6 hΓ 0 0 (Nat.le_of_ble_eq_true rfl) h.o (fun κ_6 hΓ_6 => sp_lacks hΓ_6 h rfl (fun σ1 h1 f1 => ?_))
  show AW G κ _ _ 9 _ _ _
  refine sX13_told_9 hΓ (fun c9 => ?_) (fun c9 => ?_)
  · have c := bN_0 c9
    obtain ⟨k, hk, hx⟩ := rIn_nI (n := n) (by omega) (by rw [← hR.1]; exact c)
    rw [rTold, if_pos c, hx, nI_clamp (by omega), ← hx] at hq
    refine sX13_told_16 hΓ rfl ?_
    refine sX13_told_17 hΓ rfl ?_
    refine sX13_told_18 hΓ rfl ?_
    refine sX13_told_19 hΓ 0 0 (Nat.le_of_ble_eq_true rfl) h1.o (fun κ_19 hΓ_19 => sp_of hΓ_19 h1 hx hy (by omega) hw ?_)
    show AW G κ _ _ 22 _ _ _
    exact sX13_told_22 hΓ (hq _ h1 f1)
  · rw [rTold, if_neg (by rw [bN_n c9]; exact Bool.false_ne_true)] at hq
    refine sX13_told_12 hΓ ?_
    refine sX13_told_13 hΓ ?_
    exact sX13_told_22 hΓ (hq _ h1 f1)
theorem sp_address (hΓ : Ok G κ mX13_address (d + 3) Q X) (h : MV G σ a r z A rw ρ η) {n s : Nat} (hR : RW ρ n s) {x : Int32} (hq : ∀ σ1 : Hp, MV G σ1 a r (upd z 9 (bI (!rIsT ρ x))) A rw ρ η → MF a r σ σ1 → Q (some (.int (rTold ρ x 0))) σ1) : AW G κ cs ss 0 [lR a, lI x] [] σ := by
  refine sX13_address_0 hΓ rfl ?_
  refine sX13_address_1 hΓ rfl ?_
  refine sX13_address_2 hΓ ?_
  refine sX13_address_3 hΓ 0 0 (Nat.le_of_ble_eq_true rfl) h.o (fun κ_3 hΓ_3 => sp_told hΓ_3 h hR (w := 0) rfl (by decide) (fun σ1 h1 f1 => ?_))
  show AW G κ _ _ 6 _ _ _
  exact sX13_address_6 hΓ (hq _ h1 f1)
theorem sp_sectionOf (hΓ : Ok G κ mX13_sectionOf (d + 3) Q X) (h : MV G σ a r z A rw ρ η) {n s : Nat} (hR : RW ρ n s) {x : Int32} (hq : ∀ σ1 : Hp, MV G σ1 a r (upd z 9 (bI (!rIsT ρ x))) A rw ρ η → MF a r σ σ1 → Q (some (.int (rTold ρ x 3))) σ1) : AW G κ cs ss 0 [lR a, lI x] [] σ := by
  refine sX13_sectionOf_0 hΓ rfl ?_
  refine sX13_sectionOf_1 hΓ rfl ?_
  refine sX13_sectionOf_2 hΓ ?_
  refine sX13_sectionOf_3 hΓ 0 0 (Nat.le_of_ble_eq_true rfl) h.o (fun κ_3 hΓ_3 => sp_told hΓ_3 h hR (w := 3) rfl (by decide) (fun σ1 h1 f1 => ?_))
  show AW G κ _ _ 6 _ _ _
  exact sX13_sectionOf_6 hΓ (hq _ h1 f1)
theorem sp_advance (hΓ : Ok G κ mX13_advance (d + 3) Q X) (h : MV G σ a r z A rw ρ η) {n s : Nat} (hR : RW ρ n s) {x : Int32} (hq : ∀ σ1 : Hp, MV G σ1 a r (upd z 9 (bI (!rIsT ρ x))) A rw ρ η → MF a r σ σ1 → Q (some (.int (rTold ρ x 4))) σ1) : AW G κ cs ss 0 [lR a, lI x] [] σ := by
  refine sX13_advance_0 hΓ rfl ?_
  refine sX13_advance_1 hΓ rfl ?_
  refine sX13_advance_2 hΓ ?_
  refine sX13_advance_3 hΓ 0 0 (Nat.le_of_ble_eq_true rfl) h.o (fun κ_3 hΓ_3 => sp_told hΓ_3 h hR (w := 4) rfl (by decide) (fun σ1 h1 f1 => ?_))
  show AW G κ _ _ 6 _ _ _
  exact sX13_advance_6 hΓ (hq _ h1 f1)
theorem sp_speed (hΓ : Ok G κ mX13_speed (d + 3) Q X) (h : MV G σ a r z A rw ρ η) {n s : Nat} (hR : RW ρ n s) {x : Int32} (hq : ∀ σ1 : Hp, MV G σ1 a r (upd z 9 (bI (!rIsT ρ x))) A rw ρ η → MF a r σ σ1 → Q (some (.int (rTold ρ x 5))) σ1) : AW G κ cs ss 0 [lR a, lI x] [] σ := by
  refine sX13_speed_0 hΓ rfl ?_
  refine sX13_speed_1 hΓ rfl ?_
  refine sX13_speed_2 hΓ ?_
  refine sX13_speed_3 hΓ 0 0 (Nat.le_of_ble_eq_true rfl) h.o (fun κ_3 hΓ_3 => sp_told hΓ_3 h hR (w := 5) rfl (by decide) (fun σ1 h1 f1 => ?_))
  show AW G κ _ _ 6 _ _ _
  exact sX13_speed_6 hΓ (hq _ h1 f1)
theorem sp_targetSpeed (hΓ : Ok G κ mX13_targetSpeed (d + 3) Q X) (h : MV G σ a r z A rw ρ η) {n s : Nat} (hR : RW ρ n s) {x : Int32} (hq : ∀ σ1 : Hp, MV G σ1 a r (upd z 9 (bI (!rIsT ρ x))) A rw ρ η → MF a r σ σ1 → Q (some (.int (rTold ρ x 6))) σ1) : AW G κ cs ss 0 [lR a, lI x] [] σ := by
  refine sX13_targetSpeed_0 hΓ rfl ?_
  refine sX13_targetSpeed_1 hΓ rfl ?_
  refine sX13_targetSpeed_2 hΓ ?_
  refine sX13_targetSpeed_4 hΓ 0 0 (Nat.le_of_ble_eq_true rfl) h.o (fun κ_4 hΓ_4 => sp_told hΓ_4 h hR (w := 6) rfl (by decide) (fun σ1 h1 f1 => ?_))
  show AW G κ _ _ 7 _ _ _
  exact sX13_targetSpeed_7 hΓ (hq _ h1 f1)
theorem sp_brightness (hΓ : Ok G κ mX13_brightness (d + 3) Q X) (h : MV G σ a r z A rw ρ η) {n s : Nat} (hR : RW ρ n s) {x : Int32} (hq : ∀ σ1 : Hp, MV G σ1 a r (upd z 9 (bI (!rIsT ρ x))) A rw ρ η → MF a r σ σ1 → Q (some (.int (rTold ρ x 7))) σ1) : AW G κ cs ss 0 [lR a, lI x] [] σ := by
  refine sX13_brightness_0 hΓ rfl ?_
  refine sX13_brightness_1 hΓ rfl ?_
  refine sX13_brightness_2 hΓ ?_
  refine sX13_brightness_4 hΓ 0 0 (Nat.le_of_ble_eq_true rfl) h.o (fun κ_4 hΓ_4 => sp_told hΓ_4 h hR (w := 7) rfl (by decide) (fun σ1 h1 f1 => ?_))
  show AW G κ _ _ 7 _ _ _
  exact sX13_brightness_7 hΓ (hq _ h1 f1)
theorem sp_duty (hΓ : Ok G κ mX13_duty (d + 3) Q X) (h : MV G σ a r z A rw ρ η) {n s : Nat} (hR : RW ρ n s) {x : Int32} (hq : ∀ σ1 : Hp, MV G σ1 a r (upd z 9 (bI (!rIsT ρ x))) A rw ρ η → MF a r σ σ1 → Q (some (.int (rTold ρ x 8))) σ1) : AW G κ cs ss 0 [lR a, lI x] [] σ := by
  refine sX13_duty_0 hΓ rfl ?_
  refine sX13_duty_1 hΓ rfl ?_
  refine sX13_duty_2 hΓ ?_
  refine sX13_duty_4 hΓ 0 0 (Nat.le_of_ble_eq_true rfl) h.o (fun κ_4 hΓ_4 => sp_told hΓ_4 h hR (w := 8) rfl (by decide) (fun σ1 h1 f1 => ?_))
  show AW G κ _ _ 7 _ _ _
  exact sX13_duty_7 hΓ (hq _ h1 f1)
theorem sp_silence (hΓ : Ok G κ mX13_silence (d + 3) Q X) (h : MV G σ a r z A rw ρ η) {n s : Nat} (hR : RW ρ n s) {x : Int32} (hq : ∀ σ1 : Hp, MV G σ1 a r (upd z 9 (bI (!rIsT ρ x))) A rw ρ η → MF a r σ σ1 → Q (some (.int (rTold ρ x 9))) σ1) : AW G κ cs ss 0 [lR a, lI x] [] σ := by
  refine sX13_silence_0 hΓ rfl ?_
  refine sX13_silence_1 hΓ rfl ?_
  refine sX13_silence_2 hΓ ?_
  refine sX13_silence_4 hΓ 0 0 (Nat.le_of_ble_eq_true rfl) h.o (fun κ_4 hΓ_4 => sp_told hΓ_4 h hR (w := 9) rfl (by decide) (fun σ1 h1 f1 => ?_))
  show AW G κ _ _ 7 _ _ _
  exact sX13_silence_7 hΓ (hq _ h1 f1)
theorem sp_sectionsEntered (hΓ : Ok G κ mX13_sectionsEntered (d + 3) Q X) (h : MV G σ a r z A rw ρ η) {n s : Nat} (hR : RW ρ n s) {x : Int32} (hq : ∀ σ1 : Hp, MV G σ1 a r (upd z 9 (bI (!rIsT ρ x))) A rw ρ η → MF a r σ σ1 → Q (some (.int (rTold ρ x 10))) σ1) : AW G κ cs ss 0 [lR a, lI x] [] σ := by
  refine sX13_sectionsEntered_0 hΓ rfl ?_
  refine sX13_sectionsEntered_1 hΓ rfl ?_
  refine sX13_sectionsEntered_2 hΓ ?_
  refine sX13_sectionsEntered_4 hΓ 0 0 (Nat.le_of_ble_eq_true rfl) h.o (fun κ_4 hΓ_4 => sp_told hΓ_4 h hR (w := 10) rfl (by decide) (fun σ1 h1 f1 => ?_))
  show AW G κ _ _ 7 _ _ _
  exact sX13_sectionsEntered_7 hΓ (hq _ h1 f1)
theorem sp_obeyed (hΓ : Ok G κ mX13_obeyed (d + 3) Q X) (h : MV G σ a r z A rw ρ η) {n s : Nat} (hR : RW ρ n s) {x : Int32} (hq : ∀ σ1 : Hp, MV G σ1 a r (upd z 9 (bI (!rIsT ρ x))) A rw ρ η → MF a r σ σ1 → Q (some (.int (rTold ρ x 11))) σ1) : AW G κ cs ss 0 [lR a, lI x] [] σ := by
  refine sX13_obeyed_0 hΓ rfl ?_
  refine sX13_obeyed_1 hΓ rfl ?_
  refine sX13_obeyed_2 hΓ ?_
  refine sX13_obeyed_4 hΓ 0 0 (Nat.le_of_ble_eq_true rfl) h.o (fun κ_4 hΓ_4 => sp_told hΓ_4 h hR (w := 11) rfl (by decide) (fun σ1 h1 f1 => ?_))
  show AW G κ _ _ 7 _ _ _
  exact sX13_obeyed_7 hΓ (hq _ h1 f1)
theorem sp_rejected (hΓ : Ok G κ mX13_rejected (d + 3) Q X) (h : MV G σ a r z A rw ρ η) {n s : Nat} (hR : RW ρ n s) {x : Int32} (hq : ∀ σ1 : Hp, MV G σ1 a r (upd z 9 (bI (!rIsT ρ x))) A rw ρ η → MF a r σ σ1 → Q (some (.int (rTold ρ x 12))) σ1) : AW G κ cs ss 0 [lR a, lI x] [] σ := by
  refine sX13_rejected_0 hΓ rfl ?_
  refine sX13_rejected_1 hΓ rfl ?_
  refine sX13_rejected_2 hΓ ?_
  refine sX13_rejected_4 hΓ 0 0 (Nat.le_of_ble_eq_true rfl) h.o (fun κ_4 hΓ_4 => sp_told hΓ_4 h hR (w := 12) rfl (by decide) (fun σ1 h1 f1 => ?_))
  show AW G κ _ _ 7 _ _ _
  exact sX13_rejected_7 hΓ (hq _ h1 f1)
theorem sp_unheard (hΓ : Ok G κ mX13_unheard (d + 3) Q X) (h : MV G σ a r z A rw ρ η) {n s : Nat} (hR : RW ρ n s) {x : Int32} (hq : ∀ σ1 : Hp, MV G σ1 a r (upd z 9 (bI (!rIsT ρ x))) A rw ρ η → MF a r σ σ1 → Q (some (.int (rTold ρ x 13))) σ1) : AW G κ cs ss 0 [lR a, lI x] [] σ := by
  refine sX13_unheard_0 hΓ rfl ?_
  refine sX13_unheard_1 hΓ rfl ?_
  refine sX13_unheard_2 hΓ ?_
  refine sX13_unheard_4 hΓ 0 0 (Nat.le_of_ble_eq_true rfl) h.o (fun κ_4 hΓ_4 => sp_told hΓ_4 h hR (w := 13) rfl (by decide) (fun σ1 h1 f1 => ?_))
  show AW G κ _ _ 7 _ _ _
  exact sX13_unheard_7 hΓ (hq _ h1 f1)
theorem sp_blockedTicks (hΓ : Ok G κ mX13_blockedTicks (d + 3) Q X) (h : MV G σ a r z A rw ρ η) {n s : Nat} (hR : RW ρ n s) {x : Int32} (hq : ∀ σ1 : Hp, MV G σ1 a r (upd z 9 (bI (!rIsT ρ x))) A rw ρ η → MF a r σ σ1 → Q (some (.int (rTold ρ x 14))) σ1) : AW G κ cs ss 0 [lR a, lI x] [] σ := by
  refine sX13_blockedTicks_0 hΓ rfl ?_
  refine sX13_blockedTicks_1 hΓ rfl ?_
  refine sX13_blockedTicks_2 hΓ ?_
  refine sX13_blockedTicks_4 hΓ 0 0 (Nat.le_of_ble_eq_true rfl) h.o (fun κ_4 hΓ_4 => sp_told hΓ_4 h hR (w := 14) rfl (by decide) (fun σ1 h1 f1 => ?_))
  show AW G κ _ _ 7 _ _ _
  exact sX13_blockedTicks_7 hΓ (hq _ h1 f1)
theorem sp_trainWith (hΓ : Ok G κ mX13_trainWith (d + 2) Q X) (h : MV G σ a r z A rw ρ η) {n s : Nat} (hR : RW ρ n s) {x : Int32} (hq : ∀ σ1 : Hp, MV G σ1 a r (upd z 9 0) A rw ρ η → MF a r σ σ1 → Q (some (.int (oI (rFirst ρ n 0 x)))) σ1) : AW G κ cs ss 0 [lR a, lI x] [] σ := by
  refine sX13_trainWith_0 hΓ rfl ?_
  refine sX13_trainWith_1 hΓ ?_
  refine sX13_trainWith_2 hΓ h.o  (Nat.le_of_ble_eq_true rfl) (mv_z h (upd z 9 0) rfl (fun σ1 h1 f1 => ?_))
  refine sX13_trainWith_5 hΓ rfl ?_
  refine sX13_trainWith_6 hΓ ?_
  refine sX13_trainWith_7 hΓ rfl ?_
  refine sX13_trainWith_8 hΓ 0 0 (Nat.le_of_ble_eq_true rfl) h1.o (fun κ_8 hΓ_8 => sp_first hΓ_8 h1 hR.1 hR.2.1 (w := 0) rfl (by decide) ?_)
  show AW G κ _ _ 11 _ _ _
  exact sX13_trainWith_11 hΓ (hq _ h1 f1)
theorem sp_fastestTrain (hΓ : Ok G κ mX13_fastestTrain (d + 1) Q X) (h : MV G σ a r z A rw ρ η) {n s : Nat} (hR : RW ρ n s) (hq : ∀ σ1 : Hp, MV G σ1 a r (upd z 9 0) A rw ρ η → MF a r σ σ1 → Q (some (.int (nI (rFast ρ (n - 1))))) σ1) : AW G κ cs ss 0 [lR a, none, none] [] σ := by
  refine sX13_fastestTrain_0 hΓ rfl ?_
  refine sX13_fastestTrain_1 hΓ ?_
  refine sX13_fastestTrain_2 hΓ h.o  (Nat.le_of_ble_eq_true rfl) (mv_z h (upd z 9 0) rfl (fun σ1 h1 f1 => ?_))
  have hn := hR.1
  have hn6 := hR.2.1
  suffices loop : ∀ (m i : Nat) (x : Int32) (u : Int32), i + m = n → x = nI i → u = nI (rFast ρ (i - 1)) → 1 ≤ i → AW G κ cs ss 9 [lR a, lI u, lI x] [] σ1 by
    refine sX13_fastestTrain_5 hΓ ?_
    refine sX13_fastestTrain_6 hΓ ?_
    refine sX13_fastestTrain_7 hΓ ?_
    refine sX13_fastestTrain_8 hΓ ?_
    rcases Nat.lt_or_ge n 1 with e0 | e0
    · refine sX13_fastestTrain_9 hΓ rfl ?_
      refine sX13_fastestTrain_10 hΓ rfl ?_
      refine sX13_fastestTrain_11 hΓ h1.o rfl ?_
      refine sX13_fastestTrain_14 hΓ ?_
      refine sX13_fastestTrain_15 hΓ h1.row (j := 3) rfl (by decide) (by decide) ?_
      refine sX13_fastestTrain_16 hΓ (fun c => ?_) (fun c => absurd (lp_out (i := 1) (n := n) rfl hn (by omega) (by omega)) c)
      refine sX13_fastestTrain_46 hΓ rfl ?_
      exact sX13_fastestTrain_47 hΓ (by have hq := hq _ h1 f1; rw [show n - 1 = 0 by omega] at hq; exact hq)
    · exact loop (n - 1) 1 _ _ (by omega) rfl rfl (Nat.le_refl 1)
  intro m
  induction m with
  | zero =>
    intro i x u hi hx hu hi1
    refine sX13_fastestTrain_9 hΓ rfl ?_
    refine sX13_fastestTrain_10 hΓ rfl ?_
    refine sX13_fastestTrain_11 hΓ h1.o rfl ?_
    refine sX13_fastestTrain_14 hΓ ?_
    refine sX13_fastestTrain_15 hΓ h1.row (j := 3) rfl (by decide) (by decide) ?_
    refine sX13_fastestTrain_16 hΓ (fun c16 => ?_) (fun c16 => absurd (lp_out hx hn (by omega) (by omega)) c16)
    refine sX13_fastestTrain_46 hΓ rfl ?_
    exact sX13_fastestTrain_47 hΓ (by rw [hu]; have hq := hq _ h1 f1; rw [show n = i by omega] at hq; exact hq)
  | succ m ih =>
    intro i x u hi hx hu hi1
    have hb := rFast_le ρ (i - 1)
    obtain ⟨i0, rfl⟩ : ∃ i0, i = i0 + 1 := ⟨i - 1, by omega⟩
    have e : rFast ρ (i0 + 1) = if ρ (58 + 15 * (rFast ρ i0) + 5) < ρ (58 + 15 * (i0 + 1) + 5) then i0 + 1 else rFast ρ i0 := rfl
    rw [Nat.add_sub_cancel] at hb hu
    refine sX13_fastestTrain_9 hΓ rfl ?_
    refine sX13_fastestTrain_10 hΓ rfl ?_
    refine sX13_fastestTrain_11 hΓ h1.o rfl ?_
    refine sX13_fastestTrain_14 hΓ ?_
    refine sX13_fastestTrain_15 hΓ h1.row (j := 3) rfl (by decide) (by decide) ?_
    refine sX13_fastestTrain_16 hΓ (fun c16 => absurd c16 (lp_in hx hn (by omega) (by omega))) (fun c16 => ?_)
    refine sX13_fastestTrain_19 hΓ rfl ?_
    refine sX13_fastestTrain_20 hΓ rfl ?_
    refine sX13_fastestTrain_21 hΓ ?_
    refine sX13_fastestTrain_22 hΓ 0 0 (Nat.le_of_ble_eq_true rfl) h1.o (fun κ_22 hΓ_22 => sp_of hΓ_22 h1 (w := 5) hx rfl (by omega) (by decide) ?_)
    show AW G κ _ _ 25 _ _ _
    refine sX13_fastestTrain_25 hΓ rfl ?_
    refine sX13_fastestTrain_26 hΓ rfl ?_
    refine sX13_fastestTrain_27 hΓ ?_
    refine sX13_fastestTrain_28 hΓ 0 0 (Nat.le_of_ble_eq_true rfl) h1.o (fun κ_28 hΓ_28 => sp_of hΓ_28 h1 (w := 5) hu rfl (by omega) (by decide) ?_)
    show AW G κ _ _ 31 _ _ _
    refine sX13_fastestTrain_31 hΓ (fun c31 => ?_) (fun c31 => ?_)
    · refine sX13_fastestTrain_38 hΓ rfl ?_
      refine sX13_fastestTrain_39 hΓ ?_
      refine sX13_fastestTrain_40 hΓ rfl ?_
      refine sX13_fastestTrain_43 hΓ ?_
      exact ih (i0 + 1 + 1) _ _ (by omega) (lp_1 hx) (by rw [Nat.add_sub_cancel, e]; first | rw [if_neg (Int32.not_lt.mpr c31)]; exact hu | rw [if_pos (Int32.not_le.mp c31)]; exact hx) (by omega)
    · refine sX13_fastestTrain_34 hΓ rfl ?_
      refine sX13_fastestTrain_35 hΓ ?_
      refine sX13_fastestTrain_39 hΓ ?_
      refine sX13_fastestTrain_40 hΓ rfl ?_
      refine sX13_fastestTrain_43 hΓ ?_
      exact ih (i0 + 1 + 1) _ _ (by omega) (lp_1 hx) (by rw [Nat.add_sub_cancel, e]; first | rw [if_neg (Int32.not_lt.mpr c31)]; exact hu | rw [if_pos (Int32.not_le.mp c31)]; exact hx) (by omega)
theorem sp_freeAhead (hΓ : Ok G κ mX13_freeAhead (d + 2) Q X) (h : MV G σ a r z A rw ρ η) {n s : Nat} (hR : RW ρ n s) {x : Int32} (hq : ∀ σ1 : Hp, MV G σ1 a r (upd z 9 (bI (!rIsT ρ x))) A rw ρ η → MF a r σ σ1 → Q (some (.int (rFreeA ρ n s x))) σ1) : AW G κ cs ss 0 [lR a, lI x, none, none] [] σ := by
  have hn6 := hR.2.1
  refine sX13_freeAhead_0 hΓ rfl ?_
  refine sX13_freeAhead_1 hΓ rfl ?_
  refine sX13_freeAhead_2 hΓ rfl ?_
  refine sX13_freeAhead_3 hΓ 0 0 (Nat.le_of_ble_eq_true rfl) h.o (fun κ_3 hΓ_3 => sp_isTrain hΓ_3 h ?_)
  show AW G κ _ _ 6 _ _ _
  refine sX13_freeAhead_6 hΓ 0 0 (Nat.le_of_ble_eq_true rfl) h.o (fun κ_6 hΓ_6 => sp_lacks hΓ_6 h rfl (fun σ1 h1 f1 => ?_))
  show AW G κ _ _ 9 _ _ _
  refine sX13_freeAhead_9 hΓ (fun c9 => ?_) (fun c9 => ?_)
  · have c := bN_0 c9
    obtain ⟨k, hk, hx⟩ := rIn_nI (n := n) (by omega) (by rw [← hR.1]; exact c)
    obtain ⟨j, hjs, hj⟩ := hR.2.2.2.2.2.1 k hk
    have hs := hR.2.2.1
    have hs4 := hR.2.2.2.1
    have hs24 := hR.2.2.2.2.1
    have hsj : rSec ρ k = j := by rw [rSec, hj]; exact nI_clamp (by omega)
    rw [rFreeA, if_pos c, hx, nI_clamp (by omega), ← hx, hsj] at hq
    have hlast : rFreeP ρ n s j (s - 1) = true := by
      rw [rFreeP, show j + 1 + (s - 1) = j + s by omega, Nat.add_mod_right, Nat.mod_eq_of_lt hjs]
      cases e : rFirst ρ n 3 (nI j) with
      | some _ => rfl
      | none => exact absurd (fsB_ne _ e k hk) (by rw [hj, beq_self_eq_true]; exact Bool.true_eq_false.mp ∘ fun h => h)
    suffices loop : ∀ (m i : Nat) (u y : Int32), i + m = s → u = nI i → y = nI ((j + 1 + i) % s) → (∀ i1, i1 < i → rFreeP ρ n s j i1 = false) → AW G κ cs ss 27 [lR a, lI x, lI u, lI y] [] σ1 by
      refine sX13_freeAhead_14 hΓ ?_
      refine sX13_freeAhead_15 hΓ ?_
      refine sX13_freeAhead_16 hΓ rfl ?_
      refine sX13_freeAhead_17 hΓ rfl ?_
      refine sX13_freeAhead_18 hΓ rfl ?_
      refine sX13_freeAhead_19 hΓ ?_
      refine sX13_freeAhead_20 hΓ 0 0 (Nat.le_of_ble_eq_true rfl) h1.o (fun κ_20 hΓ_20 => sp_of hΓ_20 h1 (w := 3) hx rfl (by omega) (by decide) ?_)
      show AW G κ _ _ 23 _ _ _
      refine sX13_freeAhead_23 hΓ 0 0 (Nat.le_of_ble_eq_true rfl) h1.o (fun κ_23 hΓ_23 => sp_behind hΓ_23 h1 hs hs4 hs24 hj (by omega) ?_)
      show AW G κ _ _ 26 _ _ _
      refine sX13_freeAhead_26 hΓ ?_
      exact loop s 0 _ _ (Nat.zero_add s) rfl rfl (fun i1 h => absurd h (Nat.not_lt_zero i1))
    intro m
    induction m with
    | zero =>
      intro i u y hi hu hy hp
      exact absurd (hp (s - 1) (by omega)) (by rw [hlast]; exact Bool.true_eq_false.mp ∘ fun h => h)
    | succ m ih =>
      intro i u y hi hu hy hp
      refine sX13_freeAhead_27 hΓ rfl ?_
      refine sX13_freeAhead_28 hΓ ?_
      refine sX13_freeAhead_29 hΓ rfl ?_
      refine sX13_freeAhead_30 hΓ 0 0 (Nat.le_of_ble_eq_true rfl) h1.o (fun κ_30 hΓ_30 => sp_first hΓ_30 h1 hR.1 hR.2.1 (w := 3) rfl (by decide) ?_)
      show AW G κ _ _ 33 _ _ _
      refine sX13_freeAhead_33 hΓ ?_
      refine sX13_freeAhead_34 hΓ (fun c34 => ?_) (fun c34 => ?_)
      · have e : rFreeP ρ n s j i = true := by
          rw [rFreeP, ← hy]
          cases e : rFirst ρ n 3 y with
          | some _ => rfl
          | none => exact absurd (show oI (rFirst ρ n 3 y) = -1 by rw [e]; rfl) c34
        rw [rFree, fsB_some (i := i) _ e hp (by omega)] at hq
        refine sX13_freeAhead_49 hΓ rfl ?_
        exact sX13_freeAhead_50 hΓ (by rw [hu]; exact hq _ h1 f1)
      · have e : rFreeP ρ n s j i = false := by
          rw [rFreeP, ← hy]
          rcases oI_none c34 with e | ⟨k1, e, e1⟩
          · show (rFirst ρ n 3 y).isSome = false
            rw [show rFirst ρ n 3 y = none from e]; rfl
          · exact absurd (fsB_lt _ e).1 (by omega)
        refine sX13_freeAhead_37 hΓ rfl ?_
        refine sX13_freeAhead_40 hΓ rfl ?_
        refine sX13_freeAhead_41 hΓ rfl ?_
        refine sX13_freeAhead_42 hΓ 0 0 (Nat.le_of_ble_eq_true rfl) h1.o (fun κ_42 hΓ_42 => sp_behind hΓ_42 h1 hs hs4 hs24 hy (by have := Nat.mod_lt (j + 1 + i) (show 0 < s by omega); omega) ?_)
        show AW G κ _ _ 45 _ _ _
        refine sX13_freeAhead_45 hΓ ?_
        refine sX13_freeAhead_46 hΓ ?_
        exact ih (i + 1) _ _ (by omega) (lp_1 hu) (by rw [Nat.mod_add_mod]; rfl) (fun i1 h => (Nat.lt_succ_iff_lt_or_eq.mp h).elim (hp i1) (fun e1 => by rw [e1]; exact e))
  · rw [rFreeA, if_neg (by rw [bN_n c9]; exact Bool.false_ne_true)] at hq
    refine sX13_freeAhead_12 hΓ ?_
    exact sX13_freeAhead_13 hΓ (hq _ h1 f1)
theorem sp_sumOf (hΓ : Ok G κ mX13_sumOf (d + 1) Q X) (h : MV G σ a r z A rw ρ η) {n s w : Nat} (hR : RW ρ n s) {y : Int32} (hy : y = nI w) (hw : w < 15) (hq : Q (some (.int (rSum ρ w n))) σ) : AW G κ cs ss 0 [lR a, lI y, none, none] [] σ := by
  have hn := hR.1
  have hn6 := hR.2.1
  suffices loop : ∀ (m i : Nat) (x : Int32) (u : Int32), i + m = n → x = nI i → u = rSum ρ w i → AW G κ cs ss 4 [lR a, lI y, lI u, lI x] [] σ by
    refine sX13_sumOf_0 hΓ ?_
    refine sX13_sumOf_1 hΓ ?_
    refine sX13_sumOf_2 hΓ ?_
    refine sX13_sumOf_3 hΓ ?_
    exact loop n 0 _ _ (Nat.zero_add n) rfl rfl
  intro m
  induction m with
  | zero =>
    intro i x u hi hx hu
    refine sX13_sumOf_4 hΓ rfl ?_
    refine sX13_sumOf_5 hΓ rfl ?_
    refine sX13_sumOf_6 hΓ h.o rfl ?_
    refine sX13_sumOf_9 hΓ ?_
    refine sX13_sumOf_10 hΓ h.row (j := 3) rfl (by decide) (by decide) ?_
    refine sX13_sumOf_11 hΓ (fun c11 => ?_) (fun c11 => absurd (lp_out hx hn (by omega) (by omega)) c11)
    refine sX13_sumOf_29 hΓ rfl ?_
    exact sX13_sumOf_30 hΓ (by rw [hu, show i = n by omega]; exact hq)
  | succ m ih =>
    intro i x u hi hx hu
    refine sX13_sumOf_4 hΓ rfl ?_
    refine sX13_sumOf_5 hΓ rfl ?_
    refine sX13_sumOf_6 hΓ h.o rfl ?_
    refine sX13_sumOf_9 hΓ ?_
    refine sX13_sumOf_10 hΓ h.row (j := 3) rfl (by decide) (by decide) ?_
    refine sX13_sumOf_11 hΓ (fun c11 => absurd c11 (lp_in hx hn (by omega) (by omega))) (fun c11 => ?_)
    refine sX13_sumOf_14 hΓ rfl ?_
    refine sX13_sumOf_15 hΓ rfl ?_
    refine sX13_sumOf_16 hΓ rfl ?_
    refine sX13_sumOf_17 hΓ rfl ?_
    refine sX13_sumOf_18 hΓ 0 0 (Nat.le_of_ble_eq_true rfl) h.o (fun κ_18 hΓ_18 => sp_of hΓ_18 h hx hy (by omega) hw ?_)
    show AW G κ _ _ 21 _ _ _
    refine sX13_sumOf_21 hΓ ?_
    refine sX13_sumOf_22 hΓ ?_
    refine sX13_sumOf_23 hΓ rfl ?_
    refine sX13_sumOf_26 hΓ ?_
    exact ih (i + 1) _ _ (by omega) (lp_1 hx) (by rw [hu]; rfl)
theorem sp_toldPacket (hΓ : Ok G κ mX13_toldPacket (d + 2) Q X) (h : MV G σ a r z A rw ρ η) {n s q : Nat} (hR : RW ρ n s) (hQ : ρ 6 = nI q) (hq12 : q ≤ 12) {w : Nat} {x y : Int32} (hy : y = nI w) (hw : w < 3) (hq : ∀ σ1 : Hp, MV G σ1 a r (upd z 9 (bI (!rIsP ρ x))) A rw ρ η → MF a r σ σ1 → Q (some (.int (rToldP ρ x w))) σ1) : AW G κ cs ss 0 [lR a, lI x, lI y] [] σ := by
  refine sX13_toldPacket_0 hΓ rfl ?_
  refine sX13_toldPacket_1 hΓ rfl ?_
  refine sX13_toldPacket_2 hΓ rfl ?_
  refine sX13_toldPacket_3 hΓ 0 0 (Nat.le_of_ble_eq_true rfl) h.o (fun κ_3 hΓ_3 => sp_isPacket hΓ_3 h ?_)
  show AW G κ _ _ 6 _ _ _
  refine sX13_toldPacket_6 hΓ 0 0 (Nat.le_of_ble_eq_true rfl) h.o (fun κ_6 hΓ_6 => sp_lacks hΓ_6 h rfl (fun σ1 h1 f1 => ?_))
  show AW G κ _ _ 9 _ _ _
  refine sX13_toldPacket_9 hΓ (fun c9 => ?_) (fun c9 => ?_)
  · have c := bN_0 c9
    obtain ⟨k, hk, hx⟩ := rIn_nI (n := q) (by omega) (by rw [← hQ]; exact c)
    rw [rToldP, if_pos c, hx, nI_clamp (by omega), ← hx] at hq
    refine sX13_toldPacket_16 hΓ rfl ?_
    refine sX13_toldPacket_17 hΓ rfl ?_
    refine sX13_toldPacket_18 hΓ rfl ?_
    refine sX13_toldPacket_19 hΓ 0 0 (Nat.le_of_ble_eq_true rfl) h1.o (fun κ_19 hΓ_19 => sp_ofPacket hΓ_19 h1 hx hy (by omega) hw ?_)
    show AW G κ _ _ 22 _ _ _
    exact sX13_toldPacket_22 hΓ (hq _ h1 f1)
  · rw [rToldP, if_neg (by rw [bN_n c9]; exact Bool.false_ne_true)] at hq
    refine sX13_toldPacket_12 hΓ ?_
    refine sX13_toldPacket_13 hΓ ?_
    exact sX13_toldPacket_22 hΓ (hq _ h1 f1)
theorem sp_packetAddress (hΓ : Ok G κ mX13_packetAddress (d + 3) Q X) (h : MV G σ a r z A rw ρ η) {n s q : Nat} (hR : RW ρ n s) (hQ : ρ 6 = nI q) (hq12 : q ≤ 12) {x : Int32} (hq : ∀ σ1 : Hp, MV G σ1 a r (upd z 9 (bI (!rIsP ρ x))) A rw ρ η → MF a r σ σ1 → Q (some (.int (rToldP ρ x 0))) σ1) : AW G κ cs ss 0 [lR a, lI x] [] σ := by
  refine sX13_packetAddress_0 hΓ rfl ?_
  refine sX13_packetAddress_1 hΓ rfl ?_
  refine sX13_packetAddress_2 hΓ ?_
  refine sX13_packetAddress_3 hΓ 0 0 (Nat.le_of_ble_eq_true rfl) h.o (fun κ_3 hΓ_3 => sp_toldPacket hΓ_3 h hR hQ hq12 (w := 0) rfl (by decide) (fun σ1 h1 f1 => ?_))
  show AW G κ _ _ 6 _ _ _
  exact sX13_packetAddress_6 hΓ (hq _ h1 f1)
theorem sp_packetCommand (hΓ : Ok G κ mX13_packetCommand (d + 3) Q X) (h : MV G σ a r z A rw ρ η) {n s q : Nat} (hR : RW ρ n s) (hQ : ρ 6 = nI q) (hq12 : q ≤ 12) {x : Int32} (hq : ∀ σ1 : Hp, MV G σ1 a r (upd z 9 (bI (!rIsP ρ x))) A rw ρ η → MF a r σ σ1 → Q (some (.int (rToldP ρ x 1))) σ1) : AW G κ cs ss 0 [lR a, lI x] [] σ := by
  refine sX13_packetCommand_0 hΓ rfl ?_
  refine sX13_packetCommand_1 hΓ rfl ?_
  refine sX13_packetCommand_2 hΓ ?_
  refine sX13_packetCommand_3 hΓ 0 0 (Nat.le_of_ble_eq_true rfl) h.o (fun κ_3 hΓ_3 => sp_toldPacket hΓ_3 h hR hQ hq12 (w := 1) rfl (by decide) (fun σ1 h1 f1 => ?_))
  show AW G κ _ _ 6 _ _ _
  exact sX13_packetCommand_6 hΓ (hq _ h1 f1)
theorem sp_isIntact (hΓ : Ok G κ mX13_isIntact (d + 2) Q X) (h : MV G σ a r z A rw ρ η) {n s q : Nat} (hR : RW ρ n s) (hQ : ρ 6 = nI q) (hq12 : q ≤ 12) {x : Int32} (hq : ∀ σ1 : Hp, MV G σ1 a r (upd z 9 (bI (!rIsP ρ x))) A rw ρ η → MF a r σ σ1 → Q (some (.int (bI (rIntact ρ x)))) σ1) : AW G κ cs ss 0 [lR a, lI x] [] σ := by
  refine sX13_isIntact_0 hΓ rfl ?_
  refine sX13_isIntact_1 hΓ rfl ?_
  refine sX13_isIntact_2 hΓ rfl ?_
  refine sX13_isIntact_3 hΓ 0 0 (Nat.le_of_ble_eq_true rfl) h.o (fun κ_3 hΓ_3 => sp_isPacket hΓ_3 h ?_)
  show AW G κ _ _ 6 _ _ _
  refine sX13_isIntact_6 hΓ 0 0 (Nat.le_of_ble_eq_true rfl) h.o (fun κ_6 hΓ_6 => sp_lacks hΓ_6 h rfl (fun σ1 h1 f1 => ?_))
  show AW G κ _ _ 9 _ _ _
  refine sX13_isIntact_9 hΓ (fun c9 => ?_) (fun c9 => ?_)
  · have e : rIntact ρ x = false := by rw [rIntact, bN_n c9, Bool.false_and]
    rw [e] at hq
    refine sX13_isIntact_24 hΓ ?_
    exact sX13_isIntact_25 hΓ (by first | exact Or.inl rfl | exact Or.inr rfl) (hq _ h1 f1)
  · have c := bN_0 c9
    obtain ⟨k, hk, hx⟩ := rIn_nI (n := q) (by omega) (by rw [← hQ]; exact c)
    have e : rIntact ρ x = rWhole ρ k := by rw [rIntact, c, Bool.true_and, hx, nI_clamp (by omega)]
    refine sX13_isIntact_12 hΓ rfl ?_
    refine sX13_isIntact_13 hΓ rfl ?_
    refine sX13_isIntact_14 hΓ 0 0 (Nat.le_of_ble_eq_true rfl) h1.o (fun κ_14 hΓ_14 => sp_isWhole hΓ_14 h1 hx (by omega) ?_)
    show AW G κ _ _ 17 _ _ _
    refine sX13_isIntact_17 hΓ (fun c17 => ?_) (fun c17 => ?_)
    · rw [e, bI_0 c17] at hq
      refine sX13_isIntact_24 hΓ ?_
      exact sX13_isIntact_25 hΓ (by first | exact Or.inl rfl | exact Or.inr rfl) (hq _ h1 f1)
    · rw [e, bI_n0 c17] at hq
      refine sX13_isIntact_20 hΓ ?_
      refine sX13_isIntact_21 hΓ ?_
      exact sX13_isIntact_25 hΓ (by first | exact Or.inl rfl | exact Or.inr rfl) (hq _ h1 f1)
theorem sp_packetsFor (hΓ : Ok G κ mX13_packetsFor (d + 2) Q X) (h : MV G σ a r z A rw ρ η) {n s q : Nat} (hR : RW ρ n s) (hQ : ρ 6 = nI q) (hq12 : q ≤ 12) {x : Int32} (hq : ∀ σ1 : Hp, MV G σ1 a r (upd z 9 (bI (!rIsT ρ x))) A rw ρ η → MF a r σ σ1 → Q (some (.int (rPackets ρ q x))) σ1) : AW G κ cs ss 0 [lR a, lI x, none, none] [] σ := by
  have hn6 := hR.2.1
  refine sX13_packetsFor_0 hΓ rfl ?_
  refine sX13_packetsFor_1 hΓ rfl ?_
  refine sX13_packetsFor_2 hΓ rfl ?_
  refine sX13_packetsFor_3 hΓ 0 0 (Nat.le_of_ble_eq_true rfl) h.o (fun κ_3 hΓ_3 => sp_isTrain hΓ_3 h ?_)
  show AW G κ _ _ 6 _ _ _
  refine sX13_packetsFor_6 hΓ 0 0 (Nat.le_of_ble_eq_true rfl) h.o (fun κ_6 hΓ_6 => sp_lacks hΓ_6 h rfl (fun σ1 h1 f1 => ?_))
  show AW G κ _ _ 9 _ _ _
  refine sX13_packetsFor_9 hΓ (fun c9 => ?_) (fun c9 => ?_)
  · have c := bN_0 c9
    obtain ⟨k, hk, hx⟩ := rIn_nI (n := n) (by omega) (by rw [← hR.1]; exact c)
    rw [rPackets, if_pos c, hx, nI_clamp (by omega), ← hx] at hq
    suffices loop : ∀ (m i : Nat) (u y : Int32), i + m = q → y = nI i → u = rForN ρ i k → AW G κ cs ss 18 [lR a, lI x, lI u, lI y] [] σ1 by
      refine sX13_packetsFor_14 hΓ ?_
      refine sX13_packetsFor_15 hΓ ?_
      refine sX13_packetsFor_16 hΓ ?_
      refine sX13_packetsFor_17 hΓ ?_
      exact loop q 0 _ _ (Nat.zero_add q) rfl rfl
    intro m
    induction m with
    | zero =>
      intro i u y hi hy hu
      refine sX13_packetsFor_18 hΓ rfl ?_
      refine sX13_packetsFor_19 hΓ rfl ?_
      refine sX13_packetsFor_20 hΓ h1.o rfl ?_
      refine sX13_packetsFor_23 hΓ ?_
      refine sX13_packetsFor_25 hΓ h1.row (j := 6) rfl (by decide) (by decide) ?_
      refine sX13_packetsFor_26 hΓ (fun c26 => ?_) (fun c26 => absurd (lp_out hy hQ (by omega) (by omega)) c26)
      refine sX13_packetsFor_52 hΓ rfl ?_
      exact sX13_packetsFor_53 hΓ (by rw [hu, show i = q by omega]; exact hq _ h1 f1)
    | succ m ih =>
      intro i u y hi hy hu
      refine sX13_packetsFor_18 hΓ rfl ?_
      refine sX13_packetsFor_19 hΓ rfl ?_
      refine sX13_packetsFor_20 hΓ h1.o rfl ?_
      refine sX13_packetsFor_23 hΓ ?_
      refine sX13_packetsFor_25 hΓ h1.row (j := 6) rfl (by decide) (by decide) ?_
      refine sX13_packetsFor_26 hΓ (fun c26 => absurd c26 (lp_in hy hQ (by omega) (by omega))) (fun c26 => ?_)
      refine sX13_packetsFor_29 hΓ rfl ?_
      refine sX13_packetsFor_30 hΓ rfl ?_
      refine sX13_packetsFor_31 hΓ rfl ?_
      refine sX13_packetsFor_32 hΓ rfl ?_
      refine sX13_packetsFor_33 hΓ 0 0 (Nat.le_of_ble_eq_true rfl) h1.o (fun κ_33 hΓ_33 => sp_isFor hΓ_33 h1 hy (by omega) hx (by omega) ?_)
      show AW G κ _ _ 36 _ _ _
      refine sX13_packetsFor_36 hΓ (fun c36 => ?_) (fun c36 => ?_)
      · have e := bI_0 c36
        refine sX13_packetsFor_43 hΓ ?_
        refine sX13_packetsFor_44 hΓ ?_
        refine sX13_packetsFor_45 hΓ ?_
        refine sX13_packetsFor_46 hΓ rfl ?_
        refine sX13_packetsFor_49 hΓ ?_
        exact ih (i + 1) _ _ (by omega) (lp_1 hy) (by rw [hu]; show _ = rForN ρ i k + bI (rFor ρ i k); rw [e]; rfl)
      · have e := bI_n0 c36
        refine sX13_packetsFor_39 hΓ ?_
        refine sX13_packetsFor_40 hΓ ?_
        refine sX13_packetsFor_44 hΓ ?_
        refine sX13_packetsFor_45 hΓ ?_
        refine sX13_packetsFor_46 hΓ rfl ?_
        refine sX13_packetsFor_49 hΓ ?_
        exact ih (i + 1) _ _ (by omega) (lp_1 hy) (by rw [hu]; show _ = rForN ρ i k + bI (rFor ρ i k); rw [e]; rfl)
  · rw [rPackets, if_neg (by rw [bN_n c9]; exact Bool.false_ne_true)] at hq
    refine sX13_packetsFor_12 hΓ ?_
    exact sX13_packetsFor_13 hΓ (hq _ h1 f1)
theorem sp_isByte (hΓ : Ok G κ mX13_isByte (d + 1) Q X) {x : Int32} (hq : Q (some (.int (bI (rByte x)))) σ) : AW G κ cs ss 0 [lI x] [] σ := by
  refine sX13_isByte_0 hΓ rfl ?_
  refine sX13_isByte_1 hΓ ?_
  refine sX13_isByte_2 hΓ ?_
  refine sX13_isByte_5 hΓ 0 0 (Nat.le_of_ble_eq_true rfl) (fun κ_5 hΓ_5 => sp_inRange hΓ_5 ?_)
  show AW G κ _ _ 8 _ _ _
  exact sX13_isByte_8 hΓ (bI_01 _) hq
theorem sp_isAddress (hΓ : Ok G κ mX13_isAddress (d + 1) Q X) {x : Int32} (hq : Q (some (.int (bI (rIn x 0 127)))) σ) : AW G κ cs ss 0 [lI x] [] σ := by
  refine sX13_isAddress_0 hΓ rfl ?_
  refine sX13_isAddress_1 hΓ ?_
  refine sX13_isAddress_2 hΓ ?_
  refine sX13_isAddress_4 hΓ 0 0 (Nat.le_of_ble_eq_true rfl) (fun κ_4 hΓ_4 => sp_inRange hΓ_4 ?_)
  show AW G κ _ _ 7 _ _ _
  exact sX13_isAddress_7 hΓ (bI_01 _) hq
theorem sp_checkOf (hΓ : Ok G κ mX13_checkOf (d + 2) Q X) (h : MV G σ a r z A rw ρ η) {x y : Int32} (hq : ∀ σ1 : Hp, MV G σ1 a r (upd z 9 (bI (!(rByte x && rByte y)))) A rw ρ η → MF a r σ σ1 → Q (some (.int (rCheck x y))) σ1) : AW G κ cs ss 0 [lR a, lI x, lI y] [] σ := by
  refine sX13_checkOf_0 hΓ rfl ?_
  refine sX13_checkOf_1 hΓ rfl ?_
  refine sX13_checkOf_2 hΓ 0 0 (Nat.le_of_ble_eq_true rfl) (fun κ_2 hΓ_2 => sp_isByte hΓ_2 ?_)
  show AW G κ _ _ 5 _ _ _
  refine sX13_checkOf_5 hΓ (fun c5 => ?_) (fun c5 => ?_)
  · have e : bI (rByte x && rByte y) = 0 := by rw [bI_0 c5]; rfl
    refine sX13_checkOf_19 hΓ ?_
    refine sX13_checkOf_20 hΓ 0 0 (Nat.le_of_ble_eq_true rfl) h.o (fun κ_20 hΓ_20 => sp_lacks hΓ_20 h (b := rByte x && rByte y) e.symm (fun σ1 h1 f1 => ?_))
    show AW G κ _ _ 23 _ _ _
    refine sX13_checkOf_23 hΓ (fun c23 => ?_) (fun c23 => ?_)
    · rw [rCheck, if_pos (bN_0 c23)] at hq
      refine sX13_checkOf_30 hΓ rfl ?_
      refine sX13_checkOf_31 hΓ rfl ?_
      refine sX13_checkOf_32 hΓ ?_
      exact sX13_checkOf_33 hΓ (hq _ h1 f1)
    · rw [rCheck, if_neg (by rw [bN_n c23]; exact Bool.false_ne_true)] at hq
      refine sX13_checkOf_26 hΓ ?_
      refine sX13_checkOf_27 hΓ ?_
      exact sX13_checkOf_33 hΓ (hq _ h1 f1)
  · refine sX13_checkOf_8 hΓ rfl ?_
    refine sX13_checkOf_9 hΓ 0 0 (Nat.le_of_ble_eq_true rfl) (fun κ_9 hΓ_9 => sp_isByte hΓ_9 ?_)
    show AW G κ _ _ 12 _ _ _
    refine sX13_checkOf_12 hΓ (fun c12 => ?_) (fun c12 => ?_)
    · have e : bI (rByte x && rByte y) = 0 := by rw [bI_0 c12, Bool.and_false]; rfl
      refine sX13_checkOf_19 hΓ ?_
      refine sX13_checkOf_20 hΓ 0 0 (Nat.le_of_ble_eq_true rfl) h.o (fun κ_20 hΓ_20 => sp_lacks hΓ_20 h (b := rByte x && rByte y) e.symm (fun σ2 h2 f2 => ?_))
      show AW G κ _ _ 23 _ _ _
      refine sX13_checkOf_23 hΓ (fun c23 => ?_) (fun c23 => ?_)
      · rw [rCheck, if_pos (bN_0 c23)] at hq
        refine sX13_checkOf_30 hΓ rfl ?_
        refine sX13_checkOf_31 hΓ rfl ?_
        refine sX13_checkOf_32 hΓ ?_
        exact sX13_checkOf_33 hΓ (hq _ h2 f2)
      · rw [rCheck, if_neg (by rw [bN_n c23]; exact Bool.false_ne_true)] at hq
        refine sX13_checkOf_26 hΓ ?_
        refine sX13_checkOf_27 hΓ ?_
        exact sX13_checkOf_33 hΓ (hq _ h2 f2)
    · have e : bI (rByte x && rByte y) = 1 := by rw [bI_n0 c5, bI_n0 c12]; rfl
      refine sX13_checkOf_15 hΓ ?_
      refine sX13_checkOf_16 hΓ ?_
      refine sX13_checkOf_20 hΓ 0 0 (Nat.le_of_ble_eq_true rfl) h.o (fun κ_20 hΓ_20 => sp_lacks hΓ_20 h (b := rByte x && rByte y) e.symm (fun σ3 h3 f3 => ?_))
      show AW G κ _ _ 23 _ _ _
      refine sX13_checkOf_23 hΓ (fun c23 => ?_) (fun c23 => ?_)
      · rw [rCheck, if_pos (bN_0 c23)] at hq
        refine sX13_checkOf_30 hΓ rfl ?_
        refine sX13_checkOf_31 hΓ rfl ?_
        refine sX13_checkOf_32 hΓ ?_
        exact sX13_checkOf_33 hΓ (hq _ h3 f3)
      · rw [rCheck, if_neg (by rw [bN_n c23]; exact Bool.false_ne_true)] at hq
        refine sX13_checkOf_26 hΓ ?_
        refine sX13_checkOf_27 hΓ ?_
        exact sX13_checkOf_33 hΓ (hq _ h3 f3)
theorem sp_gap (hΓ : Ok G κ mX13_gap (d + 1) Q X) (h : MV G σ a r z A rw ρ η) {n s : Nat} (hR : RW ρ n s) (hq : ∀ σ1 : Hp, MV G σ1 a r (upd z 9 0) A rw ρ η → MF a r σ σ1 → Q (some (.int (rGap ρ n))) σ1) : AW G κ cs ss 0 [lR a, none, none, none] [] σ := by
  refine sX13_gap_0 hΓ rfl ?_
  refine sX13_gap_1 hΓ ?_
  refine sX13_gap_2 hΓ h.o  (Nat.le_of_ble_eq_true rfl) (mv_z h (upd z 9 0) rfl (fun σ1 h1 f1 => ?_))
  have hn := hR.1
  have hn6 := hR.2.1
  suffices fin : ∀ (u x : Int32) (o : Option LV), u = rPairs ρ n → AW G κ cs ss 61 [lR a, lI u, lI x, o] [] σ1 by
    suffices loop : ∀ (m i : Nat) (x : Int32) (u : Int32), i + m = n → x = nI i → ∀ o : Option LV, u = rPairs ρ i → AW G κ cs ss 9 [lR a, lI u, lI x, o] [] σ1 by
      refine sX13_gap_5 hΓ ?_
      refine sX13_gap_6 hΓ ?_
      refine sX13_gap_7 hΓ ?_
      refine sX13_gap_8 hΓ ?_
      exact loop n 0 _ _ (Nat.zero_add n) rfl _ rfl
    intro m
    induction m with
    | zero =>
      intro i x u hi hx o hu
      refine sX13_gap_9 hΓ rfl ?_
      refine sX13_gap_10 hΓ rfl ?_
      refine sX13_gap_11 hΓ h1.o rfl ?_
      refine sX13_gap_14 hΓ ?_
      refine sX13_gap_15 hΓ h1.row (j := 3) rfl (by decide) (by decide) ?_
      refine sX13_gap_16 hΓ (fun c16 => ?_) (fun c16 => absurd (lp_out hx hn (by omega) (by omega)) c16)
      exact fin _ _ _ (by rw [hu, show i = n by omega])
    | succ m ih =>
      intro i x u hi hx o hu
      refine sX13_gap_9 hΓ rfl ?_
      refine sX13_gap_10 hΓ rfl ?_
      refine sX13_gap_11 hΓ h1.o rfl ?_
      refine sX13_gap_14 hΓ ?_
      refine sX13_gap_15 hΓ h1.row (j := 3) rfl (by decide) (by decide) ?_
      refine sX13_gap_16 hΓ (fun c16 => absurd c16 (lp_in hx hn (by omega) (by omega))) (fun c16 => ?_)
      have hi6 : i < 6 := by omega
      suffices loop2 : ∀ (m1 i1 : Nat) (y : Int32) (u1 : Int32), i1 + m1 = i → y = nI i1 → u1 = rPairs ρ i + rPairI ρ i i1 → AW G κ cs ss 21 [lR a, lI u1, lI x, lI y] [] σ1 by
        refine sX13_gap_19 hΓ ?_
        refine sX13_gap_20 hΓ ?_
        exact loop2 i 0 _ _ (Nat.zero_add i) rfl (by rw [hu]; exact (Int32.add_zero _).symm)
      intro m1
      induction m1 with
      | zero =>
        intro i1 y u1 hi1 hy hu1
        refine sX13_gap_21 hΓ rfl ?_
        refine sX13_gap_22 hΓ rfl ?_
        refine sX13_gap_23 hΓ (fun c23 => ?_) (fun c23 => absurd (lp_out hy hx (by omega) (by omega)) c23)
        refine sX13_gap_55 hΓ rfl ?_
        refine sX13_gap_58 hΓ ?_
        exact ih (i + 1) _ _ (by omega) (lp_1 hx) _ (by rw [hu1, show i1 = i by omega]; rfl)
      | succ m1 ih2 =>
        intro i1 y u1 hi1 hy hu1
        refine sX13_gap_21 hΓ rfl ?_
        refine sX13_gap_22 hΓ rfl ?_
        refine sX13_gap_23 hΓ (fun c23 => absurd c23 (lp_in hy hx (by omega) (by omega))) (fun c23 => ?_)
        refine sX13_gap_26 hΓ rfl ?_
        refine sX13_gap_27 hΓ rfl ?_
        refine sX13_gap_28 hΓ rfl ?_
        refine sX13_gap_29 hΓ ?_
        refine sX13_gap_30 hΓ 0 0 (Nat.le_of_ble_eq_true rfl) h1.o (fun κ_30 hΓ_30 => sp_of hΓ_30 h1 (w := 3) hx rfl (by omega) (by decide) ?_)
        show AW G κ _ _ 33 _ _ _
        refine sX13_gap_33 hΓ rfl ?_
        refine sX13_gap_34 hΓ rfl ?_
        refine sX13_gap_35 hΓ ?_
        refine sX13_gap_36 hΓ 0 0 (Nat.le_of_ble_eq_true rfl) h1.o (fun κ_36 hΓ_36 => sp_of hΓ_36 h1 (w := 3) hy rfl (by omega) (by decide) ?_)
        show AW G κ _ _ 39 _ _ _
        refine sX13_gap_39 hΓ (fun c39 => ?_) (fun c39 => ?_)
        · have e : bI (ρ (58 + 15 * i + 3) == ρ (58 + 15 * i1 + 3)) = 0 := by rw [beq_eq_false_iff_ne.mpr c39]; rfl
          refine sX13_gap_46 hΓ ?_
          refine sX13_gap_47 hΓ ?_
          refine sX13_gap_48 hΓ ?_
          refine sX13_gap_49 hΓ rfl ?_
          refine sX13_gap_52 hΓ ?_
          exact ih2 (i1 + 1) _ _ (by omega) (lp_1 hy) (by rw [hu1]; show _ = rPairs ρ i + (rPairI ρ i i1 + bI _); rw [e, Int32.add_assoc])
        · have e : bI (ρ (58 + 15 * i + 3) == ρ (58 + 15 * i1 + 3)) = 1 := by rw [beq_iff_eq.mpr c39]; rfl
          refine sX13_gap_42 hΓ ?_
          refine sX13_gap_43 hΓ ?_
          refine sX13_gap_47 hΓ ?_
          refine sX13_gap_48 hΓ ?_
          refine sX13_gap_49 hΓ rfl ?_
          refine sX13_gap_52 hΓ ?_
          exact ih2 (i1 + 1) _ _ (by omega) (lp_1 hy) (by rw [hu1]; show _ = rPairs ρ i + (rPairI ρ i i1 + bI _); rw [e, Int32.add_assoc])
  intro u x o hu
  refine sX13_gap_61 hΓ rfl ?_
  refine sX13_gap_62 hΓ h1.o rfl ?_
  refine sX13_gap_65 hΓ ?_
  refine sX13_gap_67 hΓ h1.row (j := 7) rfl (by decide) (by decide) ?_
  refine sX13_gap_68 hΓ rfl ?_
  refine sX13_gap_69 hΓ h1.o rfl ?_
  refine sX13_gap_72 hΓ ?_
  refine sX13_gap_74 hΓ h1.row (j := 8) rfl (by decide) (by decide) ?_
  refine sX13_gap_75 hΓ ?_
  refine sX13_gap_76 hΓ rfl ?_
  refine sX13_gap_77 hΓ h1.o rfl ?_
  refine sX13_gap_80 hΓ ?_
  refine sX13_gap_82 hΓ h1.row (j := 9) rfl (by decide) (by decide) ?_
  refine sX13_gap_83 hΓ ?_
  refine sX13_gap_84 hΓ rfl ?_
  refine sX13_gap_85 hΓ h1.o rfl ?_
  refine sX13_gap_88 hΓ ?_
  refine sX13_gap_90 hΓ h1.row (j := 6) rfl (by decide) (by decide) ?_
  refine sX13_gap_91 hΓ ?_
  refine sX13_gap_92 hΓ 0 0 (Nat.le_of_ble_eq_true rfl) (fun κ_92 hΓ_92 => sp_sizeOf hΓ_92 ?_)
  show AW G κ _ _ 95 _ _ _
  refine sX13_gap_95 hΓ rfl ?_
  refine sX13_gap_96 hΓ ?_
  exact sX13_gap_97 hΓ (by rw [hu]; exact hq _ h1 f1)
theorem sp_braking (hΓ : Ok G κ mX13_braking (d + 2) Q X) (h : MV G σ a r z A rw ρ η) {n s v : Nat} (hR : RW ρ n s) {x y : Int32} {k m0 : Nat} {b : Bool} (hx : x = nI k) (hk : k < 6) (hb : y = bI b) (hv : ρ (58 + 15 * k + 2) = nI v) (hv1 : 1 ≤ v) (hv9 : v ≤ 9) (hm : ρ (58 + 15 * k + 5) = nI m0) (hm28 : m0 ≤ 28) (hq : Q (some (.int (rBrk b (ρ (58 + 15 * k + 2)) 28 (ρ (58 + 15 * k + 5)) 0))) σ) : AW G κ cs ss 0 [lR a, lI x, lI y, none, none] [] σ := by
  suffices loop : ∀ (f m : Nat) (u t : Int32), t = nI m → m ≤ f → m ≤ 28 → Q (some (.int (rBrk b (ρ (58 + 15 * k + 2)) f t u))) σ → AW G κ cs ss 10 [lR a, lI x, lI y, lI t, lI u] [] σ by
    refine sX13_braking_0 hΓ rfl ?_
    refine sX13_braking_1 hΓ rfl ?_
    refine sX13_braking_2 hΓ ?_
    refine sX13_braking_3 hΓ 0 0 (Nat.le_of_ble_eq_true rfl) h.o (fun κ_3 hΓ_3 => sp_of hΓ_3 h (w := 5) hx rfl hk (by decide) ?_)
    show AW G κ _ _ 6 _ _ _
    refine sX13_braking_6 hΓ ?_
    refine sX13_braking_7 hΓ ?_
    refine sX13_braking_8 hΓ ?_
    exact loop 28 m0 _ _ hm hm28 hm28 hq
  intro f
  induction f with
  | zero =>
    intro m u t ht hmf hm28 hq
    have e0 : m = 0 := by omega
    subst e0
    refine sX13_braking_10 hΓ rfl ?_
    refine sX13_braking_11 hΓ (fun c11 => ?_) (fun c11 => absurd (show t ≤ 0 by rw [ht]; exact (by decide : nI 0 ≤ 0)) c11)
    refine sX13_braking_42 hΓ rfl ?_
    exact sX13_braking_44 hΓ hq
  | succ f ih =>
    intro m u t ht hmf hm28 hq
    refine sX13_braking_10 hΓ rfl ?_
    refine sX13_braking_11 hΓ (fun c11 => ?_) (fun c11 => ?_)
    · rw [rBrk, if_neg (Int32.not_lt.mpr c11)] at hq
      refine sX13_braking_42 hΓ rfl ?_
      exact sX13_braking_44 hΓ hq
    · rw [rBrk, if_pos (Int32.not_le.mp c11)] at hq
      have m0 : 0 < m := Nat.pos_of_ne_zero (fun e => c11 (by rw [ht, e]; exact (by decide : nI 0 ≤ 0)))
      obtain ⟨m1, h1, h2⟩ := rBraked_nI (d := v) (by omega) m0 (by omega) (by omega)
      have h3 : rBraked t (ρ (58 + 15 * k + 2)) = nI m1 := by rw [ht, hv]; exact h2
      refine sX13_braking_14 hΓ rfl ?_
      refine sX13_braking_15 hΓ rfl ?_
      refine sX13_braking_16 hΓ rfl ?_
      refine sX13_braking_17 hΓ ?_
      refine sX13_braking_18 hΓ 0 0 (Nat.le_of_ble_eq_true rfl) h.o (fun κ_18 hΓ_18 => sp_of hΓ_18 h (w := 2) hx rfl hk (by decide) ?_)
      show AW G κ _ _ 21 _ _ _
      refine sX13_braking_21 hΓ 0 0 (Nat.le_of_ble_eq_true rfl) (fun κ_21 hΓ_21 => sp_braked hΓ_21 (by rw [hv]; exact nI_ne0 (by omega) (by omega)) ?_)
      show AW G κ _ _ 24 _ _ _
      refine sX13_braking_24 hΓ ?_
      refine sX13_braking_25 hΓ rfl ?_
      refine sX13_braking_27 hΓ rfl ?_
      refine sX13_braking_28 hΓ (fun c28 => ?_) (fun c28 => ?_)
      · have e := bI_0 (hb.symm.trans c28)
        rw [e, if_neg Bool.false_ne_true] at hq
        refine sX13_braking_35 hΓ ?_
        refine sX13_braking_36 hΓ ?_
        refine sX13_braking_37 hΓ ?_
        refine sX13_braking_39 hΓ ?_
        exact ih m1 _ _ h3 (by omega) (by omega) (by rw [e]; exact hq)
      · have e := bI_n0 (fun e => c28 (hb.trans e))
        rw [e, if_pos rfl] at hq
        refine sX13_braking_31 hΓ rfl ?_
        refine sX13_braking_32 hΓ ?_
        refine sX13_braking_36 hΓ ?_
        refine sX13_braking_37 hΓ ?_
        refine sX13_braking_39 hΓ ?_
        exact ih m1 _ _ h3 (by omega) (by omega) (by rw [e]; exact hq)
theorem sp_brakingTicks (hΓ : Ok G κ mX13_brakingTicks (d + 3) Q X) (h : MV G σ a r z A rw ρ η) {n s : Nat} (hR : RW ρ n s) (hS : ∀ k, k < n → ∃ m, m ≤ 28 ∧ ρ (58 + 15 * k + 5) = nI m) (hV : ∀ k, k < n → ∃ m, 1 ≤ m ∧ m ≤ 9 ∧ ρ (58 + 15 * k + 2) = nI m) {x : Int32} (hq : ∀ σ1 : Hp, MV G σ1 a r (upd z 9 (bI (!rIsT ρ x))) A rw ρ η → MF a r σ σ1 → Q (some (.int (rBrake ρ false x))) σ1) : AW G κ cs ss 0 [lR a, lI x] [] σ := by
  have hn6 := hR.2.1
  refine sX13_brakingTicks_0 hΓ rfl ?_
  refine sX13_brakingTicks_1 hΓ rfl ?_
  refine sX13_brakingTicks_2 hΓ rfl ?_
  refine sX13_brakingTicks_3 hΓ 0 0 (Nat.le_of_ble_eq_true rfl) h.o (fun κ_3 hΓ_3 => sp_isTrain hΓ_3 h ?_)
  show AW G κ _ _ 6 _ _ _
  refine sX13_brakingTicks_6 hΓ 0 0 (Nat.le_of_ble_eq_true rfl) h.o (fun κ_6 hΓ_6 => sp_lacks hΓ_6 h rfl (fun σ1 h1 f1 => ?_))
  show AW G κ _ _ 9 _ _ _
  refine sX13_brakingTicks_9 hΓ (fun c9 => ?_) (fun c9 => ?_)
  · have c := bN_0 c9
    obtain ⟨k, hk, hx⟩ := rIn_nI (n := n) (by omega) (by rw [← hR.1]; exact c)
    obtain ⟨m0, hm28, hm⟩ := hS k hk
    obtain ⟨v, hv1, hv9, hv⟩ := hV k hk
    rw [rBrake, if_pos c, hx, nI_clamp (by omega), ← hx] at hq
    refine sX13_brakingTicks_16 hΓ rfl ?_
    refine sX13_brakingTicks_17 hΓ rfl ?_
    refine sX13_brakingTicks_18 hΓ ?_
    refine sX13_brakingTicks_19 hΓ 0 0 (Nat.le_of_ble_eq_true rfl) h1.o (fun κ_19 hΓ_19 => sp_braking hΓ_19 h1 hR (b := false) hx (by omega) rfl hv hv1 hv9 hm hm28 ?_)
    show AW G κ _ _ 22 _ _ _
    exact sX13_brakingTicks_22 hΓ (hq _ h1 f1)
  · rw [rBrake, if_neg (by rw [bN_n c9]; exact Bool.false_ne_true)] at hq
    refine sX13_brakingTicks_12 hΓ ?_
    refine sX13_brakingTicks_13 hΓ ?_
    exact sX13_brakingTicks_22 hΓ (hq _ h1 f1)
theorem sp_brakingDistance (hΓ : Ok G κ mX13_brakingDistance (d + 3) Q X) (h : MV G σ a r z A rw ρ η) {n s : Nat} (hR : RW ρ n s) (hS : ∀ k, k < n → ∃ m, m ≤ 28 ∧ ρ (58 + 15 * k + 5) = nI m) (hV : ∀ k, k < n → ∃ m, 1 ≤ m ∧ m ≤ 9 ∧ ρ (58 + 15 * k + 2) = nI m) {x : Int32} (hq : ∀ σ1 : Hp, MV G σ1 a r (upd z 9 (bI (!rIsT ρ x))) A rw ρ η → MF a r σ σ1 → Q (some (.int (rBrake ρ true x))) σ1) : AW G κ cs ss 0 [lR a, lI x] [] σ := by
  have hn6 := hR.2.1
  refine sX13_brakingDistance_0 hΓ rfl ?_
  refine sX13_brakingDistance_1 hΓ rfl ?_
  refine sX13_brakingDistance_2 hΓ rfl ?_
  refine sX13_brakingDistance_3 hΓ 0 0 (Nat.le_of_ble_eq_true rfl) h.o (fun κ_3 hΓ_3 => sp_isTrain hΓ_3 h ?_)
  show AW G κ _ _ 6 _ _ _
  refine sX13_brakingDistance_6 hΓ 0 0 (Nat.le_of_ble_eq_true rfl) h.o (fun κ_6 hΓ_6 => sp_lacks hΓ_6 h rfl (fun σ1 h1 f1 => ?_))
  show AW G κ _ _ 9 _ _ _
  refine sX13_brakingDistance_9 hΓ (fun c9 => ?_) (fun c9 => ?_)
  · have c := bN_0 c9
    obtain ⟨k, hk, hx⟩ := rIn_nI (n := n) (by omega) (by rw [← hR.1]; exact c)
    obtain ⟨m0, hm28, hm⟩ := hS k hk
    obtain ⟨v, hv1, hv9, hv⟩ := hV k hk
    rw [rBrake, if_pos c, hx, nI_clamp (by omega), ← hx] at hq
    refine sX13_brakingDistance_16 hΓ rfl ?_
    refine sX13_brakingDistance_17 hΓ rfl ?_
    refine sX13_brakingDistance_18 hΓ ?_
    refine sX13_brakingDistance_19 hΓ 0 0 (Nat.le_of_ble_eq_true rfl) h1.o (fun κ_19 hΓ_19 => sp_braking hΓ_19 h1 hR (b := true) hx (by omega) rfl hv hv1 hv9 hm hm28 ?_)
    show AW G κ _ _ 22 _ _ _
    exact sX13_brakingDistance_22 hΓ (hq _ h1 f1)
  · rw [rBrake, if_neg (by rw [bN_n c9]; exact Bool.false_ne_true)] at hq
    refine sX13_brakingDistance_12 hΓ ?_
    refine sX13_brakingDistance_13 hΓ ?_
    exact sX13_brakingDistance_22 hΓ (hq _ h1 f1)
end ModelTell
