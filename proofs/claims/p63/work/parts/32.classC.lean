/-! the class: what a railway tells -/
def bitB (w x : Int32) : Bool := w >>> (x &&& 31) &&& 1 == 1
def cBeh (S : Nat → Int32) (x : Int32) : Int32 := if x + 1 < S 0 then x + 1 else 0
theorem cBeh_n {S : Nat → Int32} {s j : Nat} (hs : S 0 = nI s) (hs0 : 0 < s) (hs24 : s < 2 ^ 30) (hj : j < s) : cBeh S (nI j) = nI ((j + 1) % s) := by
  unfold cBeh
  rw [hs, nI_1]
  by_cases c : j + 1 < s
  · rw [if_pos (nI_lt c (by omega)), Nat.mod_eq_of_lt c]
  · rw [if_neg (nI_nlt (by omega) (by omega)), show j + 1 = s by omega, Nat.mod_self]
    rfl
def cFst (T : Nat → Nat → Int32) (n w : Nat) (x : Int32) : Option Nat := fsB (fun k => T k w == x) n
theorem cFst_lt {T : Nat → Nat → Int32} {n w k : Nat} {x : Int32} (h : cFst T n w x = some k) : k < n := (fsB_lt _ h).1
theorem oI_neg {o : Option Nat} (ho : ∀ k, o = some k → k < 2 ^ 30) : oI o < 0 ↔ o = none := by
  cases o with
  | none => exact ⟨fun _ => rfl, fun _ => by decide⟩
  | some k => exact ⟨fun h => absurd h (nI_pos (by have := ho k rfl; omega)), fun h => by cases h⟩
def cFreeP (T : Nat → Nat → Int32) (n s j i : Nat) : Bool := (cFst T n 3 (nI ((j + 1 + i) % s))).isSome
def cFree (T : Nat → Nat → Int32) (n s j : Nat) : Nat := (fsB (cFreeP T n s j) s).getD s
def cSum (T : Nat → Nat → Int32) (w n : Nat) : Int32 := sumN (fun k => T k w) n
def cRecd (T : Nat → Nat → Int32) (n : Nat) : Int32 := sumN (fun k => T k 11 + T k 12 + T k 13) n
def cPairI (T : Nat → Nat → Int32) (i m : Nat) : Int32 := sumN (fun j => bI (T i 3 == T (i + 1 + j) 3)) m
def cPairs (T : Nat → Nat → Int32) (n m : Nat) : Int32 := sumN (fun i => cPairI T i (n - (i + 1))) m
/-- the fastest train so far, its speed -/
def cFast (T : Nat → Nat → Int32) : Nat → Nat × Int32
  | 0 => (0, -1)
  | i + 1 => if (cFast T i).2 < T i 5 then (i, T i 5) else cFast T i
def cSign (S : Nat → Int32) (T : Nat → Nat → Int32) (n : Nat) (x : Int32) : Int32 := match cFst T n 3 x with
  | some k => 48 + nI k
  | none => if bitB (S 3) x = true then 33 else if bitB (S 2) x = true then 110 else 45
def cMet (S : Nat → Int32) (T : Nat → Nat → Int32) (n : Nat) : Bool := (fsB (fun k => bitB (S 3) (T k 3)) n).isSome
section ClassTell
variable {G : Gl} {κ : Kx} {d : Nat} {Q : Option Value → Hp → Prop} {X : String → Hp → Prop} {cs ss : Nat} {σ : Hp} {q p a t n : Nat} {tr : Nat → Nat} {S U K : Nat → Int32} {T : Nat → Nat → Int32}
theorem sr_numberIn (hΓ : Ok G κ mX8_numberIn (d + 0) Q X) (h : RG G σ a t q p tr n S U K T) {y : Int32} (hq : Q (some (.int (oI (cFst T n 3 y)))) σ) : AW G κ cs ss 0 [lR a, lI y, none] [] σ := by
  have hn6 := h.n6
  suffices loop : ∀ (m i : Nat) (x : Int32), i + m = n → x = nI i → (∀ j, j < i → (T j 3 == y) = false) → AW G κ cs ss 2 [lR a, lI y, lI x] [] σ by
    refine sX8_numberIn_0 hΓ ?_
    refine sX8_numberIn_1 hΓ ?_
    exact loop n 0 _ (Nat.zero_add n) rfl (fun j hj => absurd hj (Nat.not_lt_zero j))
  intro m
  induction m with
  | zero =>
    intro i x hi hx hj
    have ei : i = n := by omega
    subst ei
    rw [show cFst T i 3 y = none from fsB_none _ hj] at hq
    refine sX8_numberIn_2 hΓ rfl ?_
    refine sX8_numberIn_3 hΓ rfl ?_
    refine sX8_numberIn_4 hΓ h.o rfl ?_
    refine sX8_numberIn_7q hΓ (Or.inr rfl) h.ts ?_
    refine sX8_numberIn_8 hΓ (fun c8 => ?_) (fun c8 => absurd (lp_out hx rfl (by omega) (by omega)) c8)
    refine sX8_numberIn_32 hΓ ?_
    exact sX8_numberIn_33 hΓ hq
  | succ m ih =>
    intro i x hi hx hj
    have hin : i < n := by omega
    refine sX8_numberIn_2 hΓ rfl ?_
    refine sX8_numberIn_3 hΓ rfl ?_
    refine sX8_numberIn_4 hΓ h.o rfl ?_
    refine sX8_numberIn_7q hΓ (Or.inr rfl) h.ts ?_
    refine sX8_numberIn_8 hΓ (fun c8 => absurd c8 (lp_in hx rfl hin (by omega))) (fun c8 => ?_)
    refine sX8_numberIn_11 hΓ rfl ?_
    refine sX8_numberIn_12 hΓ h.o rfl ?_
    refine sX8_numberIn_15 hΓ rfl ?_
    refine sX8_numberIn_16 hΓ (Or.inr rfl) h.ts hx hin (by omega) ?_
    refine sX8_numberIn_17 hΓ (h.tn hin) rfl ?_
    refine sX8_numberIn_20 hΓ rfl ?_
    refine sX8_numberIn_21 hΓ (fun c21 => ?_) (fun c21 => ?_)
    · have e : (T i 3 == y) = false := beq_eq_false_iff_ne.mpr c21
      refine sX8_numberIn_26 hΓ rfl ?_
      refine sX8_numberIn_29 hΓ ?_
      exact ih (i + 1) _ (by omega) (lp_1 hx) (fun j hj2 => (Nat.lt_succ_iff_lt_or_eq.mp hj2).elim (hj j) (fun e1 => by rw [e1]; exact e))
    · have e : (T i 3 == y) = true := beq_iff_eq.mpr c21
      rw [show cFst T n 3 y = some i from fsB_some (fun k => T k 3 == y) e hj hin] at hq
      refine sX8_numberIn_24 hΓ rfl ?_
      exact sX8_numberIn_25 hΓ (by rw [hx]; exact hq)
theorem sr_numberWith (hΓ : Ok G κ mX8_numberWith (d + 0) Q X) (h : RG G σ a t q p tr n S U K T) {y : Int32} (hq : Q (some (.int (oI (cFst T n 0 y)))) σ) : AW G κ cs ss 0 [lR a, lI y, none] [] σ := by
  have hn6 := h.n6
  suffices loop : ∀ (m i : Nat) (x : Int32), i + m = n → x = nI i → (∀ j, j < i → (T j 0 == y) = false) → AW G κ cs ss 2 [lR a, lI y, lI x] [] σ by
    refine sX8_numberWith_0 hΓ ?_
    refine sX8_numberWith_1 hΓ ?_
    exact loop n 0 _ (Nat.zero_add n) rfl (fun j hj => absurd hj (Nat.not_lt_zero j))
  intro m
  induction m with
  | zero =>
    intro i x hi hx hj
    have ei : i = n := by omega
    subst ei
    rw [show cFst T i 0 y = none from fsB_none _ hj] at hq
    refine sX8_numberWith_2 hΓ rfl ?_
    refine sX8_numberWith_3 hΓ rfl ?_
    refine sX8_numberWith_4 hΓ h.o rfl ?_
    refine sX8_numberWith_7q hΓ (Or.inr rfl) h.ts ?_
    refine sX8_numberWith_8 hΓ (fun c8 => ?_) (fun c8 => absurd (lp_out hx rfl (by omega) (by omega)) c8)
    refine sX8_numberWith_32 hΓ ?_
    exact sX8_numberWith_33 hΓ hq
  | succ m ih =>
    intro i x hi hx hj
    have hin : i < n := by omega
    refine sX8_numberWith_2 hΓ rfl ?_
    refine sX8_numberWith_3 hΓ rfl ?_
    refine sX8_numberWith_4 hΓ h.o rfl ?_
    refine sX8_numberWith_7q hΓ (Or.inr rfl) h.ts ?_
    refine sX8_numberWith_8 hΓ (fun c8 => absurd c8 (lp_in hx rfl hin (by omega))) (fun c8 => ?_)
    refine sX8_numberWith_11 hΓ rfl ?_
    refine sX8_numberWith_12 hΓ h.o rfl ?_
    refine sX8_numberWith_15 hΓ rfl ?_
    refine sX8_numberWith_16 hΓ (Or.inr rfl) h.ts hx hin (by omega) ?_
    refine sX8_numberWith_17 hΓ (h.tn hin) rfl ?_
    refine sX8_numberWith_20 hΓ rfl ?_
    refine sX8_numberWith_21 hΓ (fun c21 => ?_) (fun c21 => ?_)
    · have e : (T i 0 == y) = false := beq_eq_false_iff_ne.mpr c21
      refine sX8_numberWith_26 hΓ rfl ?_
      refine sX8_numberWith_29 hΓ ?_
      exact ih (i + 1) _ (by omega) (lp_1 hx) (fun j hj2 => (Nat.lt_succ_iff_lt_or_eq.mp hj2).elim (hj j) (fun e1 => by rw [e1]; exact e))
    · have e : (T i 0 == y) = true := beq_iff_eq.mpr c21
      rw [show cFst T n 0 y = some i from fsB_some (fun k => T k 0 == y) e hj hin] at hq
      refine sX8_numberWith_24 hΓ rfl ?_
      exact sX8_numberWith_25 hΓ (by rw [hx]; exact hq)
theorem sr_hasSection (hΓ : Ok G κ mX8_hasSection (d + 0) Q X) (h : RG G σ a t q p tr n S U K T) {x : Int32} (hq : Q (some (.int (bI (rIn x 0 (S 0 - 1))))) σ) (hs : ∃ s, S 0 = nI s ∧ 4 ≤ s ∧ s ≤ 24) : AW G κ cs ss 0 [lR a, lI x] [] σ := by
  have hn6 := h.n6
  refine sX8_hasSection_0 hΓ rfl ?_
  refine sX8_hasSection_1 hΓ (fun c1 => ?_) (fun c1 => ?_)
  · obtain ⟨s, hs, hs4, hs24⟩ := hs
    rw [rIn_lo c1] at hq
    refine sX8_hasSection_16 hΓ ?_
    exact sX8_hasSection_17 hΓ (by first | exact Or.inl rfl | exact Or.inr rfl) hq
  · obtain ⟨s, hs, hs4, hs24⟩ := hs
    have e1 : S 0 - 1 = nI (s - 1) := by rw [hs]; exact pk_sub (b := 1) (by omega)
    obtain ⟨j, hj, hx⟩ := nI_of c1
    refine sX8_hasSection_4 hΓ rfl ?_
    refine sX8_hasSection_5 hΓ rfl ?_
    refine sX8_hasSection_6 hΓ h.o rfl ?_
    refine sX8_hasSection_9 hΓ (fun c9 => ?_) (fun c9 => ?_)
    · have : s ≤ j := nI_lez hs hx (by omega) hj c9
      rw [show rIn x 0 (S 0 - 1) = false from rIn_hi (by rw [e1, hx]; exact nI_lt (by omega) hj)] at hq
      refine sX8_hasSection_16 hΓ ?_
      exact sX8_hasSection_17 hΓ (by first | exact Or.inl rfl | exact Or.inr rfl) hq
    · have : j < s := Nat.lt_of_not_le (fun c => c9 (by rw [hs, hx]; exact nI_le c hj))
      rw [show rIn x 0 (S 0 - 1) = true from rIn_in c1 (by rw [e1, hx]; exact nI_nlt (by omega) (by omega))] at hq
      refine sX8_hasSection_12 hΓ ?_
      refine sX8_hasSection_13 hΓ ?_
      exact sX8_hasSection_17 hΓ (by first | exact Or.inl rfl | exact Or.inr rfl) hq
theorem sr_isDug (hΓ : Ok G κ mX8_isDug (d + 0) Q X) (h : RG G σ a t q p tr n S U K T) {x : Int32} (hq : Q (some (.int (bI (bitB (S 2) x)))) σ) : AW G κ cs ss 0 [lR a, lI x] [] σ := by
  have hn6 := h.n6
  refine sX8_isDug_0 hΓ rfl ?_
  refine sX8_isDug_1 hΓ h.o rfl ?_
  refine sX8_isDug_4 hΓ rfl ?_
  refine sX8_isDug_5 hΓ ?_
  refine sX8_isDug_6 hΓ ?_
  refine sX8_isDug_7 hΓ ?_
  refine sX8_isDug_8 hΓ ?_
  refine sX8_isDug_9 hΓ (fun c9 => ?_) (fun c9 => ?_)
  · rw [show bitB (S 2) x = false from beq_eq_false_iff_ne.mpr c9] at hq
    refine sX8_isDug_16 hΓ ?_
    exact sX8_isDug_17 hΓ (by first | exact Or.inl rfl | exact Or.inr rfl) hq
  · rw [show bitB (S 2) x = true from beq_iff_eq.mpr c9] at hq
    refine sX8_isDug_12 hΓ ?_
    refine sX8_isDug_13 hΓ ?_
    exact sX8_isDug_17 hΓ (by first | exact Or.inl rfl | exact Or.inr rfl) hq
theorem sr_isShorted (hΓ : Ok G κ mX8_isShorted (d + 0) Q X) (h : RG G σ a t q p tr n S U K T) {x : Int32} (hq : Q (some (.int (bI (bitB (S 3) x)))) σ) : AW G κ cs ss 0 [lR a, lI x] [] σ := by
  have hn6 := h.n6
  refine sX8_isShorted_0 hΓ rfl ?_
  refine sX8_isShorted_1 hΓ h.o rfl ?_
  refine sX8_isShorted_4 hΓ rfl ?_
  refine sX8_isShorted_5 hΓ ?_
  refine sX8_isShorted_6 hΓ ?_
  refine sX8_isShorted_7 hΓ ?_
  refine sX8_isShorted_8 hΓ ?_
  refine sX8_isShorted_9 hΓ (fun c9 => ?_) (fun c9 => ?_)
  · rw [show bitB (S 3) x = false from beq_eq_false_iff_ne.mpr c9] at hq
    refine sX8_isShorted_16 hΓ ?_
    exact sX8_isShorted_17 hΓ (by first | exact Or.inl rfl | exact Or.inr rfl) hq
  · rw [show bitB (S 3) x = true from beq_iff_eq.mpr c9] at hq
    refine sX8_isShorted_12 hΓ ?_
    refine sX8_isShorted_13 hΓ ?_
    exact sX8_isShorted_17 hΓ (by first | exact Or.inl rfl | exact Or.inr rfl) hq
theorem sr_isPowered (hΓ : Ok G κ mX8_isPowered (d + 0) Q X) (h : RG G σ a t q p tr n S U K T) (hq : Q (some (.int (bI (S 5 == 0)))) σ) : AW G κ cs ss 0 [lR a] [] σ := by
  have hn6 := h.n6
  refine sX8_isPowered_0 hΓ rfl ?_
  refine sX8_isPowered_1 hΓ h.o rfl ?_
  refine sX8_isPowered_4 hΓ (fun c4 => ?_) (fun c4 => ?_)
  · rw [beq_eq_false_iff_ne.mpr c4] at hq
    refine sX8_isPowered_11 hΓ ?_
    exact sX8_isPowered_12 hΓ (by first | exact Or.inl rfl | exact Or.inr rfl) hq
  · rw [beq_iff_eq.mpr c4] at hq
    refine sX8_isPowered_7 hΓ ?_
    refine sX8_isPowered_8 hΓ ?_
    exact sX8_isPowered_12 hΓ (by first | exact Or.inl rfl | exact Or.inr rfl) hq
theorem sr_hasTicksLeft (hΓ : Ok G κ mX8_hasTicksLeft (d + 0) Q X) (h : RG G σ a t q p tr n S U K T) {x : Int32} (hq : Q (some (.int (bI (!decide (10000 < S 4 + x))))) σ) : AW G κ cs ss 0 [lR a, lI x] [] σ := by
  have hn6 := h.n6
  refine sX8_hasTicksLeft_0 hΓ rfl ?_
  refine sX8_hasTicksLeft_1 hΓ h.o rfl ?_
  refine sX8_hasTicksLeft_4 hΓ rfl ?_
  refine sX8_hasTicksLeft_5 hΓ ?_
  refine sX8_hasTicksLeft_6 hΓ ?_
  refine sX8_hasTicksLeft_9 hΓ (fun c9 => ?_) (fun c9 => ?_)
  · rw [decide_eq_true c9] at hq
    refine sX8_hasTicksLeft_16 hΓ ?_
    exact sX8_hasTicksLeft_17 hΓ (by first | exact Or.inl rfl | exact Or.inr rfl) hq
  · rw [decide_eq_false c9] at hq
    refine sX8_hasTicksLeft_12 hΓ ?_
    refine sX8_hasTicksLeft_13 hΓ ?_
    exact sX8_hasTicksLeft_17 hΓ (by first | exact Or.inl rfl | exact Or.inr rfl) hq
theorem sr_trainAt (hΓ : Ok G κ mX8_trainAt (d + 0) Q X) (h : RG G σ a t q p tr n S U K T) {x : Int32} (hq0 : rIn x 0 (nI n - 1) = false → Q (some .null) σ) (hq1 : ∀ k, k < n → x = nI k → Q (some (.ref (tr k))) σ) : AW G κ cs ss 0 [lR a, lI x] [] σ := by
  have hn6 := h.n6
  refine sX8_trainAt_0 hΓ rfl ?_
  refine sX8_trainAt_1 hΓ (fun c1 => ?_) (fun c1 => ?_)
  · have hq := hq0 (rIn_lo c1)
    refine sX8_trainAt_13 hΓ ?_
    refine sX8_trainAt_14 hΓ ?_
    first | exact sX8_trainAt_23 hΓ hq | exact sX8_trainAt_23q (r := none) hΓ hq
  · obtain ⟨k, hk, hx⟩ := nI_of c1
    refine sX8_trainAt_4 hΓ rfl ?_
    refine sX8_trainAt_5 hΓ rfl ?_
    refine sX8_trainAt_6 hΓ h.o rfl ?_
    refine sX8_trainAt_9q hΓ (Or.inr rfl) h.ts ?_
    refine sX8_trainAt_10 hΓ (fun c10 => ?_) (fun c10 => ?_)
    · have hkn : k < n := nI_ltz hx rfl hk (by omega) c10
      have hq := hq1 k hkn hx
      refine sX8_trainAt_17 hΓ rfl ?_
      refine sX8_trainAt_18 hΓ h.o rfl ?_
      refine sX8_trainAt_21 hΓ rfl ?_
      refine sX8_trainAt_22 hΓ (Or.inr rfl) h.ts hx hkn (by omega) ?_
      first | exact sX8_trainAt_23 hΓ hq | exact sX8_trainAt_23q (r := none) hΓ hq
    · have hkn : ¬ k < n := fun c => c10 (by rw [hx]; exact nI_lt c (by omega))
      have hq := hq0 (by rw [hx]; rcases Nat.eq_zero_or_pos n with e | e; subst e; exact rIn_hi (Int32.lt_of_lt_of_le (by decide) (Int32.not_lt.mp (nI_pos hk))); rw [show nI n - 1 = nI (n - 1) from pk_sub (b := 1) e]; exact rIn_hi (nI_lt (by omega) hk))
      refine sX8_trainAt_13 hΓ ?_
      refine sX8_trainAt_14 hΓ ?_
      first | exact sX8_trainAt_23 hΓ hq | exact sX8_trainAt_23q (r := none) hΓ hq
theorem sr_sectionBehind (hΓ : Ok G κ mX8_sectionBehind (d + 0) Q X) (h : RG G σ a t q p tr n S U K T) {x : Int32} (hq : Q (some (.int (cBeh S x))) σ) : AW G κ cs ss 0 [lR a, lI x] [] σ := by
  have hn6 := h.n6
  refine sX8_sectionBehind_0 hΓ rfl ?_
  refine sX8_sectionBehind_1 hΓ ?_
  refine sX8_sectionBehind_2 hΓ ?_
  refine sX8_sectionBehind_3 hΓ rfl ?_
  refine sX8_sectionBehind_4 hΓ h.o rfl ?_
  refine sX8_sectionBehind_7 hΓ (fun c7 => ?_) (fun c7 => ?_)
  · rw [show cBeh S x = 0 from if_neg (Int32.not_lt.mpr c7)] at hq
    refine sX8_sectionBehind_16 hΓ ?_
    exact sX8_sectionBehind_17 hΓ hq
  · rw [show cBeh S x = x + 1 from if_pos (Int32.not_le.mp c7)] at hq
    refine sX8_sectionBehind_10 hΓ rfl ?_
    refine sX8_sectionBehind_11 hΓ ?_
    refine sX8_sectionBehind_12 hΓ ?_
    refine sX8_sectionBehind_13 hΓ ?_
    exact sX8_sectionBehind_17 hΓ hq
theorem sr_freeBehind (hΓ : Ok G κ mX8_freeBehind (d + 1) Q X) (h : RG G σ a t q p tr n S U K T) {s j : Nat} (hs : S 0 = nI s) (hs4 : 4 ≤ s) (hs24 : s ≤ 24) {x : Int32} (hx : x = nI j) (hj : j < s) (hq : Q (some (.int (nI (cFree T n s j)))) σ) : AW G κ cs ss 0 [lR a, lI x, none, none] [] σ := by
  have hn6 := h.n6
  have hn30 : ∀ (x : Int32) (k : Nat), cFst T n 3 x = some k → k < 2 ^ 30 := fun x k e => by have := cFst_lt e; omega
  suffices loop : ∀ (m i : Nat) (u y : Int32), i + m = s → u = nI i → y = nI ((j + 1 + i) % s) → (∀ i1, i1 < i → cFreeP T n s j i1 = false) → AW G κ cs ss 8 [lR a, lI x, lI u, lI y] [] σ by
    refine sX8_freeBehind_0 hΓ ?_
    refine sX8_freeBehind_1 hΓ ?_
    refine sX8_freeBehind_2 hΓ rfl ?_
    refine sX8_freeBehind_3 hΓ rfl ?_
    refine sX8_freeBehind_4 hΓ 0 0 (Nat.le_of_ble_eq_true rfl) h.o (fun κ_4 hΓ_4 => sr_sectionBehind hΓ_4 h ?_)
    show AW G κ _ _ 7 _ _ _
    refine sX8_freeBehind_7 hΓ ?_
    exact loop s 0 _ _ (Nat.zero_add s) rfl (by rw [hx]; exact cBeh_n hs (by omega) (by omega) hj) (fun i1 h1 => absurd h1 (Nat.not_lt_zero i1))
  intro m
  induction m with
  | zero =>
    intro i u y hi hu hy hp
    have ei : i = s := by omega
    subst ei
    rw [show cFree T n i j = i from by rw [cFree, fsB_none _ hp]; rfl, ← hu] at hq
    refine sX8_freeBehind_8 hΓ rfl ?_
    refine sX8_freeBehind_9 hΓ rfl ?_
    refine sX8_freeBehind_10 hΓ h.o rfl ?_
    refine sX8_freeBehind_13 hΓ (fun c13 => ?_) (fun c13 => absurd (lp_out hu hs (by omega) (by omega)) c13)
    refine sX8_freeBehind_36 hΓ rfl ?_
    exact sX8_freeBehind_37 hΓ hq
  | succ m ih =>
    intro i u y hi hu hy hp
    refine sX8_freeBehind_8 hΓ rfl ?_
    refine sX8_freeBehind_9 hΓ rfl ?_
    refine sX8_freeBehind_10 hΓ h.o rfl ?_
    refine sX8_freeBehind_13 hΓ (fun c13 => absurd c13 (lp_in hu hs (by omega) (by omega))) (fun c13 => ?_)
    refine sX8_freeBehind_16 hΓ rfl ?_
    refine sX8_freeBehind_17 hΓ rfl ?_
    refine sX8_freeBehind_18 hΓ 0 0 (Nat.le_of_ble_eq_true rfl) h.o (fun κ_18 hΓ_18 => sr_numberIn hΓ_18 h ?_)
    show AW G κ _ _ 21 _ _ _
    refine sX8_freeBehind_21 hΓ (fun c21 => ?_) (fun c21 => ?_)
    · have e1 : cFreeP T n s j i = true := by
        rw [cFreeP, ← hy]
        cases e2 : cFst T n 3 y with
        | none => rw [e2] at c21; exact absurd c21 (by decide)
        | some k => rfl
      rw [show cFree T n s j = i from by rw [cFree, fsB_some (cFreeP T n s j) e1 hp (by omega)]; rfl, ← hu] at hq
      refine sX8_freeBehind_36 hΓ rfl ?_
      exact sX8_freeBehind_37 hΓ hq
    · have e1 : cFreeP T n s j i = false := by
        rw [cFreeP, ← hy, (oI_neg (hn30 y)).mp (Int32.not_le.mp c21)]
        rfl
      refine sX8_freeBehind_24 hΓ rfl ?_
      refine sX8_freeBehind_27 hΓ rfl ?_
      refine sX8_freeBehind_28 hΓ rfl ?_
      refine sX8_freeBehind_29 hΓ 0 0 (Nat.le_of_ble_eq_true rfl) h.o (fun κ_29 hΓ_29 => sr_sectionBehind hΓ_29 h ?_)
      show AW G κ _ _ 32 _ _ _
      refine sX8_freeBehind_32 hΓ ?_
      refine sX8_freeBehind_33 hΓ ?_
      exact ih (i + 1) _ _ (by omega) (lp_1 hu) (by rw [hy, cBeh_n hs (by omega) (by omega) (Nat.mod_lt _ (by omega)), Nat.mod_add_mod]; rfl) (fun i1 h1 => (Nat.lt_succ_iff_lt_or_eq.mp h1).elim (hp i1) (fun e9 => by rw [e9]; exact e1))
theorem sr_sumOfSpeeds (hΓ : Ok G κ mX8_sumOfSpeeds (d + 0) Q X) (h : RG G σ a t q p tr n S U K T) (hq : Q (some (.int (cSum T 5 n))) σ) : AW G κ cs ss 0 [lR a, none, none, none, none, none] [] σ := by
  have hn6 := h.n6
  suffices loop : ∀ (m i : Nat) (u x : Int32) (ob : Option LV), i + m = n → x = nI i → u = cSum T 5 i → AW G κ cs ss 13 [lR a, lI u, lR t, lI (nI n), lI x, ob] [] σ by
    refine sX8_sumOfSpeeds_0 hΓ ?_
    refine sX8_sumOfSpeeds_1 hΓ ?_
    refine sX8_sumOfSpeeds_2 hΓ rfl ?_
    refine sX8_sumOfSpeeds_3 hΓ h.o rfl ?_
    refine sX8_sumOfSpeeds_6 hΓ ?_
    refine sX8_sumOfSpeeds_7 hΓ rfl ?_
    refine sX8_sumOfSpeeds_8q hΓ (Or.inr rfl) h.ts ?_
    refine sX8_sumOfSpeeds_9 hΓ ?_
    refine sX8_sumOfSpeeds_10 hΓ ?_
    refine sX8_sumOfSpeeds_11 hΓ ?_
    exact loop n 0 _ _ _ (Nat.zero_add n) rfl rfl
  intro m
  induction m with
  | zero =>
    intro i u x ob hi hx hu
    refine sX8_sumOfSpeeds_13 hΓ rfl ?_
    refine sX8_sumOfSpeeds_15 hΓ rfl ?_
    refine sX8_sumOfSpeeds_16 hΓ (fun c16 => ?_) (fun c16 => absurd (lp_out hx rfl (by omega) (by omega)) c16)
    refine sX8_sumOfSpeeds_39 hΓ rfl ?_
    exact sX8_sumOfSpeeds_40 hΓ (by rw [hu, show i = n by omega]; exact hq)
  | succ m ih =>
    intro i u x ob hi hx hu
    have hin : i < n := by omega
    refine sX8_sumOfSpeeds_13 hΓ rfl ?_
    refine sX8_sumOfSpeeds_15 hΓ rfl ?_
    refine sX8_sumOfSpeeds_16 hΓ (fun c16 => absurd c16 (lp_in hx rfl hin (by omega))) (fun c16 => ?_)
    refine sX8_sumOfSpeeds_19 hΓ rfl ?_
    refine sX8_sumOfSpeeds_20 hΓ rfl ?_
    refine sX8_sumOfSpeeds_22 hΓ (Or.inr rfl) h.ts hx hin (by omega) ?_
    refine sX8_sumOfSpeeds_23 hΓ ?_
    refine sX8_sumOfSpeeds_25 hΓ rfl ?_
    refine sX8_sumOfSpeeds_26 hΓ rfl ?_
    refine sX8_sumOfSpeeds_28 hΓ (h.tn hin) rfl ?_
    refine sX8_sumOfSpeeds_31 hΓ ?_
    refine sX8_sumOfSpeeds_32 hΓ ?_
    refine sX8_sumOfSpeeds_33 hΓ rfl ?_
    refine sX8_sumOfSpeeds_36 hΓ ?_
    exact ih (i + 1) _ _ _ (by omega) (lp_1 hx) (by rw [hu]; rfl)
theorem sr_sumOfObeyed (hΓ : Ok G κ mX8_sumOfObeyed (d + 0) Q X) (h : RG G σ a t q p tr n S U K T) (hq : Q (some (.int (cSum T 11 n))) σ) : AW G κ cs ss 0 [lR a, none, none, none, none, none] [] σ := by
  have hn6 := h.n6
  suffices loop : ∀ (m i : Nat) (u x : Int32) (ob : Option LV), i + m = n → x = nI i → u = cSum T 11 i → AW G κ cs ss 13 [lR a, lI u, lR t, lI (nI n), lI x, ob] [] σ by
    refine sX8_sumOfObeyed_0 hΓ ?_
    refine sX8_sumOfObeyed_1 hΓ ?_
    refine sX8_sumOfObeyed_2 hΓ rfl ?_
    refine sX8_sumOfObeyed_3 hΓ h.o rfl ?_
    refine sX8_sumOfObeyed_6 hΓ ?_
    refine sX8_sumOfObeyed_7 hΓ rfl ?_
    refine sX8_sumOfObeyed_8q hΓ (Or.inr rfl) h.ts ?_
    refine sX8_sumOfObeyed_9 hΓ ?_
    refine sX8_sumOfObeyed_10 hΓ ?_
    refine sX8_sumOfObeyed_11 hΓ ?_
    exact loop n 0 _ _ _ (Nat.zero_add n) rfl rfl
  intro m
  induction m with
  | zero =>
    intro i u x ob hi hx hu
    refine sX8_sumOfObeyed_13 hΓ rfl ?_
    refine sX8_sumOfObeyed_15 hΓ rfl ?_
    refine sX8_sumOfObeyed_16 hΓ (fun c16 => ?_) (fun c16 => absurd (lp_out hx rfl (by omega) (by omega)) c16)
    refine sX8_sumOfObeyed_39 hΓ rfl ?_
    exact sX8_sumOfObeyed_40 hΓ (by rw [hu, show i = n by omega]; exact hq)
  | succ m ih =>
    intro i u x ob hi hx hu
    have hin : i < n := by omega
    refine sX8_sumOfObeyed_13 hΓ rfl ?_
    refine sX8_sumOfObeyed_15 hΓ rfl ?_
    refine sX8_sumOfObeyed_16 hΓ (fun c16 => absurd c16 (lp_in hx rfl hin (by omega))) (fun c16 => ?_)
    refine sX8_sumOfObeyed_19 hΓ rfl ?_
    refine sX8_sumOfObeyed_20 hΓ rfl ?_
    refine sX8_sumOfObeyed_22 hΓ (Or.inr rfl) h.ts hx hin (by omega) ?_
    refine sX8_sumOfObeyed_23 hΓ ?_
    refine sX8_sumOfObeyed_25 hΓ rfl ?_
    refine sX8_sumOfObeyed_26 hΓ rfl ?_
    refine sX8_sumOfObeyed_28 hΓ (h.tn hin) rfl ?_
    refine sX8_sumOfObeyed_31 hΓ ?_
    refine sX8_sumOfObeyed_32 hΓ ?_
    refine sX8_sumOfObeyed_33 hΓ rfl ?_
    refine sX8_sumOfObeyed_36 hΓ ?_
    exact ih (i + 1) _ _ _ (by omega) (lp_1 hx) (by rw [hu]; rfl)
theorem sr_sumOfReceived (hΓ : Ok G κ mX8_sumOfReceived (d + 1) Q X) (h : RG G σ a t q p tr n S U K T) (hq : Q (some (.int (cRecd T n))) σ) : AW G κ cs ss 0 [lR a, none, none, none, none, none] [] σ := by
  have hn6 := h.n6
  suffices loop : ∀ (m i : Nat) (u x : Int32) (ob : Option LV), i + m = n → x = nI i → u = cRecd T i → AW G κ cs ss 13 [lR a, lI u, lR t, lI (nI n), lI x, ob] [] σ by
    refine sX8_sumOfReceived_0 hΓ ?_
    refine sX8_sumOfReceived_1 hΓ ?_
    refine sX8_sumOfReceived_2 hΓ rfl ?_
    refine sX8_sumOfReceived_3 hΓ h.o rfl ?_
    refine sX8_sumOfReceived_6 hΓ ?_
    refine sX8_sumOfReceived_7 hΓ rfl ?_
    refine sX8_sumOfReceived_8q hΓ (Or.inr rfl) h.ts ?_
    refine sX8_sumOfReceived_9 hΓ ?_
    refine sX8_sumOfReceived_10 hΓ ?_
    refine sX8_sumOfReceived_11 hΓ ?_
    exact loop n 0 _ _ _ (Nat.zero_add n) rfl rfl
  intro m
  induction m with
  | zero =>
    intro i u x ob hi hx hu
    refine sX8_sumOfReceived_13 hΓ rfl ?_
    refine sX8_sumOfReceived_15 hΓ rfl ?_
    refine sX8_sumOfReceived_16 hΓ (fun c16 => ?_) (fun c16 => absurd (lp_out hx rfl (by omega) (by omega)) c16)
    refine sX8_sumOfReceived_39 hΓ rfl ?_
    exact sX8_sumOfReceived_40 hΓ (by rw [hu, show i = n by omega]; exact hq)
  | succ m ih =>
    intro i u x ob hi hx hu
    have hin : i < n := by omega
    refine sX8_sumOfReceived_13 hΓ rfl ?_
    refine sX8_sumOfReceived_15 hΓ rfl ?_
    refine sX8_sumOfReceived_16 hΓ (fun c16 => absurd c16 (lp_in hx rfl hin (by omega))) (fun c16 => ?_)
    refine sX8_sumOfReceived_19 hΓ rfl ?_
    refine sX8_sumOfReceived_20 hΓ rfl ?_
    refine sX8_sumOfReceived_22 hΓ (Or.inr rfl) h.ts hx hin (by omega) ?_
    refine sX8_sumOfReceived_23 hΓ ?_
    refine sX8_sumOfReceived_25 hΓ rfl ?_
    refine sX8_sumOfReceived_26 hΓ rfl ?_
    refine sX8_sumOfReceived_28 hΓ 0 0 (Nat.le_of_ble_eq_true rfl) (h.tn hin) (fun κ_28 hΓ_28 => st_received hΓ_28 (h.tn hin) ?_)
    show AW G κ _ _ 31 _ _ _
    refine sX8_sumOfReceived_31 hΓ ?_
    refine sX8_sumOfReceived_32 hΓ ?_
    refine sX8_sumOfReceived_33 hΓ rfl ?_
    refine sX8_sumOfReceived_36 hΓ ?_
    exact ih (i + 1) _ _ _ (by omega) (lp_1 hx) (by rw [hu]; rfl)
theorem sr_numberOfFastest (hΓ : Ok G κ mX8_numberOfFastest (d + 0) Q X) (h : RG G σ a t q p tr n S U K T) (hq : Q (some (.int (nI (cFast T n).1))) σ) : AW G κ cs ss 0 [lR a, none, none, none] [] σ := by
  have hn6 := h.n6
  suffices loop : ∀ (m i : Nat) (u g x : Int32), i + m = n → x = nI i → u = nI (cFast T i).1 → g = (cFast T i).2 → AW G κ cs ss 6 [lR a, lI u, lI g, lI x] [] σ by
    refine sX8_numberOfFastest_0 hΓ ?_
    refine sX8_numberOfFastest_1 hΓ ?_
    refine sX8_numberOfFastest_2 hΓ ?_
    refine sX8_numberOfFastest_3 hΓ ?_
    refine sX8_numberOfFastest_4 hΓ ?_
    refine sX8_numberOfFastest_5 hΓ ?_
    exact loop n 0 _ _ _ (Nat.zero_add n) rfl rfl rfl
  intro m
  induction m with
  | zero =>
    intro i u g x hi hx hu hg
    refine sX8_numberOfFastest_6 hΓ rfl ?_
    refine sX8_numberOfFastest_7 hΓ rfl ?_
    refine sX8_numberOfFastest_8 hΓ h.o rfl ?_
    refine sX8_numberOfFastest_11q hΓ (Or.inr rfl) h.ts ?_
    refine sX8_numberOfFastest_12 hΓ (fun c12 => ?_) (fun c12 => absurd (lp_out hx rfl (by omega) (by omega)) c12)
    refine sX8_numberOfFastest_46 hΓ rfl ?_
    exact sX8_numberOfFastest_47 hΓ (by rw [hu, show i = n by omega]; exact hq)
  | succ m ih =>
    intro i u g x hi hx hu hg
    have hin : i < n := by omega
    refine sX8_numberOfFastest_6 hΓ rfl ?_
    refine sX8_numberOfFastest_7 hΓ rfl ?_
    refine sX8_numberOfFastest_8 hΓ h.o rfl ?_
    refine sX8_numberOfFastest_11q hΓ (Or.inr rfl) h.ts ?_
    refine sX8_numberOfFastest_12 hΓ (fun c12 => absurd c12 (lp_in hx rfl hin (by omega))) (fun c12 => ?_)
    refine sX8_numberOfFastest_15 hΓ rfl ?_
    refine sX8_numberOfFastest_16 hΓ h.o rfl ?_
    refine sX8_numberOfFastest_19 hΓ rfl ?_
    refine sX8_numberOfFastest_20 hΓ (Or.inr rfl) h.ts hx hin (by omega) ?_
    refine sX8_numberOfFastest_21 hΓ (h.tn hin) rfl ?_
    refine sX8_numberOfFastest_24 hΓ rfl ?_
    refine sX8_numberOfFastest_25 hΓ (fun c25 => ?_) (fun c25 => ?_)
    · have e : cFast T (i + 1) = cFast T i := if_neg (by rw [← hg]; exact Int32.not_lt.mpr c25)
      refine sX8_numberOfFastest_40 hΓ rfl ?_
      refine sX8_numberOfFastest_43 hΓ ?_
      exact ih (i + 1) _ _ _ (by omega) (lp_1 hx) (by rw [e]; first | exact hu | exact hx) (by first | (rw [e]; exact hg) | rw [e])
    · have e : cFast T (i + 1) = (i, T i 5) := if_pos (by rw [← hg]; exact Int32.not_le.mp c25)
      refine sX8_numberOfFastest_28 hΓ rfl ?_
      refine sX8_numberOfFastest_29 hΓ h.o rfl ?_
      refine sX8_numberOfFastest_32 hΓ rfl ?_
      refine sX8_numberOfFastest_33 hΓ (Or.inr rfl) h.ts hx hin (by omega) ?_
      refine sX8_numberOfFastest_34 hΓ (h.tn hin) rfl ?_
      refine sX8_numberOfFastest_37 hΓ ?_
      refine sX8_numberOfFastest_38 hΓ rfl ?_
      refine sX8_numberOfFastest_39 hΓ ?_
      refine sX8_numberOfFastest_40 hΓ rfl ?_
      refine sX8_numberOfFastest_43 hΓ ?_
      exact ih (i + 1) _ _ _ (by omega) (lp_1 hx) (by rw [e]; first | exact hu | exact hx) (by first | (rw [e]; exact hg) | rw [e])
theorem sr_pairs (hΓ : Ok G κ mX8_pairsInOneSection (d + 0) Q X) (h : RG G σ a t q p tr n S U K T) (hq : Q (some (.int (cPairs T n n))) σ) : AW G κ cs ss 0 [lR a, none, none, none] [] σ := by
  have hn6 := h.n6
  suffices loop : ∀ (m i : Nat) (u x : Int32) (ob : Option LV), i + m = n → x = nI i → u = cPairs T n i → AW G κ cs ss 4 [lR a, lI u, lI x, ob] [] σ by
    refine sX8_pairsInOneSection_0 hΓ ?_
    refine sX8_pairsInOneSection_1 hΓ ?_
    refine sX8_pairsInOneSection_2 hΓ ?_
    refine sX8_pairsInOneSection_3 hΓ ?_
    exact loop n 0 _ _ _ (Nat.zero_add n) rfl rfl
  intro m
  induction m with
  | zero =>
    intro i u x ob hi hx hu
    refine sX8_pairsInOneSection_4 hΓ rfl ?_
    refine sX8_pairsInOneSection_5 hΓ rfl ?_
    refine sX8_pairsInOneSection_6 hΓ h.o rfl ?_
    refine sX8_pairsInOneSection_9q hΓ (Or.inr rfl) h.ts ?_
    refine sX8_pairsInOneSection_10 hΓ (fun c10 => ?_) (fun c10 => absurd (lp_out hx rfl (by omega) (by omega)) c10)
    refine sX8_pairsInOneSection_62 hΓ rfl ?_
    exact sX8_pairsInOneSection_63 hΓ (by rw [hu, show i = n by omega]; exact hq)
  | succ m ih =>
    intro i u x ob hi hx hu
    have hin : i < n := by omega
    suffices loop2 : ∀ (m1 i1 : Nat) (u1 y : Int32), i1 + m1 = n - (i + 1) → y = nI (i + 1 + i1) → u1 = cPairs T n i + cPairI T i i1 → AW G κ cs ss 17 [lR a, lI u1, lI x, lI y] [] σ by
      refine sX8_pairsInOneSection_4 hΓ rfl ?_
      refine sX8_pairsInOneSection_5 hΓ rfl ?_
      refine sX8_pairsInOneSection_6 hΓ h.o rfl ?_
      refine sX8_pairsInOneSection_9q hΓ (Or.inr rfl) h.ts ?_
      refine sX8_pairsInOneSection_10 hΓ (fun c10 => absurd c10 (lp_in hx rfl hin (by omega))) (fun c10 => ?_)
      refine sX8_pairsInOneSection_13 hΓ rfl ?_
      refine sX8_pairsInOneSection_14 hΓ ?_
      refine sX8_pairsInOneSection_15 hΓ ?_
      refine sX8_pairsInOneSection_16 hΓ ?_
      exact loop2 _ 0 _ _ (Nat.zero_add _) (by rw [hx]; exact nI_1 i) (by rw [hu]; exact (Int32.add_zero _).symm)
    intro m1
    induction m1 with
    | zero =>
      intro i1 u1 y hi1 hy hu1
      refine sX8_pairsInOneSection_17 hΓ rfl ?_
      refine sX8_pairsInOneSection_18 hΓ rfl ?_
      refine sX8_pairsInOneSection_19 hΓ h.o rfl ?_
      refine sX8_pairsInOneSection_22q hΓ (Or.inr rfl) h.ts ?_
      refine sX8_pairsInOneSection_23 hΓ (fun c23 => ?_) (fun c23 => absurd (lp_out hy rfl (by omega) (by omega)) c23)
      refine sX8_pairsInOneSection_56 hΓ rfl ?_
      refine sX8_pairsInOneSection_59 hΓ ?_
      exact ih (i + 1) _ _ _ (by omega) (lp_1 hx) (by rw [hu1, show i1 = n - (i + 1) by omega]; rfl)
    | succ m1 ih2 =>
      intro i1 u1 y hi1 hy hu1
      have hin1 : i + 1 + i1 < n := by omega
      refine sX8_pairsInOneSection_17 hΓ rfl ?_
      refine sX8_pairsInOneSection_18 hΓ rfl ?_
      refine sX8_pairsInOneSection_19 hΓ h.o rfl ?_
      refine sX8_pairsInOneSection_22q hΓ (Or.inr rfl) h.ts ?_
      refine sX8_pairsInOneSection_23 hΓ (fun c23 => absurd c23 (lp_in hy rfl hin1 (by omega))) (fun c23 => ?_)
      refine sX8_pairsInOneSection_26 hΓ rfl ?_
      refine sX8_pairsInOneSection_27 hΓ h.o rfl ?_
      refine sX8_pairsInOneSection_30 hΓ rfl ?_
      refine sX8_pairsInOneSection_31 hΓ (Or.inr rfl) h.ts hx hin (by omega) ?_
      refine sX8_pairsInOneSection_32 hΓ (h.tn hin) rfl ?_
      refine sX8_pairsInOneSection_35 hΓ rfl ?_
      refine sX8_pairsInOneSection_36 hΓ h.o rfl ?_
      refine sX8_pairsInOneSection_39 hΓ rfl ?_
      refine sX8_pairsInOneSection_40 hΓ (Or.inr rfl) h.ts hy hin1 (by omega) ?_
      refine sX8_pairsInOneSection_41 hΓ (h.tn hin1) rfl ?_
      refine sX8_pairsInOneSection_44 hΓ (fun c44 => ?_) (fun c44 => ?_)
      · have e : bI (T i 3 == T (i + 1 + i1) 3) = 0 := by rw [beq_eq_false_iff_ne.mpr c44]; rfl
        refine sX8_pairsInOneSection_50 hΓ rfl ?_
        refine sX8_pairsInOneSection_53 hΓ ?_
        exact ih2 (i1 + 1) _ _ (by omega) (lp_1 hy) (by rw [hu1]; show _ = cPairs T n i + (cPairI T i i1 + bI (T i 3 == T (i + 1 + i1) 3)); rw [e]; first | rw [Int32.add_zero] | rw [Int32.add_assoc])
      · have e : bI (T i 3 == T (i + 1 + i1) 3) = 1 := by rw [beq_iff_eq.mpr c44]; rfl
        refine sX8_pairsInOneSection_47 hΓ rfl ?_
        refine sX8_pairsInOneSection_50 hΓ rfl ?_
        refine sX8_pairsInOneSection_53 hΓ ?_
        exact ih2 (i1 + 1) _ _ (by omega) (lp_1 hy) (by rw [hu1]; show _ = cPairs T n i + (cPairI T i i1 + bI (T i 3 == T (i + 1 + i1) 3)); rw [e]; first | rw [Int32.add_zero] | rw [Int32.add_assoc])
theorem sr_signOf (hΓ : Ok G κ mX8_signOf (d + 1) Q X) (h : RG G σ a t q p tr n S U K T) {x : Int32} (hq : Q (some (.int (cSign S T n x))) σ) : AW G κ cs ss 0 [lR a, lI x, none] [] σ := by
  have hn6 := h.n6
  refine sX8_signOf_0 hΓ rfl ?_
  refine sX8_signOf_1 hΓ rfl ?_
  refine sX8_signOf_2 hΓ 0 0 (Nat.le_of_ble_eq_true rfl) h.o (fun κ_2 hΓ_2 => sr_numberIn hΓ_2 h ?_)
  show AW G κ _ _ 5 _ _ _
  refine sX8_signOf_5 hΓ ?_
  refine sX8_signOf_6 hΓ rfl ?_
  refine sX8_signOf_7 hΓ (fun c7 => ?_) (fun c7 => ?_)
  · have e := (oI_neg (fun k e => by have := cFst_lt e; omega)).mp c7
    rw [cSign, e] at hq
    refine sX8_signOf_15 hΓ rfl ?_
    refine sX8_signOf_16 hΓ rfl ?_
    refine sX8_signOf_17 hΓ 0 0 (Nat.le_of_ble_eq_true rfl) h.o (fun κ_17 hΓ_17 => sr_isShorted hΓ_17 h ?_)
    show AW G κ _ _ 20 _ _ _
    refine sX8_signOf_20 hΓ (fun c20 => ?_) (fun c20 => ?_)
    · rw [if_neg (by rw [bI_0 c20]; exact Bool.false_ne_true)] at hq
      refine sX8_signOf_26 hΓ rfl ?_
      refine sX8_signOf_27 hΓ rfl ?_
      refine sX8_signOf_28 hΓ 0 0 (Nat.le_of_ble_eq_true rfl) h.o (fun κ_28 hΓ_28 => sr_isDug hΓ_28 h ?_)
      show AW G κ _ _ 31 _ _ _
      refine sX8_signOf_31 hΓ (fun c31 => ?_) (fun c31 => ?_)
      · rw [if_neg (by rw [bI_0 c31]; exact Bool.false_ne_true)] at hq
        refine sX8_signOf_39 hΓ ?_
        exact sX8_signOf_41 hΓ hq
      · rw [if_pos (bI_n0 c31)] at hq
        refine sX8_signOf_34 hΓ ?_
        refine sX8_signOf_36 hΓ ?_
        exact sX8_signOf_41 hΓ hq
    · rw [if_pos (bI_n0 c20)] at hq
      refine sX8_signOf_23 hΓ ?_
      exact sX8_signOf_25 hΓ hq
  · have e : ∃ k, cFst T n 3 x = some k := by
      cases e : cFst T n 3 x with
      | none => rw [e] at c7; exact absurd (by decide) c7
      | some k => exact ⟨k, rfl⟩
    obtain ⟨k, e⟩ := e
    rw [cSign, e] at hq
    rw [e]
    refine sX8_signOf_10 hΓ ?_
    refine sX8_signOf_12 hΓ rfl ?_
    refine sX8_signOf_13 hΓ ?_
    exact sX8_signOf_14 hΓ hq
theorem sr_isShortMet (hΓ : Ok G κ mX8_isShortMet (d + 1) Q X) (h : RG G σ a t q p tr n S U K T) (hq : Q (some (.int (bI (cMet S T n)))) σ) : AW G κ cs ss 0 [lR a, none, none, none, none] [] σ := by
  have hn6 := h.n6
  suffices loop : ∀ (m i : Nat) (x : Int32) (ob : Option LV), i + m = n → x = nI i → (∀ j, j < i → bitB (S 3) (T j 3) = false) → AW G κ cs ss 10 [lR a, lR t, lI (nI n), lI x, ob] [] σ by
    refine sX8_isShortMet_0 hΓ rfl ?_
    refine sX8_isShortMet_1 hΓ h.o rfl ?_
    refine sX8_isShortMet_4 hΓ ?_
    refine sX8_isShortMet_5 hΓ rfl ?_
    refine sX8_isShortMet_6q hΓ (Or.inr rfl) h.ts ?_
    refine sX8_isShortMet_7 hΓ ?_
    refine sX8_isShortMet_8 hΓ ?_
    refine sX8_isShortMet_9 hΓ ?_
    exact loop n 0 _ _ (Nat.zero_add n) rfl (fun j hj => absurd hj (Nat.not_lt_zero j))
  intro m
  induction m with
  | zero =>
    intro i x ob hi hx hj
    have ei : i = n := by omega
    subst ei
    rw [show cMet S T i = false by rw [cMet, fsB_none _ hj]; rfl] at hq
    refine sX8_isShortMet_10 hΓ rfl ?_
    refine sX8_isShortMet_11 hΓ rfl ?_
    refine sX8_isShortMet_12 hΓ (fun c12 => ?_) (fun c12 => absurd (lp_out hx rfl (by omega) (by omega)) c12)
    refine sX8_isShortMet_40 hΓ ?_
    exact sX8_isShortMet_41 hΓ (Or.inl rfl) hq
  | succ m ih =>
    intro i x ob hi hx hj
    have hin : i < n := by omega
    refine sX8_isShortMet_10 hΓ rfl ?_
    refine sX8_isShortMet_11 hΓ rfl ?_
    refine sX8_isShortMet_12 hΓ (fun c12 => absurd c12 (lp_in hx rfl hin (by omega))) (fun c12 => ?_)
    refine sX8_isShortMet_15 hΓ rfl ?_
    refine sX8_isShortMet_16 hΓ rfl ?_
    refine sX8_isShortMet_17 hΓ (Or.inr rfl) h.ts hx hin (by omega) ?_
    refine sX8_isShortMet_18 hΓ ?_
    refine sX8_isShortMet_20 hΓ rfl ?_
    refine sX8_isShortMet_21 hΓ rfl ?_
    refine sX8_isShortMet_23 hΓ (h.tn hin) rfl ?_
    refine sX8_isShortMet_26 hΓ 0 0 (Nat.le_of_ble_eq_true rfl) h.o (fun κ_26 hΓ_26 => sr_isShorted hΓ_26 h ?_)
    show AW G κ _ _ 29 _ _ _
    refine sX8_isShortMet_29 hΓ (fun c29 => ?_) (fun c29 => ?_)
    · have e := bI_0 c29
      refine sX8_isShortMet_34 hΓ rfl ?_
      refine sX8_isShortMet_37 hΓ ?_
      exact ih (i + 1) _ _ (by omega) (lp_1 hx) (fun j hj2 => (Nat.lt_succ_iff_lt_or_eq.mp hj2).elim (hj j) (fun e1 => by rw [e1]; exact e))
    · have e := bI_n0 c29
      rw [show cMet S T n = true by rw [cMet, fsB_some (fun k => bitB (S 3) (T k 3)) e hj hin]; rfl] at hq
      refine sX8_isShortMet_32 hΓ ?_
      exact sX8_isShortMet_33 hΓ (Or.inr rfl) hq
end ClassTell
