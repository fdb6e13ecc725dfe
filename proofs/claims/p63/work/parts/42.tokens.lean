/-! the class's tokens -/
abbrev tkV (inp : Nat) (l k s e v : Int32) : List Value := [.ref inp, .int l, .int k, .int s, .int e, .int v]
/-- the heap is σ0, but for the tokens' object -/
def TT (σ0 : Hp) (tk inp : Nat) (l k s e v : Int32) (σ : Hp) : Prop := σ = hset σ0 tk (.inr (8, tkV inp l k s e v))
/-- an input's object, its bytes -/
def II (G : Gl) (σ : Hp) (inp v : Nat) (n : Int32) (b : Nat → Int32) : Prop := σ inp = some (.inr (3, [.ref v, .int n])) ∧ σ v = some (eI G 500 b)
def kOfC (x : Int32) : Int32 := if isLet x = true then 1 else if isDig x = true then 2 else if x = -1 then 0 else if x = 40 then 4 else if x = 41 then 5 else if x = 59 then 3 else 6
/-- a number's value, cut at 1000 -/
def cVn (b : Nat → Int32) (s : Nat) : Nat → Nat
  | 0 => 0
  | n + 1 => if 1000 < cVn b s n * 10 + dg (b (s + n)) then 1000 else cVn b s n * 10 + dg (b (s + n))
theorem cVn_le (b : Nat → Int32) (s : Nat) : ∀ n, cVn b s n ≤ 1000
  | 0 => Nat.zero_le _
  | n + 1 => by
    by_cases c : 1000 < cVn b s n * 10 + dg (b (s + n))
    · rw [show cVn b s (n + 1) = 1000 from if_pos c]; exact Nat.le_refl _
    · rw [show cVn b s (n + 1) = cVn b s n * 10 + dg (b (s + n)) from if_neg c]; omega
def tKd (b : Nat → Int32) (L p : Nat) : Int32 := kOfC (bAt b L (tS b L p))
def tVl (b : Nat → Int32) (L p : Nat) : Nat := if tK b L p = 2 then cVn b (tS b L p) (tE b L p - tS b L p) else 0
def tWrd (b : Nat → Int32) (L p t : Nat) : Bool := (tK b L p == 1) && ((txB t).length == tE b L p - tS b L p && wEq b (tS b L p) t (txB t).length)
/-- no byte of the text is -1 -/
def BB (b : Nat → Int32) (L : Nat) : Prop := ∀ j, j < L → ¬ b j = -1
theorem tK_c {b : Nat → Int32} {L p : Nat} (hb : BB b L) : tKd b L p = (if tK b L p = 3 then (if b (tS b L p) = 40 then 4 else if b (tS b L p) = 41 then 5 else if b (tS b L p) = 59 then 3 else 6) else nI (tK b L p)) := by
  unfold tKd kOfC
  by_cases c : L ≤ tS b L p
  · rw [(tk_0 c).2, bAt_out c]; rfl
  · by_cases c1 : isLet (bAt b L (tS b L p)) = true
    · rw [(tk_1 c c1).2, if_pos c1]; rfl
    · have c1' := Bool.eq_false_iff.mpr c1
      by_cases c2 : isDig (bAt b L (tS b L p)) = true
      · rw [(tk_2 c c1' c2).2, if_neg c1, if_pos c2]; rfl
      · rw [(tk_3 c c1' (Bool.eq_false_iff.mpr c2)).2, if_neg c1, if_neg c2, bAt_in (by omega), if_neg (hb _ (by omega)), if_pos rfl]
theorem tKd_lt {b : Nat → Int32} {L p k : Nat} (hb : BB b L) (hk : k < 3) : tKd b L p = nI k ↔ tK b L p = k := by
  rw [tK_c hb]
  have h3 := tK_le b L p
  by_cases c : tK b L p = 3
  · rw [if_pos c, c]
    refine ⟨fun h => ?_, fun h => absurd h (by omega)⟩
    exfalso
    have : k = 0 ∨ k = 1 ∨ k = 2 := by omega
    split at h
    · rcases this with e | e | e <;> subst e <;> exact absurd h (by decide)
    · split at h
      · rcases this with e | e | e <;> subst e <;> exact absurd h (by decide)
      · split at h
        · rcases this with e | e | e <;> subst e <;> exact absurd h (by decide)
        · rcases this with e | e | e <;> subst e <;> exact absurd h (by decide)
  · rw [if_neg c]
    exact nI_eq (by omega) (by omega)
/-- the signs ( ) ; -/
def sgC (k : Nat) : Int32 := if k = 3 then 59 else if k = 4 then 40 else 41
theorem tKd_sg {b : Nat → Int32} {L p k : Nat} (hb : BB b L) (h3 : 3 ≤ k) (h5 : k ≤ 5) : tKd b L p = nI k ↔ tK b L p = 3 ∧ b (tS b L p) = sgC k := by
  rw [tK_c hb]
  have hle := tK_le b L p
  by_cases c : tK b L p = 3
  · rw [if_pos c]
    have : k = 3 ∨ k = 4 ∨ k = 5 := by omega
    by_cases c0 : b (tS b L p) = 40
    · rw [if_pos c0, c0]
      rcases this with e | e | e <;> subst e
      · exact ⟨fun h => absurd h (by decide), fun h => absurd h.2 (by decide)⟩
      · exact ⟨fun _ => ⟨c, rfl⟩, fun _ => rfl⟩
      · exact ⟨fun h => absurd h (by decide), fun h => absurd h.2 (by decide)⟩
    · rw [if_neg c0]
      by_cases c1 : b (tS b L p) = 41
      · rw [if_pos c1, c1]
        rcases this with e | e | e <;> subst e
        · exact ⟨fun h => absurd h (by decide), fun h => absurd h.2 (by decide)⟩
        · exact ⟨fun h => absurd h (by decide), fun h => absurd h.2 (by decide)⟩
        · exact ⟨fun _ => ⟨c, rfl⟩, fun _ => rfl⟩
      · rw [if_neg c1]
        by_cases c2 : b (tS b L p) = 59
        · rw [if_pos c2, c2]
          rcases this with e | e | e <;> subst e
          · exact ⟨fun _ => ⟨c, rfl⟩, fun _ => rfl⟩
          · exact ⟨fun h => absurd h (by decide), fun h => absurd h.2 (by decide)⟩
          · exact ⟨fun h => absurd h (by decide), fun h => absurd h.2 (by decide)⟩
        · rw [if_neg c2]
          rcases this with e | e | e <;> subst e
          · exact ⟨fun h => absurd h (by decide), fun h => absurd h.2 c2⟩
          · exact ⟨fun h => absurd h (by decide), fun h => absurd h.2 c0⟩
          · exact ⟨fun h => absurd h (by decide), fun h => absurd h.2 c1⟩
  · rw [if_neg c]
    refine ⟨fun h => ?_, fun h => absurd h.1 c⟩
    have := (nI_eq (by omega) (by omega)).mp h
    omega
section ClassTok
variable {G : Gl} {κ : Kx} {d : Nat} {Q : Option Value → Hp → Prop} {X : String → Hp → Prop} {cs ss pc : Nat} {M : List (Option LV)} {st : List Value} {σ σ0 : Hp} {tk inp v : Nat} {l k s e w n : Int32} {b : Nat → Int32} {L : Nat}
theorem TT.mk (h : σ tk = some (.inr (8, tkV inp l k s e w))) : TT σ tk inp l k s e w σ := (hset_id h).symm
theorem TT.o (h : TT σ0 tk inp l k s e w σ) : σ tk = some (.inr (8, tkV inp l k s e w)) := by
  rw [h]; exact hset_same _ _ _
theorem TT.ii (h : TT σ0 tk inp l k s e w σ) (hI : II G σ0 inp v n b) {gs : List Value} (h0 : σ0 tk = some (.inr (8, gs))) : II G σ inp v n b := by
  rw [h]
  exact ⟨by rw [hset_ne (obj_ne hI.1 h0 (by decide))]; exact hI.1, by rw [hset_ne (Ne.symm (oa_ne h0 hI.2))]; exact hI.2⟩
theorem tt_put (h : TT σ0 tk inp l k s e w σ) {fs : List Value} (l1 k1 s1 e1 w1 : Int32) (hf : fs = tkV inp l1 k1 s1 e1 w1) (kk : ∀ σ1 : Hp, TT σ0 tk inp l1 k1 s1 e1 w1 σ1 → AW G κ cs ss pc M st σ1) : AW G κ cs ss pc M st (hset σ tk (.inr (8, fs))) := by
  subst hf
  refine kk _ ?_
  rw [h]
  exact hset_hset _ _ _ _
theorem sk_isSeparator (hΓ : Ok G κ mX10_isSeparator (d + 0) Q X) {x : Int32} (hq : Q (some (.int (bI (isSep x)))) σ) : AW G κ cs ss 0 [lI x] [] σ := by
  refine sX10_isSeparator_0 hΓ rfl ?_
  refine sX10_isSeparator_1 hΓ ?_
  refine sX10_isSeparator_3 hΓ (fun c3 => ?_) (fun c3 => ?_)
  · rw [isSep_t (Or.inl c3)] at hq
    refine sX10_isSeparator_12 hΓ ?_
    refine sX10_isSeparator_13 hΓ ?_
    exact sX10_isSeparator_17 hΓ (by first | exact Or.inl rfl | exact Or.inr rfl) hq
  · refine sX10_isSeparator_6 hΓ rfl ?_
    refine sX10_isSeparator_7 hΓ ?_
    refine sX10_isSeparator_9 hΓ (fun c9 => ?_) (fun c9 => ?_)
    · rw [isSep_f c3 c9] at hq
      refine sX10_isSeparator_16 hΓ ?_
      exact sX10_isSeparator_17 hΓ (by first | exact Or.inl rfl | exact Or.inr rfl) hq
    · rw [isSep_t (Or.inr c9)] at hq
      refine sX10_isSeparator_12 hΓ ?_
      refine sX10_isSeparator_13 hΓ ?_
      exact sX10_isSeparator_17 hΓ (by first | exact Or.inl rfl | exact Or.inr rfl) hq
theorem sk_isLetter (hΓ : Ok G κ mX10_isLetter (d + 0) Q X) {x : Int32} (hq : Q (some (.int (bI (isLet x)))) σ) : AW G κ cs ss 0 [lI x] [] σ := by
  refine sX10_isLetter_0 hΓ rfl ?_
  refine sX10_isLetter_1 hΓ ?_
  refine sX10_isLetter_3 hΓ (fun c3 => ?_) (fun c3 => ?_)
  · rw [show isLet x = false from rIn_lo c3] at hq
    refine sX10_isLetter_16 hΓ ?_
    exact sX10_isLetter_17 hΓ (by first | exact Or.inl rfl | exact Or.inr rfl) hq
  · refine sX10_isLetter_6 hΓ rfl ?_
    refine sX10_isLetter_7 hΓ ?_
    refine sX10_isLetter_9 hΓ (fun c9 => ?_) (fun c9 => ?_)
    · rw [show isLet x = false from rIn_hi c9] at hq
      refine sX10_isLetter_16 hΓ ?_
      exact sX10_isLetter_17 hΓ (by first | exact Or.inl rfl | exact Or.inr rfl) hq
    · rw [show isLet x = true from rIn_in c3 c9] at hq
      refine sX10_isLetter_12 hΓ ?_
      refine sX10_isLetter_13 hΓ ?_
      exact sX10_isLetter_17 hΓ (by first | exact Or.inl rfl | exact Or.inr rfl) hq
theorem sk_isDigit (hΓ : Ok G κ mX10_isDigit (d + 0) Q X) {x : Int32} (hq : Q (some (.int (bI (isDig x)))) σ) : AW G κ cs ss 0 [lI x] [] σ := by
  refine sX10_isDigit_0 hΓ rfl ?_
  refine sX10_isDigit_1 hΓ ?_
  refine sX10_isDigit_3 hΓ (fun c3 => ?_) (fun c3 => ?_)
  · rw [show isDig x = false from rIn_lo c3] at hq
    refine sX10_isDigit_16 hΓ ?_
    exact sX10_isDigit_17 hΓ (by first | exact Or.inl rfl | exact Or.inr rfl) hq
  · refine sX10_isDigit_6 hΓ rfl ?_
    refine sX10_isDigit_7 hΓ ?_
    refine sX10_isDigit_9 hΓ (fun c9 => ?_) (fun c9 => ?_)
    · rw [show isDig x = false from rIn_hi c9] at hq
      refine sX10_isDigit_16 hΓ ?_
      exact sX10_isDigit_17 hΓ (by first | exact Or.inl rfl | exact Or.inr rfl) hq
    · rw [show isDig x = true from rIn_in c3 c9] at hq
      refine sX10_isDigit_12 hΓ ?_
      refine sX10_isDigit_13 hΓ ?_
      exact sX10_isDigit_17 hΓ (by first | exact Or.inl rfl | exact Or.inr rfl) hq
theorem sk_kindOf (hΓ : Ok G κ mX10_kindOf (d + 1) Q X) {x : Int32} (hq : Q (some (.int (kOfC x))) σ) : AW G κ cs ss 0 [lI x] [] σ := by
  refine sX10_kindOf_0 hΓ rfl ?_
  refine sX10_kindOf_1 hΓ 0 0 (Nat.le_of_ble_eq_true rfl) (fun κ_1 hΓ_1 => sk_isLetter hΓ_1 ?_)
  show AW G κ _ _ 4 _ _ _
  refine sX10_kindOf_4 hΓ (fun c4 => ?_) (fun c4 => ?_)
  · have e1 := Bool.eq_false_iff.mp (bI_0 c4)
    refine sX10_kindOf_9 hΓ rfl ?_
    refine sX10_kindOf_10 hΓ 0 0 (Nat.le_of_ble_eq_true rfl) (fun κ_10 hΓ_10 => sk_isDigit hΓ_10 ?_)
    show AW G κ _ _ 13 _ _ _
    refine sX10_kindOf_13 hΓ (fun c13 => ?_) (fun c13 => ?_)
    · have e2 := Bool.eq_false_iff.mp (bI_0 c13)
      refine sX10_kindOf_18 hΓ rfl ?_
      refine sX10_kindOf_19 hΓ (fun c19 => ?_) (fun c19 => ?_) (fun c19 => ?_) (fun c19 => ?_) (fun c19_0 c19_1 c19_2 c19_3 => ?_)
      · refine sX10_kindOf_60 hΓ ?_
        exact sX10_kindOf_61 hΓ (by rw [show kOfC x = 0 from (if_neg e1).trans ((if_neg e2).trans (if_pos c19))] at hq; exact hq)
      · refine sX10_kindOf_64 hΓ ?_
        exact sX10_kindOf_65 hΓ (by rw [show kOfC x = 4 from (if_neg e1).trans ((if_neg e2).trans ((if_neg (by rw [c19]; decide)).trans (if_pos c19)))] at hq; exact hq)
      · refine sX10_kindOf_66 hΓ ?_
        exact sX10_kindOf_67 hΓ (by rw [show kOfC x = 5 from (if_neg e1).trans ((if_neg e2).trans ((if_neg (by rw [c19]; decide)).trans ((if_neg (by rw [c19]; decide)).trans (if_pos c19))))] at hq; exact hq)
      · refine sX10_kindOf_62 hΓ ?_
        exact sX10_kindOf_63 hΓ (by rw [show kOfC x = 3 from (if_neg e1).trans ((if_neg e2).trans ((if_neg (by rw [c19]; decide)).trans ((if_neg (by rw [c19]; decide)).trans ((if_neg (by rw [c19]; decide)).trans (if_pos c19)))))] at hq; exact hq)
      · refine sX10_kindOf_68 hΓ ?_
        exact sX10_kindOf_70 hΓ (by rw [show kOfC x = 6 from (if_neg e1).trans ((if_neg e2).trans ((if_neg c19_0).trans ((if_neg c19_1).trans ((if_neg c19_2).trans (if_neg c19_3)))))] at hq; exact hq)
    · rw [show kOfC x = 2 from (if_neg e1).trans (if_pos (bI_n0 c13))] at hq
      refine sX10_kindOf_16 hΓ ?_
      exact sX10_kindOf_17 hΓ hq
  · rw [show kOfC x = 1 from if_pos (bI_n0 c4)] at hq
    refine sX10_kindOf_7 hΓ ?_
    exact sX10_kindOf_8 hΓ hq
theorem sk_byteAt (hΓ : Ok G κ mX10_byteAt (d + 0) Q X) (h : σ tk = some (.inr (8, tkV inp l k s e w))) (hI : II G σ inp v n b) (hL : l = nI L) (hL5 : L ≤ 500) {x : Int32} {i : Nat} (hx : x = nI i) (hi : i < 2 ^ 30) (hq : Q (some (.int (bAt b L i))) σ) : AW G κ cs ss 0 [lR tk, lI x] [] σ := by
  refine sX10_byteAt_0 hΓ rfl ?_
  refine sX10_byteAt_1 hΓ (fun c1 => absurd c1 (by rw [hx]; exact nI_pos (by omega))) (fun c1 => ?_)
  refine sX10_byteAt_4 hΓ rfl ?_
  refine sX10_byteAt_5 hΓ rfl ?_
  refine sX10_byteAt_6 hΓ h rfl ?_
  refine sX10_byteAt_9 hΓ (fun c9 => ?_) (fun c9 => ?_)
  · rw [bAt_out (nI_lez hL hx (by omega) (by omega) c9)] at hq
    refine sX10_byteAt_36 hΓ ?_
    exact sX10_byteAt_37 hΓ hq
  · have hiL : i < L := Nat.lt_of_not_le (fun c => c9 (by rw [hL, hx]; exact nI_le c (by omega)))
    rw [bAt_in hiL] at hq
    refine sX10_byteAt_12 hΓ rfl ?_
    refine sX10_byteAt_13 hΓ rfl ?_
    refine sX10_byteAt_14 hΓ h rfl ?_
    refine sX10_byteAt_17 hΓ hI.1 rfl ?_
    refine sX10_byteAt_20 hΓ hI.2 ?_
    refine sX10_byteAt_21 hΓ (fun c21 => absurd c21 (by rw [hx]; exact nI_ge (b := 500) (by omega) (by decide))) (fun c21 => ?_)
    refine sX10_byteAt_24 hΓ rfl ?_
    refine sX10_byteAt_25 hΓ h rfl ?_
    refine sX10_byteAt_28 hΓ hI.1 rfl ?_
    refine sX10_byteAt_31 hΓ rfl ?_
    refine sX10_byteAt_32 hΓ hI.2 hx (by omega) (by decide) ?_
    refine sX10_byteAt_33 hΓ ?_
    exact sX10_byteAt_37 hΓ hq
theorem cVn_st {p j : Nat} (hd : isDig (b j) = true) (hS : tS b L p ≤ j) (hL : j < L) : (if (1000 : Int32) < nI (cVn b (tS b L p) (j - tS b L p)) * 10 + bAt b L j - 48 then (1000 : Int32) else nI (cVn b (tS b L p) (j - tS b L p)) * 10 + bAt b L j - 48) = nI (cVn b (tS b L p) (j + 1 - tS b L p)) := by
  obtain ⟨q, h1, h2, h3, h4⟩ := dg_ok hd
  have hc := cVn_le b (tS b L p) (j - tS b L p)
  have e : nI (cVn b (tS b L p) (j - tS b L p)) * 10 + bAt b L j - 48 = nI (cVn b (tS b L p) (j - tS b L p) * 10 + (q - 48)) := by
    rw [bAt_in hL, h1, show (10 : Int32) = nI 10 from rfl, pk_mul, nI_add]
    exact (pk_sub (b := 48) (by omega)).trans (congrArg nI (by omega))
  rw [e, show j + 1 - tS b L p = (j - tS b L p) + 1 by omega]
  have e2 : cVn b (tS b L p) (j - tS b L p + 1) = if 1000 < cVn b (tS b L p) (j - tS b L p) * 10 + (q - 48) then 1000 else cVn b (tS b L p) (j - tS b L p) * 10 + (q - 48) := by
    show (if 1000 < _ * 10 + dg (b (tS b L p + (j - tS b L p))) then 1000 else _ * 10 + dg (b (tS b L p + (j - tS b L p)))) = _
    rw [show tS b L p + (j - tS b L p) = j by omega, h4]
  rw [e2]
  by_cases c : 1000 < cVn b (tS b L p) (j - tS b L p) * 10 + (q - 48)
  · rw [if_pos c, show (1000 : Int32) = nI 1000 from rfl, if_pos (nI_lt c (by omega))]
  · rw [if_neg c, show (1000 : Int32) = nI 1000 from rfl, if_neg (nI_nlt (by omega) (by omega))]
theorem tE_k0 {p : Nat} (h : tK b L p = 0) : tE b L p = tS b L p := by
  by_cases c : L ≤ tS b L p
  · exact (tk_0 c).1
  · by_cases c1 : isLet (bAt b L (tS b L p)) = true
    · rw [(tk_1 c c1).2] at h; cases h
    · by_cases c2 : isDig (bAt b L (tS b L p)) = true
      · rw [(tk_2 c (Bool.eq_false_iff.mpr c1) c2).2] at h; cases h
      · rw [(tk_3 c (Bool.eq_false_iff.mpr c1) (Bool.eq_false_iff.mpr c2)).2] at h; cases h
theorem tE_k1 {p : Nat} (h : tK b L p = 1) : tE b L p = wh isLet b L 500 (tS b L p) := by
  by_cases c : L ≤ tS b L p
  · rw [(tk_0 c).2] at h; cases h
  · by_cases c1 : isLet (bAt b L (tS b L p)) = true
    · exact (tk_1 c c1).1
    · by_cases c2 : isDig (bAt b L (tS b L p)) = true
      · rw [(tk_2 c (Bool.eq_false_iff.mpr c1) c2).2] at h; cases h
      · rw [(tk_3 c (Bool.eq_false_iff.mpr c1) (Bool.eq_false_iff.mpr c2)).2] at h; cases h
theorem tE_k2 {p : Nat} (h : tK b L p = 2) : tE b L p = wh isDig b L 500 (tS b L p) := by
  by_cases c : L ≤ tS b L p
  · rw [(tk_0 c).2] at h; cases h
  · by_cases c1 : isLet (bAt b L (tS b L p)) = true
    · rw [(tk_1 c c1).2] at h; cases h
    · by_cases c2 : isDig (bAt b L (tS b L p)) = true
      · exact (tk_2 c (Bool.eq_false_iff.mpr c1) c2).1
      · rw [(tk_3 c (Bool.eq_false_iff.mpr c1) (Bool.eq_false_iff.mpr c2)).2] at h; cases h
theorem tE_k3 {p : Nat} (h0 : tK b L p ≠ 0) (h1 : tK b L p ≠ 1) (h2 : tK b L p ≠ 2) : tE b L p = tS b L p + 1 := by
  by_cases c : L ≤ tS b L p
  · exact absurd (tk_0 c).2 h0
  · by_cases c1 : isLet (bAt b L (tS b L p)) = true
    · exact absurd (tk_1 c c1).2 h1
    · by_cases c2 : isDig (bAt b L (tS b L p)) = true
      · exact absurd (tk_2 c (Bool.eq_false_iff.mpr c1) c2).2 h2
      · exact (tk_3 c (Bool.eq_false_iff.mpr c1) (Bool.eq_false_iff.mpr c2)).1
theorem sk_step (hΓ : Ok G κ mX10_step (d + 2) Q X) {p : Nat} (h0 : σ tk = some (.inr (8, tkV inp l k s e w))) (hI : II G σ inp v n b) (hL : l = nI L) (hL5 : L ≤ 500) (hb0 : BB b L) (hp : e = nI p) (hpL : p ≤ L) (hq : Q none (hset σ tk (.inr (8, tkV inp (nI L) (tKd b L p) (nI (tS b L p)) (nI (tE b L p)) (nI (tVl b L p)))))) : AW G κ cs ss 0 [lR tk] [] σ := by
  subst hL
  subst hp
  have hSL := tS_le (b := b) hpL
  have h := TT.mk h0
  suffices fin : ∀ (σ2 : Hp) (e2 v2 : Nat), tE b L p = e2 → tVl b L p = v2 → TT σ tk inp (nI L) (kOfC (bAt b L (tS b L p))) (nI (tS b L p)) (nI e2) (nI v2) σ2 → AW G κ cs ss 212 [lR tk] [] σ2 by
    suffices at46 : ∀ σ2 : Hp, TT σ tk inp (nI L) k (nI (tS b L p)) (nI p) w σ2 → AW G κ cs ss 46 [lR tk] [] σ2 by
      suffices loop : ∀ (m i : Nat) (σ2 : Hp), L ≤ i + m → i ≤ L → wh isSep b L m i = (tS b L p) → TT σ tk inp (nI L) k (nI i) (nI p) w σ2 → AW G κ cs ss 8 [lR tk] [] σ2 by
        refine sX10_step_0 hΓ rfl ?_
        refine sX10_step_1 hΓ rfl ?_
        refine sX10_step_2 hΓ h.o rfl ?_
        refine sX10_step_5 hΓ h.o  (Nat.le_of_ble_eq_true rfl) (tt_put h (nI L) k (nI p) (nI p) w rfl (fun σ1 h1 => ?_))
        exact loop 500 p _ (by omega) hpL rfl h1
      intro m
      induction m with
      | zero =>
        intro i σ2 hm hi he h2
        have ei : i = (tS b L p) := he
        have eL : i = L := by omega
        refine sX10_step_8 hΓ rfl ?_
        refine sX10_step_9 hΓ h2.o rfl ?_
        refine sX10_step_12 hΓ rfl ?_
        refine sX10_step_13 hΓ h2.o rfl ?_
        refine sX10_step_16 hΓ (fun c16 => ?_) (fun c16 => absurd (by rw [eL]; exact Int32.le_refl _) c16)
        exact at46 _ (by rw [← ei]; exact h2)
      | succ m ih =>
        intro i σ2 hm hi he h2
        refine sX10_step_8 hΓ rfl ?_
        refine sX10_step_9 hΓ h2.o rfl ?_
        refine sX10_step_12 hΓ rfl ?_
        refine sX10_step_13 hΓ h2.o rfl ?_
        refine sX10_step_16 hΓ (fun c16 => ?_) (fun c16 => ?_)
        · have eL : L ≤ i := nI_lez rfl rfl (by omega) (by omega) c16
          have ei : i = (tS b L p) := (wh_f (n := m + 1) (by rw [bAt_out eL]; rfl)).symm.trans he
          exact at46 _ (by rw [← ei]; exact h2)
        · refine sX10_step_19 hΓ rfl ?_
          refine sX10_step_20 hΓ rfl ?_
          refine sX10_step_21 hΓ h2.o rfl ?_
          refine sX10_step_24 hΓ 0 0 (Nat.le_of_ble_eq_true rfl) h2.o (fun κ_24 hΓ_24 => sk_byteAt hΓ_24 h2.o (h2.ii hI h0) rfl hL5 (i := i) rfl (by omega) ?_)
          show AW G κ _ _ 27 _ _ _
          refine sX10_step_27 hΓ 0 0 (Nat.le_of_ble_eq_true rfl) (fun κ_27 hΓ_27 => sk_isSeparator hΓ_27 ?_)
          show AW G κ _ _ 30 _ _ _
          refine sX10_step_30 hΓ (fun c30 => ?_) (fun c30 => ?_)
          · have hb := bI_0 c30
            have ei : i = (tS b L p) := (wh_f (n := m + 1) hb).symm.trans he
            exact at46 _ (by rw [← ei]; exact h2)
          · have hb := bI_n0 c30
            have hiL := bAt_lt sep_m hb
            refine sX10_step_33 hΓ rfl ?_
            refine sX10_step_34 hΓ ?_
            refine sX10_step_35 hΓ h2.o rfl ?_
            refine sX10_step_38 hΓ ?_
            refine sX10_step_39 hΓ ?_
            refine sX10_step_40 hΓ h2.o  (Nat.le_of_ble_eq_true rfl) (tt_put h2 (nI L) k (nI i + 1) (nI p) w rfl (fun σ21 h21 => ?_))
            refine sX10_step_43 hΓ ?_
            exact ih (i + 1) _ (by omega) (by omega) ((wh_t hb).symm.trans he) (by rw [nI_1] at h21; exact h21)
    intro σ2 h2
    suffices at74 : ∀ σ3 : Hp, TT σ tk inp (nI L) (kOfC (bAt b L (tS b L p))) (nI (tS b L p)) (nI (tS b L p)) 0 σ3 → AW G κ cs ss 74 [lR tk] [] σ3 by
      refine sX10_step_46 hΓ rfl ?_
      refine sX10_step_47 hΓ rfl ?_
      refine sX10_step_48 hΓ h2.o rfl ?_
      refine sX10_step_51 hΓ h2.o  (Nat.le_of_ble_eq_true rfl) (tt_put h2 (nI L) k (nI (tS b L p)) (nI (tS b L p)) w rfl (fun σ41 h41 => ?_))
      refine sX10_step_54 hΓ rfl ?_
      refine sX10_step_55 hΓ ?_
      refine sX10_step_56 hΓ h41.o  (Nat.le_of_ble_eq_true rfl) (tt_put h41 (nI L) k (nI (tS b L p)) (nI (tS b L p)) 0 rfl (fun σ42 h42 => ?_))
      refine sX10_step_59 hΓ rfl ?_
      refine sX10_step_60 hΓ rfl ?_
      refine sX10_step_61 hΓ rfl ?_
      refine sX10_step_62 hΓ h42.o rfl ?_
      refine sX10_step_65 hΓ 0 0 (Nat.le_of_ble_eq_true rfl) h42.o (fun κ_65 hΓ_65 => sk_byteAt hΓ_65 h42.o (h42.ii hI h0) rfl hL5 (i := (tS b L p)) rfl (by omega) ?_)
      show AW G κ _ _ 68 _ _ _
      refine sX10_step_68 hΓ 0 0 (Nat.le_of_ble_eq_true rfl) (fun κ_68 hΓ_68 => sk_kindOf hΓ_68 ?_)
      show AW G κ _ _ 71 _ _ _
      refine sX10_step_71 hΓ h42.o  (Nat.le_of_ble_eq_true rfl) (tt_put h42 (nI L) (kOfC (bAt b L (tS b L p))) (nI (tS b L p)) (nI (tS b L p)) 0 rfl (fun σ43 h43 => ?_))
      exact at74 _ h43
    intro σ3 h3
    have hT0 : tK b L p ≠ 2 → tVl b L p = 0 := fun e => if_neg e
    have at82 : tK b L p = 1 → ∀ σ4 : Hp, TT σ tk inp (nI L) (kOfC (bAt b L (tS b L p))) (nI (tS b L p)) (nI (tS b L p)) 0 σ4 → AW G κ cs ss 82 [lR tk] [] σ4 := by
      intro k1 σ4 h4
      suffices loop : ∀ (m j : Nat) (σ2 : Hp), L ≤ j + m → j ≤ L → (tS b L p) ≤ j → wh isLet b L m j = tE b L p → TT σ tk inp (nI L) (kOfC (bAt b L (tS b L p))) (nI (tS b L p)) (nI j) 0 σ2 → AW G κ cs ss 82 [lR tk] [] σ2 from loop 500 (tS b L p) σ4 (by omega) hSL.2 (Nat.le_refl _) (tE_k1 k1).symm h4
      intro m
      induction m with
      | zero =>
        intro j σ2 hm hj hSj he h2
        have ej : j = tE b L p := he
        have eL : j = L := by omega
        refine sX10_step_82 hΓ rfl ?_
        refine sX10_step_83 hΓ h2.o rfl ?_
        refine sX10_step_86 hΓ rfl ?_
        refine sX10_step_87 hΓ h2.o rfl ?_
        refine sX10_step_90 hΓ (fun c90 => ?_) (fun c90 => absurd (by rw [eL]; exact Int32.le_refl _) c90)
        exact fin _ j 0 ej.symm (hT0 (by rw [k1]; decide)) h2
      | succ m ih =>
        intro j σ2 hm hj hSj he h2
        refine sX10_step_82 hΓ rfl ?_
        refine sX10_step_83 hΓ h2.o rfl ?_
        refine sX10_step_86 hΓ rfl ?_
        refine sX10_step_87 hΓ h2.o rfl ?_
        refine sX10_step_90 hΓ (fun c90 => ?_) (fun c90 => ?_)
        · have eL : L ≤ j := nI_lez rfl rfl (by omega) (by omega) c90
          have ej : j = tE b L p := (wh_f (n := m + 1) (by rw [bAt_out eL]; exact let_m)).symm.trans he
          exact fin _ j 0 ej.symm (hT0 (by rw [k1]; decide)) h2
        · refine sX10_step_93 hΓ rfl ?_
          refine sX10_step_94 hΓ rfl ?_
          refine sX10_step_95 hΓ h2.o rfl ?_
          refine sX10_step_98 hΓ 0 0 (Nat.le_of_ble_eq_true rfl) h2.o (fun κ_98 hΓ_98 => sk_byteAt hΓ_98 h2.o (h2.ii hI h0) rfl hL5 (i := j) rfl (by omega) ?_)
          show AW G κ _ _ 101 _ _ _
          refine sX10_step_101 hΓ 0 0 (Nat.le_of_ble_eq_true rfl) (fun κ_101 hΓ_101 => sk_isLetter hΓ_101 ?_)
          show AW G κ _ _ 104 _ _ _
          refine sX10_step_104 hΓ (fun c104 => ?_) (fun c104 => ?_)
          · have hb := bI_0 c104
            have ej : j = tE b L p := (wh_f (n := m + 1) hb).symm.trans he
            exact fin _ j 0 ej.symm (hT0 (by rw [k1]; decide)) h2
          · have hb := bI_n0 c104
            have hiL := bAt_lt let_m hb
            refine sX10_step_107 hΓ rfl ?_
            refine sX10_step_108 hΓ ?_
            refine sX10_step_109 hΓ h2.o rfl ?_
            refine sX10_step_112 hΓ ?_
            refine sX10_step_113 hΓ ?_
            refine sX10_step_114 hΓ h2.o  (Nat.le_of_ble_eq_true rfl) (tt_put h2 (nI L) (kOfC (bAt b L (tS b L p))) (nI (tS b L p)) (nI j + 1) 0 rfl (fun σ81 h81 => ?_))
            refine sX10_step_117 hΓ ?_
            exact ih (j + 1) _ (by omega) (by omega) (by omega) ((wh_t hb).symm.trans he) (by rw [nI_1] at h81; exact h81)
    have at128 : tK b L p = 2 → ∀ σ4 : Hp, TT σ tk inp (nI L) (kOfC (bAt b L (tS b L p))) (nI (tS b L p)) (nI (tS b L p)) 0 σ4 → AW G κ cs ss 128 [lR tk] [] σ4 := by
      intro k2 σ4 h4
      have hT2 : ∀ j, j = tE b L p → tVl b L p = cVn b (tS b L p) (j - (tS b L p)) := fun j e => by rw [e]; exact if_pos k2
      suffices loop : ∀ (m j : Nat) (σ2 : Hp), L ≤ j + m → j ≤ L → (tS b L p) ≤ j → wh isDig b L m j = tE b L p → TT σ tk inp (nI L) (kOfC (bAt b L (tS b L p))) (nI (tS b L p)) (nI j) (nI (cVn b (tS b L p) (j - (tS b L p)))) σ2 → AW G κ cs ss 128 [lR tk] [] σ2 from loop 500 (tS b L p) σ4 (by omega) hSL.2 (Nat.le_refl _) (tE_k2 k2).symm (by rw [Nat.sub_self]; exact h4)
      intro m
      induction m with
      | zero =>
        intro j σ2 hm hj hSj he h2
        have ej : j = tE b L p := he
        have eL : j = L := by omega
        refine sX10_step_128 hΓ rfl ?_
        refine sX10_step_129 hΓ h2.o rfl ?_
        refine sX10_step_132 hΓ rfl ?_
        refine sX10_step_133 hΓ h2.o rfl ?_
        refine sX10_step_136 hΓ (fun c136 => ?_) (fun c136 => absurd (by rw [eL]; exact Int32.le_refl _) c136)
        exact fin _ j _ ej.symm (hT2 j ej) h2
      | succ m ih =>
        intro j σ2 hm hj hSj he h2
        refine sX10_step_128 hΓ rfl ?_
        refine sX10_step_129 hΓ h2.o rfl ?_
        refine sX10_step_132 hΓ rfl ?_
        refine sX10_step_133 hΓ h2.o rfl ?_
        refine sX10_step_136 hΓ (fun c136 => ?_) (fun c136 => ?_)
        · have eL : L ≤ j := nI_lez rfl rfl (by omega) (by omega) c136
          have ej : j = tE b L p := (wh_f (n := m + 1) (by rw [bAt_out eL]; exact dig_m)).symm.trans he
          exact fin _ j _ ej.symm (hT2 j ej) h2
        · refine sX10_step_139 hΓ rfl ?_
          refine sX10_step_140 hΓ rfl ?_
          refine sX10_step_141 hΓ h2.o rfl ?_
          refine sX10_step_144 hΓ 0 0 (Nat.le_of_ble_eq_true rfl) h2.o (fun κ_144 hΓ_144 => sk_byteAt hΓ_144 h2.o (h2.ii hI h0) rfl hL5 (i := j) rfl (by omega) ?_)
          show AW G κ _ _ 147 _ _ _
          refine sX10_step_147 hΓ 0 0 (Nat.le_of_ble_eq_true rfl) (fun κ_147 hΓ_147 => sk_isDigit hΓ_147 ?_)
          show AW G κ _ _ 150 _ _ _
          refine sX10_step_150 hΓ (fun c150 => ?_) (fun c150 => ?_)
          · have hb := bI_0 c150
            have ej : j = tE b L p := (wh_f (n := m + 1) hb).symm.trans he
            exact fin _ j _ ej.symm (hT2 j ej) h2
          · have hb := bI_n0 c150
            have hiL := bAt_lt dig_m hb
            have hd : isDig (b j) = true := (congrArg isDig (bAt_in hiL)).symm.trans hb
            have hc := cVn_le b (tS b L p) (j - (tS b L p))
            refine sX10_step_153 hΓ rfl ?_
            refine sX10_step_154 hΓ rfl ?_
            refine sX10_step_155 hΓ h2.o rfl ?_
            refine sX10_step_158 hΓ ?_
            refine sX10_step_160 hΓ ?_
            refine sX10_step_161 hΓ rfl ?_
            refine sX10_step_162 hΓ rfl ?_
            refine sX10_step_163 hΓ h2.o rfl ?_
            refine sX10_step_166 hΓ 0 0 (Nat.le_of_ble_eq_true rfl) h2.o (fun κ_166 hΓ_166 => sk_byteAt hΓ_166 h2.o (h2.ii hI h0) rfl hL5 (i := j) rfl (by omega) ?_)
            show AW G κ _ _ 169 _ _ _
            refine sX10_step_169 hΓ ?_
            refine sX10_step_170 hΓ ?_
            refine sX10_step_172 hΓ ?_
            refine sX10_step_173 hΓ ?_
            refine sX10_step_176 hΓ (Nat.le_of_ble_eq_true rfl) ?_
            refine sX10_step_179 hΓ h2.o  (Nat.le_of_ble_eq_true rfl) (tt_put h2 (nI L) (kOfC (bAt b L (tS b L p))) (nI (tS b L p)) (nI j) (nI (cVn b (tS b L p) (j + 1 - (tS b L p)))) (by rw [cVn_st hd hSj hiL]; rfl) (fun σ101 h101 => ?_))
            refine sX10_step_182 hΓ rfl ?_
            refine sX10_step_183 hΓ ?_
            refine sX10_step_184 hΓ h101.o rfl ?_
            refine sX10_step_187 hΓ ?_
            refine sX10_step_188 hΓ ?_
            refine sX10_step_189 hΓ h101.o  (Nat.le_of_ble_eq_true rfl) (tt_put h101 (nI L) (kOfC (bAt b L (tS b L p))) (nI (tS b L p)) (nI j + 1) (nI (cVn b (tS b L p) (j + 1 - (tS b L p)))) rfl (fun σ102 h102 => ?_))
            refine sX10_step_192 hΓ ?_
            exact ih (j + 1) _ (by omega) (by omega) (by omega) ((wh_t hb).symm.trans he) (by rw [nI_1] at h102; exact h102)
    refine sX10_step_74 hΓ rfl ?_
    refine sX10_step_75 hΓ h3.o rfl ?_
    refine sX10_step_78 hΓ ?_
    refine sX10_step_79 hΓ (fun c79 => ?_) (fun c79 => ?_)
    · have n1 : tK b L p ≠ 1 := fun e => c79 ((tKd_lt hb0 (k := 1) (by decide)).mpr e)
      refine sX10_step_120 hΓ rfl ?_
      refine sX10_step_121 hΓ h3.o rfl ?_
      refine sX10_step_124 hΓ ?_
      refine sX10_step_125 hΓ (fun c125 => ?_) (fun c125 => ?_)
      · have n2 : tK b L p ≠ 2 := fun e => c125 ((tKd_lt hb0 (k := 2) (by decide)).mpr e)
        refine sX10_step_195 hΓ rfl ?_
        refine sX10_step_196 hΓ h3.o rfl ?_
        refine sX10_step_199 hΓ (fun c199 => ?_) (fun c199 => ?_)
        · have k0 : tK b L p = 0 := (tKd_lt hb0 (k := 0) (by decide)).mp c199
          first | exact fin _ (tS b L p) 0 (tE_k0 k0) (hT0 n2) h3 | exact fin _ ((tS b L p) + 1) 0 (tE_k3 n0 n1 n2) (hT0 n2) (by rw [nI_1] at h3; exact h3)
        · have n0 : tK b L p ≠ 0 := fun e => c199 ((tKd_lt hb0 (k := 0) (by decide)).mpr e)
          refine sX10_step_202 hΓ rfl ?_
          refine sX10_step_203 hΓ ?_
          refine sX10_step_204 hΓ h3.o rfl ?_
          refine sX10_step_207 hΓ ?_
          refine sX10_step_208 hΓ ?_
          refine sX10_step_209 hΓ h3.o  (Nat.le_of_ble_eq_true rfl) (tt_put h3 (nI L) (kOfC (bAt b L (tS b L p))) (nI (tS b L p)) (nI (tS b L p) + 1) 0 rfl (fun σ61 h61 => ?_))
          first | exact fin _ (tS b L p) 0 (tE_k0 k0) (hT0 n2) h61 | exact fin _ ((tS b L p) + 1) 0 (tE_k3 n0 n1 n2) (hT0 n2) (by rw [nI_1] at h61; exact h61)
      · have k2 : tK b L p = 2 := (tKd_lt hb0 (k := 2) (by decide)).mp c125
        exact at128 k2 _ h3
    · have k1 : tK b L p = 1 := (tKd_lt hb0 (k := 1) (by decide)).mp c79
      exact at82 k1 _ h3
  intro σ2 e2 v2 he hv h2
  subst he
  subst hv
  exact sX10_step_212 hΓ (by rw [h2]; exact hq)
theorem sk_isWord (hΓ : Ok G κ mX10_isWord (d + 4) Q X) {p t : Nat} (h0 : σ tk = some (.inr (8, tkV inp l (tKd b L p) (nI (tS b L p)) (nI (tE b L p)) w))) (hI : II G σ inp v n b) (hL : l = nI L) (hL5 : L ≤ 500) (hb0 : BB b L) (hpL : p ≤ L) (ht : t < 7) (hq : Q (some (.int (bI (tWrd b L p t)))) σ) : AW G κ cs ss 0 [lR tk, lR (gK G t), none] [] σ := by
  have hl8 : (txB t).length < 8 := (by decide : ∀ t : Fin 7, (txB t.1).length < 8) ⟨t, ht⟩
  have hSL := tS_le (b := b) hpL
  have hE := tE_le (b := b) hpL
  suffices loop : ∀ (m i : Nat) (x : Int32), i + m = (txB t).length → x = nI i → tK b L p = 1 → (txB t).length = tE b L p - tS b L p → wEq b (tS b L p) t i = true → AW G κ cs ss 28 [lR tk, lR (gK G t), lI x] [] σ by
    refine sX10_isWord_0 hΓ rfl ?_
    refine sX10_isWord_1 hΓ h0 rfl ?_
    refine sX10_isWord_4 hΓ ?_
    refine sX10_isWord_5 hΓ (fun c5 => ?_) (fun c5 => ?_)
    · have e : tWrd b L p t = false := by rw [tWrd, beq_eq_false_iff_ne.mpr (fun e9 => c5 ((tKd_lt hb0 (k := 1) (by decide)).mpr e9)), Bool.false_and]
      rw [e] at hq
      refine sX10_isWord_24 hΓ ?_
      exact sX10_isWord_25 hΓ (Or.inl rfl) hq
    · have e1 : tK b L p = 1 := (tKd_lt hb0 (k := 1) (by decide)).mp c5
      refine sX10_isWord_8 hΓ rfl ?_
      refine sX10_isWord_9 hΓ 0 0 (Nat.le_of_ble_eq_true rfl) ht (fun κ_9 hΓ_9 => sp_slen hΓ_9 ht ?_)
      show AW G κ _ _ 12 _ _ _
      refine sX10_isWord_12 hΓ rfl ?_
      refine sX10_isWord_13 hΓ h0 rfl ?_
      refine sX10_isWord_16 hΓ rfl ?_
      refine sX10_isWord_17 hΓ h0 rfl ?_
      refine sX10_isWord_20 hΓ ?_
      refine sX10_isWord_21 hΓ (fun c21 => ?_) (fun c21 => ?_)
      · have e2 : (txB t).length = tE b L p - tS b L p := (nI_eq (by omega) (by omega)).mp (c21.trans (pk_sub hE.1))
        refine sX10_isWord_26 hΓ ?_
        refine sX10_isWord_27 hΓ ?_
        exact loop _ 0 _ (Nat.zero_add _) rfl e1 e2 rfl
      · have e : tWrd b L p t = false := by rw [tWrd, show ((txB t).length == tE b L p - tS b L p) = false from beq_eq_false_iff_ne.mpr (fun e9 => c21 (by rw [e9]; exact (pk_sub hE.1).symm)), Bool.false_and, Bool.and_false]
        rw [e] at hq
        refine sX10_isWord_24 hΓ ?_
        exact sX10_isWord_25 hΓ (Or.inl rfl) hq
  intro m
  induction m with
  | zero =>
    intro i x hi hx e1 e2 hw
    have ei : i = (txB t).length := by omega
    rw [ei] at hw
    have e : tWrd b L p t = true := by rw [tWrd, e1, ← e2, hw]; simp
    rw [e] at hq
    refine sX10_isWord_28 hΓ rfl ?_
    refine sX10_isWord_29 hΓ rfl ?_
    refine sX10_isWord_30 hΓ 0 0 (Nat.le_of_ble_eq_true rfl) ht (fun κ_30 hΓ_30 => sp_slen hΓ_30 ht ?_)
    show AW G κ _ _ 33 _ _ _
    refine sX10_isWord_33 hΓ (fun c33 => ?_) (fun c33 => absurd (lp_out hx rfl (by omega) (by omega)) c33)
    refine sX10_isWord_62 hΓ ?_
    exact sX10_isWord_63 hΓ (Or.inr rfl) hq
  | succ m ih =>
    intro i x hi hx e1 e2 hw
    refine sX10_isWord_28 hΓ rfl ?_
    refine sX10_isWord_29 hΓ rfl ?_
    refine sX10_isWord_30 hΓ 0 0 (Nat.le_of_ble_eq_true rfl) ht (fun κ_30 hΓ_30 => sp_slen hΓ_30 ht ?_)
    show AW G κ _ _ 33 _ _ _
    refine sX10_isWord_33 hΓ (fun c33 => absurd c33 (lp_in hx rfl (by omega) (by omega))) (fun c33 => ?_)
    refine sX10_isWord_36 hΓ rfl ?_
    refine sX10_isWord_37 hΓ rfl ?_
    refine sX10_isWord_38 hΓ 0 0 (Nat.le_of_ble_eq_true rfl) ht (fun κ_38 hΓ_38 => sp_schar hΓ_38 ht hx (by omega) ?_)
    show AW G κ _ _ 41 _ _ _
    refine sX10_isWord_41 hΓ rfl ?_
    refine sX10_isWord_42 hΓ rfl ?_
    refine sX10_isWord_43 hΓ h0 rfl ?_
    refine sX10_isWord_46 hΓ rfl ?_
    refine sX10_isWord_47 hΓ ?_
    refine sX10_isWord_48 hΓ 0 0 (Nat.le_of_ble_eq_true rfl) h0 (fun κ_48 hΓ_48 => sk_byteAt hΓ_48 h0 hI hL hL5 (i := tS b L p + i) (by rw [hx, nI_add]) (by omega) ?_)
    show AW G κ _ _ 51 _ _ _
    refine sX10_isWord_51 hΓ (fun c51 => ?_) (fun c51 => ?_)
    · have e9 : wEq b (tS b L p) t (i + 1) = true := by rw [wEq, hw, c51, bAt_in (by omega), beq_self_eq_true]; rfl
      refine sX10_isWord_56 hΓ rfl ?_
      refine sX10_isWord_59 hΓ ?_
      exact ih (i + 1) _ (by omega) (lp_1 hx) e1 e2 e9
    · have e : tWrd b L p t = false := by
        have e9 : wEq b (tS b L p) t (i + 1) = false := by rw [wEq, ← bAt_in (b := b) (L := L) (i := tS b L p + i) (by omega), beq_eq_false_iff_ne.mpr c51, Bool.and_false]
        rw [tWrd, wEq_false e9 (by omega), Bool.and_false, Bool.and_false]
      rw [e] at hq
      refine sX10_isWord_54 hΓ ?_
      exact sX10_isWord_55 hΓ (Or.inl rfl) hq
theorem sk_begin (hΓ : Ok G κ mX10_begin (d + 3) Q X) (h0 : σ tk = some (.inr (8, tkV inp l k s e w))) (hI : II G σ inp v n b) (hL5 : L ≤ 500) {x : Int32} (hx : x = nI L) (hb0 : BB b L) (hq : Q none (hset σ tk (.inr (8, tkV inp (nI L) (tKd b L 0) (nI (tS b L 0)) (nI (tE b L 0)) (nI (tVl b L 0)))))) : AW G κ cs ss 0 [lR tk, lI x] [] σ := by
  subst hx
  have h := TT.mk h0
  refine sX10_begin_0 hΓ rfl ?_
  refine sX10_begin_1 hΓ rfl ?_
  refine sX10_begin_2 hΓ h.o  (Nat.le_of_ble_eq_true rfl) (tt_put h (nI L) k s e w rfl (fun σ1 h1 => ?_))
  refine sX10_begin_5 hΓ rfl ?_
  refine sX10_begin_6 hΓ ?_
  refine sX10_begin_7 hΓ h1.o  (Nat.le_of_ble_eq_true rfl) (tt_put h1 (nI L) k s 0 w rfl (fun σ2 h2 => ?_))
  refine sX10_begin_10 hΓ rfl ?_
  refine sX10_begin_11 hΓ 0 0 (Nat.le_of_ble_eq_true rfl) h2.o (fun κ_11 hΓ_11 => sk_step hΓ_11 h2.o (h2.ii hI h0) rfl hL5 hb0 (p := 0) rfl (Nat.zero_le _) ?_)
  show AW G κ _ _ 14 _ _ _
  exact sX10_begin_14 hΓ (by rw [h2, hset_hset]; exact hq)
end ClassTok
