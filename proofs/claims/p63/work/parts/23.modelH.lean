/-! the reference's reading of texts -/
def bAt (b : Nat → Int32) (L i : Nat) : Int32 := if i < L then b i else -1
def isSep (x : Int32) : Bool := x == 32 || x == 10
def isLet (x : Int32) : Bool := decide (97 ≤ x) && decide (x ≤ 122)
def isDig (x : Int32) : Bool := decide (48 ≤ x) && decide (x ≤ 57)
theorem bAt_in {b : Nat → Int32} {L i : Nat} (h : i < L) : bAt b L i = b i := if_pos h
theorem bAt_out {b : Nat → Int32} {L i : Nat} (h : L ≤ i) : bAt b L i = -1 := if_neg (by omega)
theorem bAt_lt {p : Int32 → Bool} {b : Nat → Int32} {L i : Nat} (hp : p (-1) = false) (h : p (bAt b L i) = true) : i < L := by
  rcases Nat.lt_or_ge i L with c | c
  · exact c
  · rw [bAt_out c, hp] at h; cases h
/-- on while the letter is such a one -/
def wh (p : Int32 → Bool) (b : Nat → Int32) (L : Nat) : Nat → Nat → Nat
  | 0, i => i
  | n + 1, i => if p (bAt b L i) = true then wh p b L n (i + 1) else i
theorem wh_t {p : Int32 → Bool} {b : Nat → Int32} {L n i : Nat} (h : p (bAt b L i) = true) : wh p b L (n + 1) i = wh p b L n (i + 1) := if_pos h
theorem wh_f {p : Int32 → Bool} {b : Nat → Int32} {L n i : Nat} (h : p (bAt b L i) = false) : wh p b L n i = i := by
  cases n with
  | zero => rfl
  | succ n => exact if_neg (by rw [h]; exact Bool.false_ne_true)
theorem wh_ge (p : Int32 → Bool) (b : Nat → Int32) (L : Nat) : ∀ n i : Nat, i ≤ wh p b L n i
  | 0, i => Nat.le_refl i
  | n + 1, i => by
    show i ≤ if _ then _ else _
    split
    · exact Nat.le_trans (Nat.le_succ i) (wh_ge p b L n (i + 1))
    · exact Nat.le_refl i
theorem wh_le {p : Int32 → Bool} (hp : p (-1) = false) (b : Nat → Int32) (L : Nat) : ∀ n i : Nat, i ≤ L → wh p b L n i ≤ L
  | 0, i, h => h
  | n + 1, i, h => by
    show (if p (bAt b L i) = true then wh p b L n (i + 1) else i) ≤ L
    by_cases c : p (bAt b L i) = true
    · rw [if_pos c]; exact wh_le hp b L n (i + 1) (bAt_lt hp c)
    · rw [if_neg c]; exact h
theorem wh_all {p : Int32 → Bool} (b : Nat → Int32) (L : Nat) : ∀ n i j : Nat, i ≤ j → j < wh p b L n i → p (bAt b L j) = true
  | 0, i, j, h1, h2 => absurd h2 (Nat.not_lt.mpr h1)
  | n + 1, i, j, h1, h2 => by
    by_cases c : p (bAt b L i) = true
    · rw [wh_t c] at h2
      rcases Nat.lt_or_ge i j with e | e
      · exact wh_all b L n (i + 1) j e h2
      · rw [show j = i by omega]; exact c
    · rw [wh_f (Bool.eq_false_iff.mpr c)] at h2
      exact absurd h2 (Nat.not_lt.mpr h1)
theorem sep_m : isSep (-1) = false := rfl
theorem let_m : isLet (-1) = false := by decide
theorem dig_m : isDig (-1) = false := by decide
theorem isSep_t {x : Int32} (h : x = 32 ∨ x = 10) : isSep x = true := by rcases h with h | h <;> (rw [h]; rfl)
theorem isSep_f {x : Int32} (h : ¬ x = 32) (h1 : ¬ x = 10) : isSep x = false := by
  unfold isSep
  rw [beq_eq_false_iff_ne.mpr h, beq_eq_false_iff_ne.mpr h1]
  rfl
/-- the token behind place p: where it begins, ends, its kind -/
def tS (b : Nat → Int32) (L p : Nat) : Nat := wh isSep b L 500 p
def tK (b : Nat → Int32) (L p : Nat) : Nat := if L ≤ tS b L p then 0 else if isLet (bAt b L (tS b L p)) = true then 1 else if isDig (bAt b L (tS b L p)) = true then 2 else 3
def tE (b : Nat → Int32) (L p : Nat) : Nat := if L ≤ tS b L p then tS b L p else if isLet (bAt b L (tS b L p)) = true then wh isLet b L 500 (tS b L p) else if isDig (bAt b L (tS b L p)) = true then wh isDig b L 500 (tS b L p) else tS b L p + 1
theorem tS_le {b : Nat → Int32} {L p : Nat} (h : p ≤ L) : p ≤ tS b L p ∧ tS b L p ≤ L := ⟨wh_ge _ _ _ _ _, wh_le sep_m _ _ _ _ h⟩
theorem tE_le {b : Nat → Int32} {L p : Nat} (h : p ≤ L) : tS b L p ≤ tE b L p ∧ tE b L p ≤ L := by
  have h1 := (tS_le (b := b) h).2
  unfold tE
  split
  · exact ⟨Nat.le_refl _, h1⟩
  · split
    · exact ⟨wh_ge _ _ _ _ _, wh_le let_m _ _ _ _ h1⟩
    · split
      · exact ⟨wh_ge _ _ _ _ _, wh_le dig_m _ _ _ _ h1⟩
      · omega
theorem tE_gt {b : Nat → Int32} {L p : Nat} (h : p ≤ L) (hk : tK b L p ≠ 0) : tS b L p < tE b L p := by
  unfold tK at hk
  unfold tE
  by_cases c : L ≤ tS b L p
  · rw [if_pos c] at hk; exact absurd rfl hk
  · rw [if_neg c]
    by_cases c1 : isLet (bAt b L (tS b L p)) = true
    · rw [if_pos c1, wh_t c1]; exact wh_ge _ _ _ _ _
    · rw [if_neg c1]
      by_cases c2 : isDig (bAt b L (tS b L p)) = true
      · rw [if_pos c2, wh_t c2]; exact wh_ge _ _ _ _ _
      · rw [if_neg c2]; exact Nat.lt_succ_self _
theorem tK_le (b : Nat → Int32) (L p : Nat) : tK b L p ≤ 3 := by
  unfold tK
  split
  · decide
  · split
    · decide
    · split <;> decide
theorem tK_dig {b : Nat → Int32} {L p : Nat} (h : p ≤ L) (hk : tK b L p = 2) {j : Nat} (h1 : tS b L p ≤ j) (h2 : j < tE b L p) : isDig (b j) = true := by
  have hL := (tE_le (b := b) h).2
  unfold tK at hk
  unfold tE at h2
  by_cases c : L ≤ tS b L p
  · rw [if_pos c] at hk; cases hk
  · rw [if_neg c] at hk h2
    by_cases c1 : isLet (bAt b L (tS b L p)) = true
    · rw [if_pos c1] at hk; cases hk
    · rw [if_neg c1] at hk h2
      by_cases c2 : isDig (bAt b L (tS b L p)) = true
      · rw [if_pos c2] at h2
        have h3 := wh_all b L _ _ j h1 h2
        rw [bAt_in (bAt_lt dig_m h3)] at h3
        exact h3
      · rw [if_neg c2] at hk; cases hk
theorem tK_in {b : Nat → Int32} {L p : Nat} (hk : tK b L p ≠ 0) : tS b L p < L := by
  unfold tK at hk
  by_cases c : L ≤ tS b L p
  · rw [if_pos c] at hk; exact absurd rfl hk
  · omega
/-- where the reading stands: the token's begin, end, kind; the first error and its place -/
abbrev Pt : Type := Nat × Nat × Nat × Nat × Nat
def pS (P : Pt) : Nat := P.1
def pE (P : Pt) : Nat := P.2.1
def pK (P : Pt) : Nat := P.2.2.1
def pR (P : Pt) : Nat := P.2.2.2.1
def pA (P : Pt) : Nat := P.2.2.2.2
/-- what holds of it all along -/
def pOk (b : Nat → Int32) (L : Nat) (P : Pt) : Prop := pR P ≤ 4 ∧ ∃ p, p ≤ L ∧ pS P = tS b L p ∧ pE P = tE b L p ∧ pK P = tK b L p
theorem pOk.le {b : Nat → Int32} {L : Nat} {P : Pt} (h : pOk b L P) : pS P ≤ pE P ∧ pE P ≤ L := by
  obtain ⟨-, p, hp, h1, h2, -⟩ := h
  rw [h1, h2]
  exact tE_le hp
theorem pOk.gt {b : Nat → Int32} {L : Nat} {P : Pt} (h : pOk b L P) (hk : pK P ≠ 0) : pS P < pE P ∧ pS P < L := by
  obtain ⟨-, p, hp, h1, h2, h3⟩ := h
  rw [h3] at hk
  rw [h1, h2]
  exact ⟨tE_gt hp hk, tK_in hk⟩
def pScan (b : Nat → Int32) (L : Nat) (P : Pt) : Pt := (tS b L (pE P), tE b L (pE P), tK b L (pE P), pR P, pA P)
theorem pCkX : ∃ f : Bool → Nat → Pt → Pt, ∀ (c : Bool) (x : Nat) (P : Pt), f c x P = if c = false ∧ pR P = 0 then (pS P, pE P, pK P, x, pS P) else P := ⟨_, fun _ _ _ => rfl⟩
theorem pGoX : ∃ f : (Nat → Int32) → Nat → Pt → Pt, ∀ (b : Nat → Int32) (L : Nat) (P : Pt), f b L P = if pR P = 0 then pScan b L P else P := ⟨_, fun _ _ _ => rfl⟩
/-- these two are known by their equations alone -/
noncomputable def pCk : Bool → Nat → Pt → Pt := Classical.choose pCkX
noncomputable def pGo : (Nat → Int32) → Nat → Pt → Pt := Classical.choose pGoX
theorem pCk_eq (c : Bool) (x : Nat) (P : Pt) : pCk c x P = if c = false ∧ pR P = 0 then (pS P, pE P, pK P, x, pS P) else P := Classical.choose_spec pCkX c x P
theorem pGo_eq (b : Nat → Int32) (L : Nat) (P : Pt) : pGo b L P = if pR P = 0 then pScan b L P else P := Classical.choose_spec pGoX b L P
def pSym (b : Nat → Int32) (P : Pt) (c : Int32) : Bool := pR P == 0 && (pK P == 3 && b (pS P) == c)
def wEq (b : Nat → Int32) (s t : Nat) : Nat → Bool
  | 0 => true
  | n + 1 => wEq b s t n && ((txB t).getD n 0 == b (s + n))
theorem wEq_false {b : Nat → Int32} {s t n : Nat} (h : wEq b s t n = false) : ∀ {m : Nat}, n ≤ m → wEq b s t m = false
  | 0, hm => by rw [show n = 0 by omega] at h; exact h
  | m + 1, hm => by
    rcases Nat.lt_or_ge m n with c | c
    · rw [show n = m + 1 by omega] at h; exact h
    · show (wEq b s t m && _) = false
      rw [wEq_false h c, Bool.false_and]
def pW0 (P : Pt) (t : Nat) : Bool := pR P == 0 && (pK P == 1 && (txB t).length == pE P - pS P)
def pWrd (b : Nat → Int32) (P : Pt) (t : Nat) : Bool := pW0 P t && wEq b (pS P) t (txB t).length
noncomputable def pExp (b : Nat → Int32) (L : Nat) (c : Int32) (P : Pt) : Pt := pGo b L (pCk (pSym b P c) 1 P)
def dg (x : Int32) : Nat := x.toNatClampNeg - 48
theorem dg_ok {x : Int32} (h : isDig x = true) : ∃ q, x = nI q ∧ 48 ≤ q ∧ q ≤ 57 ∧ dg x = q - 48 := by
  unfold isDig at h
  rw [Bool.and_eq_true] at h
  have h1 := of_decide_eq_true h.1
  have h2 := of_decide_eq_true h.2
  obtain ⟨q, hq, rfl⟩ := nI_of2 (n := 57) (M := 57) (by decide) (fun c => absurd (Int32.le_trans h1 (Int32.le_of_lt c)) (by decide)) h2
  refine ⟨q, rfl, ?_, hq, ?_⟩
  · rcases Nat.lt_or_ge q 48 with c | c
    · exact absurd h1 (nI_ge (b := 48) c (by decide))
    · exact c
  · unfold dg
    rw [nI_clamp (by omega)]
/-- a number's value: cut above 9999999 -/
def rV (b : Nat → Int32) (s : Nat) : Nat → Nat
  | 0 => 0
  | n + 1 => if 9999999 < rV b s n then rV b s n else 10 * rV b s n + dg (b (s + n))
def pVal (b : Nat → Int32) (P : Pt) : Nat := if pK P = 2 then rV b (pS P) (pE P - pS P) else 0
noncomputable def pLook (b : Nat → Int32) (lo hi : Nat) (P : Pt) : Pt := pCk (decide (lo ≤ pVal b P ∧ pVal b P ≤ hi)) 2 (pCk (pK P == 2) 1 P)
noncomputable def pVl (b : Nat → Int32) (lo hi : Nat) (P : Pt) : Nat := if pR (pLook b lo hi P) = 0 then pVal b P else lo
noncomputable def pRead (b : Nat → Int32) (L lo hi : Nat) (P : Pt) : Pt := pGo b L (pLook b lo hi P)
theorem pCk_sek (c : Bool) (x : Nat) (P : Pt) : pS (pCk c x P) = pS P ∧ pE (pCk c x P) = pE P ∧ pK (pCk c x P) = pK P := by
  rw [pCk_eq]
  split <;> exact ⟨rfl, rfl, rfl⟩
theorem pCk_ok {b : Nat → Int32} {L : Nat} {P : Pt} {c : Bool} {x : Nat} (hx : x ≤ 4) (h : pOk b L P) : pOk b L (pCk c x P) := by
  obtain ⟨h1, p, h2, h3⟩ := h
  rw [pCk_eq]
  split
  · exact ⟨hx, p, h2, h3⟩
  · exact ⟨h1, p, h2, h3⟩
theorem pGo_ok {b : Nat → Int32} {L : Nat} {P : Pt} (h : pOk b L P) : pOk b L (pGo b L P) := by
  rw [pGo_eq]
  split
  · exact ⟨h.1, pE P, h.le.2, rfl, rfl, rfl⟩
  · exact h
theorem pExp_ok {b : Nat → Int32} {L : Nat} {P : Pt} {c : Int32} (h : pOk b L P) : pOk b L (pExp b L c P) := pGo_ok (pCk_ok (by decide) h)
theorem pLook_ok {b : Nat → Int32} {L lo hi : Nat} {P : Pt} (h : pOk b L P) : pOk b L (pLook b lo hi P) := pCk_ok (by decide) (pCk_ok (by decide) h)
theorem pRead_ok {b : Nat → Int32} {L lo hi : Nat} {P : Pt} (h : pOk b L P) : pOk b L (pRead b L lo hi P) := pGo_ok (pLook_ok h)
theorem pLook_in {b : Nat → Int32} {lo hi : Nat} {P : Pt} (hh : lo ≤ hi) : lo ≤ pVl b lo hi P ∧ pVl b lo hi P ≤ hi := by
  unfold pVl
  by_cases c : pR (pLook b lo hi P) = 0
  · rw [if_pos c]
    unfold pLook at c
    rw [pCk_eq, pCk_eq] at c
    by_cases c1 : lo ≤ pVal b P ∧ pVal b P ≤ hi
    · exact c1
    · rw [decide_eq_false c1] at c
      by_cases c2 : (pK P == 2) = false ∧ pR P = 0
      · rw [if_pos c2] at c
        exact absurd c (by simp [pR])
      · rw [if_neg c2] at c
        by_cases c3 : pR P = 0
        · rw [if_pos ⟨rfl, c3⟩] at c; cases c
        · rw [if_neg (fun e => c3 e.2)] at c; exact absurd c c3
  · rw [if_neg c]; exact ⟨Nat.le_refl _, hh⟩
section ModelRead
variable {G : Gl} {κ : Kx} {d : Nat} {Q : Option Value → Hp → Prop} {X : String → Hp → Prop} {cs ss : Nat} {σ : Hp} {a : Nat} {r : Nat → Nat} {z : Nat → Int32} {A : Nat → Nat → Int32} {rw : Nat} {ρ η : Nat → Int32}
variable {L : Nat} {P : Pt}
theorem nI_lez {x y : Int32} {i n : Nat} (hx : x = nI i) (hy : y = nI n) (hi : i < 2 ^ 31) (hn : n < 2 ^ 31) (h : x ≤ y) : i ≤ n := by
  subst hx; subst hy; exact (nI_leI hi hn).mp h
theorem nI_ltz {x y : Int32} {i n : Nat} (hx : x = nI i) (hy : y = nI n) (hi : i < 2 ^ 31) (hn : n < 2 ^ 31) (h : x < y) : i < n := by
  subst hx; subst hy; exact (nI_ltI hi hn).mp h
theorem tk_0 {b : Nat → Int32} {L p : Nat} (c : L ≤ tS b L p) : tE b L p = tS b L p ∧ tK b L p = 0 := ⟨if_pos c, if_pos c⟩
theorem tk_1 {b : Nat → Int32} {L p : Nat} (c : ¬ L ≤ tS b L p) (c1 : isLet (bAt b L (tS b L p)) = true) : tE b L p = wh isLet b L 500 (tS b L p) ∧ tK b L p = 1 := ⟨by unfold tE; rw [if_neg c, if_pos c1], by unfold tK; rw [if_neg c, if_pos c1]⟩
theorem tk_2 {b : Nat → Int32} {L p : Nat} (c : ¬ L ≤ tS b L p) (c1 : isLet (bAt b L (tS b L p)) = false) (c2 : isDig (bAt b L (tS b L p)) = true) : tE b L p = wh isDig b L 500 (tS b L p) ∧ tK b L p = 2 := by
  have c1 := Bool.eq_false_iff.mp c1
  exact ⟨by unfold tE; rw [if_neg c, if_neg c1, if_pos c2], by unfold tK; rw [if_neg c, if_neg c1, if_pos c2]⟩
theorem tk_3 {b : Nat → Int32} {L p : Nat} (c : ¬ L ≤ tS b L p) (c1 : isLet (bAt b L (tS b L p)) = false) (c2 : isDig (bAt b L (tS b L p)) = false) : tE b L p = tS b L p + 1 ∧ tK b L p = 3 := by
  have c1 := Bool.eq_false_iff.mp c1
  have c2 := Bool.eq_false_iff.mp c2
  exact ⟨by unfold tE; rw [if_neg c, if_neg c1, if_neg c2], by unfold tK; rw [if_neg c, if_neg c1, if_neg c2]⟩
theorem pCk_id {c : Bool} {x : Nat} {P : Pt} (h : c = true ∨ ¬ pR P = 0) : pCk c x P = P := (pCk_eq c x P).trans <| if_neg (fun e => h.elim (fun h => by rw [h] at e; cases e.1) (fun h => h e.2))
theorem pCk_new {c : Bool} {x : Nat} {P : Pt} (h : c = false) (h0 : pR P = 0) : pCk c x P = (pS P, pE P, pK P, x, pS P) := (pCk_eq c x P).trans <| if_pos ⟨h, h0⟩
end ModelRead
