/-! the reference's reading of texts -/
def bAt (b : Nat → Int32) (L i : Nat) : Int32 := if i < L then b i else -1
def isSep (x : Int32) : Bool := x == 32 || x == 10
def isLet (x : Int32) : Bool := decide (97 ≤ x) && decide (x ≤ 122)
def isDig (x : Int32) : Bool := decide (48 ≤ x) && decide (x ≤ 57)
theorem bAt_in {b : Nat → Int32} {L i : Nat} (h : i < L) : bAt b L i = b i := if_pos h
theorem bAt_out {b : Nat → Int32} {L i : Nat} (h : L ≤ i) : bAt b L i = -1 := if_neg (by omega)
theorem bAt_lt {p : Int32 → Bool} {b : Nat → Int32} {L i : Nat} (hp : p (-1) = false) (h : p (bAt b L i) = true) : i < L := by
  rcases Nat.lt_or_ge i L with c | c
  · exact c
  · rw [bAt_out c, hp] at h; cases h
/-- on while the letter is such a one -/
def wh (p : Int32 → Bool) (b : Nat → Int32) (L : Nat) : Nat → Nat → Nat
  | 0, i => i
  | n + 1, i => if p (bAt b L i) = true then wh p b L n (i + 1) else i
theorem wh_t {p : Int32 → Bool} {b : Nat → Int32} {L n i : Nat} (h : p (bAt b L i) = true) : wh p b L (n + 1) i = wh p b L n (i + 1) := if_pos h
theorem wh_f {p : Int32 → Bool} {b : Nat → Int32} {L n i : Nat} (h : p (bAt b L i) = false) : wh p b L n i = i := by
  cases n with
  | zero => rfl
  | succ n => exact if_neg (by rw [h]; exact Bool.false_ne_true)
theorem wh_ge (p : Int32 → Bool) (b : Nat → Int32) (L : Nat) : ∀ n i : Nat, i ≤ wh p b L n i
  | 0, i => Nat.le_refl i
  | n + 1, i => by
    show i ≤ if _ then _ else _
    split
    · exact Nat.le_trans (Nat.le_succ i) (wh_ge p b L n (i + 1))
    · exact Nat.le_refl i
theorem wh_le {p : Int32 → Bool} (hp : p (-1) = false) (b : Nat → Int32) (L : Nat) : ∀ n i : Nat, i ≤ L → wh p b L n i ≤ L
  | 0, i, h => h
  | n + 1, i, h => by
    show (if p (bAt b L i) = true then wh p b L n (i + 1) else i) ≤ L
    by_cases c : p (bAt b L i) = true
    · rw [if_pos c]; exact wh_le hp b L n (i + 1) (bAt_lt hp c)
    · rw [if_neg c]; exact h
theorem wh_all {p : Int32 → Bool} (b : Nat → Int32) (L : Nat) : ∀ n i j : Nat, i ≤ j → j < wh p b L n i → p (bAt b L j) = true
  | 0, i, j, h1, h2 => absurd h2 (Nat.not_lt.mpr h1)
  | n + 1, i, j, h1, h2 => by
    by_cases c : p (bAt b L i) = true
    · rw [wh_t c] at h2
      rcases Nat.lt_or_ge i j with e | e
      · exact wh_all b L n (i + 1) j e h2
      · rw [show j = i by omega]; exact c
    · rw [wh_f (Bool.eq_false_iff.mpr c)] at h2
      exact absurd h2 (Nat.not_lt.mpr h1)
theorem sep_m : isSep (-1) = false := rfl
theorem let_m : isLet (-1) = false := by decide
theorem dig_m : isDig (-1) = false := by decide
theorem isSep_t {x : Int32} (h : x = 32 ∨ x = 10) : isSep x = true := by rcases h with h | h <;> (rw [h]; rfl)
theorem isSep_f {x : Int32} (h : ¬ x = 32) (h1 : ¬ x = 10) : isSep x = false := by
  unfold isSep
  rw [beq_eq_false_iff_ne.mpr h, beq_eq_false_iff_ne.mpr h1]
  rfl
theorem btw_lo {x lo hi : Int32} (h : x < lo) : (decide (lo ≤ x) && decide (x ≤ hi)) = false := rIn_lo h
/-- the token behind place p: where it begins, ends, its kind -/
def tS (b : Nat → Int32) (L p : Nat) : Nat := wh isSep b L 500 p
def tK (b : Nat → Int32) (L p : Nat) : Nat := if L ≤ tS b L p then 0 else if isLet (bAt b L (tS b L p)) = true then 1 else if isDig (bAt b L (tS b L p)) = true then 2 else 3
def tE (b : Nat → Int32) (L p : Nat) : Nat := if L ≤ tS b L p then tS b L p else if isLet (bAt b L (tS b L p)) = true then wh isLet b L 500 (tS b L p) else if isDig (bAt b L (tS b L p)) = true then wh isDig b L 500 (tS b L p) else tS b L p + 1
theorem tS_le {b : Nat → Int32} {L p : Nat} (h : p ≤ L) : p ≤ tS b L p ∧ tS b L p ≤ L := ⟨wh_ge _ _ _ _ _, wh_le sep_m _ _ _ _ h⟩
theorem tE_le {b : Nat → Int32} {L p : Nat} (h : p ≤ L) : tS b L p ≤ tE b L p ∧ tE b L p ≤ L := by
  have h1 := (tS_le (b := b) h).2
  unfold tE
  split
  · exact ⟨Nat.le_refl _, h1⟩
  · split
    · exact ⟨wh_ge _ _ _ _ _, wh_le let_m _ _ _ _ h1⟩
    · split
      · exact ⟨wh_ge _ _ _ _ _, wh_le dig_m _ _ _ _ h1⟩
      · omega
theorem tE_gt {b : Nat → Int32} {L p : Nat} (h : p ≤ L) (hk : tK b L p ≠ 0) : tS b L p < tE b L p := by
  unfold tK at hk
  unfold tE
  by_cases c : L ≤ tS b L p
  · rw [if_pos c] at hk; exact absurd rfl hk
  · rw [if_neg c]
    by_cases c1 : isLet (bAt b L (tS b L p)) = true
    · rw [if_pos c1, wh_t c1]; exact wh_ge _ _ _ _ _
    · rw [if_neg c1]
      by_cases c2 : isDig (bAt b L (tS b L p)) = true
      · rw [if_pos c2, wh_t c2]; exact wh_ge _ _ _ _ _
      · rw [if_neg c2]; exact Nat.lt_succ_self _
theorem tK_le (b : Nat → Int32) (L p : Nat) : tK b L p ≤ 3 := by
  unfold tK
  split
  · decide
  · split
    · decide
    · split <;> decide
theorem tK_dig {b : Nat → Int32} {L p : Nat} (h : p ≤ L) (hk : tK b L p = 2) {j : Nat} (h1 : tS b L p ≤ j) (h2 : j < tE b L p) : isDig (b j) = true := by
  have hL := (tE_le (b := b) h).2
  unfold tK at hk
  unfold tE at h2
  by_cases c : L ≤ tS b L p
  · rw [if_pos c] at hk; cases hk
  · rw [if_neg c] at hk h2
    by_cases c1 : isLet (bAt b L (tS b L p)) = true
    · rw [if_pos c1] at hk; cases hk
    · rw [if_neg c1] at hk h2
      by_cases c2 : isDig (bAt b L (tS b L p)) = true
      · rw [if_pos c2] at h2
        have h3 := wh_all b L _ _ j h1 h2
        rw [bAt_in (bAt_lt dig_m h3)] at h3
        exact h3
      · rw [if_neg c2] at hk; cases hk
theorem tK_in {b : Nat → Int32} {L p : Nat} (hk : tK b L p ≠ 0) : tS b L p < L := by
  unfold tK at hk
  by_cases c : L ≤ tS b L p
  · rw [if_pos c] at hk; exact absurd rfl hk
  · omega
/-- where the reading stands: the token's begin, end, kind; the first error and its place -/
abbrev Pt : Type := Nat × Nat × Nat × Nat × Nat
def pS (P : Pt) : Nat := P.1
def pE (P : Pt) : Nat := P.2.1
def pK (P : Pt) : Nat := P.2.2.1
def pR (P : Pt) : Nat := P.2.2.2.1
def pA (P : Pt) : Nat := P.2.2.2.2
/-- what holds of it all along -/
def pOk (b : Nat → Int32) (L : Nat) (P : Pt) : Prop := pR P ≤ 4 ∧ ∃ p, p ≤ L ∧ pS P = tS b L p ∧ pE P = tE b L p ∧ pK P = tK b L p
theorem pOk.le {b : Nat → Int32} {L : Nat} {P : Pt} (h : pOk b L P) : pS P ≤ pE P ∧ pE P ≤ L := by
  obtain ⟨-, p, hp, h1, h2, -⟩ := h
  rw [h1, h2]
  exact tE_le hp
theorem pOk.k3 {b : Nat → Int32} {L : Nat} {P : Pt} (h : pOk b L P) : pK P ≤ 3 := by
  obtain ⟨-, p, hp, -, -, h3⟩ := h
  rw [h3]
  exact tK_le b L p
theorem pOk.gt {b : Nat → Int32} {L : Nat} {P : Pt} (h : pOk b L P) (hk : pK P ≠ 0) : pS P < pE P ∧ pS P < L := by
  obtain ⟨-, p, hp, h1, h2, h3⟩ := h
  rw [h3] at hk
  rw [h1, h2]
  exact ⟨tE_gt hp hk, tK_in hk⟩
theorem pOk.dig {b : Nat → Int32} {L : Nat} {P : Pt} (h : pOk b L P) (hk : pK P = 2) {j : Nat} (h1 : pS P ≤ j) (h2 : j < pE P) : isDig (b j) = true := by
  obtain ⟨-, p, hp, e1, e2, e3⟩ := h
  rw [e1] at h1
  rw [e2] at h2
  exact tK_dig hp (by rw [← e3]; exact hk) h1 h2
def pScan (b : Nat → Int32) (L : Nat) (P : Pt) : Pt := (tS b L (pE P), tE b L (pE P), tK b L (pE P), pR P, pA P)
theorem pCkX : ∃ f : Bool → Nat → Pt → Pt, ∀ (c : Bool) (x : Nat) (P : Pt), f c x P = if c = false ∧ pR P = 0 then (pS P, pE P, pK P, x, pS P) else P := ⟨_, fun _ _ _ => rfl⟩
theorem pGoX : ∃ f : (Nat → Int32) → Nat → Pt → Pt, ∀ (b : Nat → Int32) (L : Nat) (P : Pt), f b L P = if pR P = 0 then pScan b L P else P := ⟨_, fun _ _ _ => rfl⟩
/-- these two are known by their equations alone -/
noncomputable def pCk : Bool → Nat → Pt → Pt := Classical.choose pCkX
noncomputable def pGo : (Nat → Int32) → Nat → Pt → Pt := Classical.choose pGoX
theorem pCk_eq (c : Bool) (x : Nat) (P : Pt) : pCk c x P = if c = false ∧ pR P = 0 then (pS P, pE P, pK P, x, pS P) else P := Classical.choose_spec pCkX c x P
theorem pGo_eq (b : Nat → Int32) (L : Nat) (P : Pt) : pGo b L P = if pR P = 0 then pScan b L P else P := Classical.choose_spec pGoX b L P
def pSym (b : Nat → Int32) (P : Pt) (c : Int32) : Bool := pR P == 0 && (pK P == 3 && b (pS P) == c)
def wEq (b : Nat → Int32) (s t : Nat) : Nat → Bool
  | 0 => true
  | n + 1 => wEq b s t n && ((txB t).getD n 0 == b (s + n))
theorem wEq_false {b : Nat → Int32} {s t n : Nat} (h : wEq b s t n = false) : ∀ {m : Nat}, n ≤ m → wEq b s t m = false
  | 0, hm => by rw [show n = 0 by omega] at h; exact h
  | m + 1, hm => by
    rcases Nat.lt_or_ge m n with c | c
    · rw [show n = m + 1 by omega] at h; exact h
    · show (wEq b s t m && _) = false
      rw [wEq_false h c, Bool.false_and]
def pW0 (P : Pt) (t : Nat) : Bool := pR P == 0 && (pK P == 1 && (txB t).length == pE P - pS P)
def pWrd (b : Nat → Int32) (P : Pt) (t : Nat) : Bool := pW0 P t && wEq b (pS P) t (txB t).length
noncomputable def pExp (b : Nat → Int32) (L : Nat) (c : Int32) (P : Pt) : Pt := pGo b L (pCk (pSym b P c) 1 P)
def dg (x : Int32) : Nat := x.toNatClampNeg - 48
theorem dg_ok {x : Int32} (h : isDig x = true) : ∃ q, x = nI q ∧ 48 ≤ q ∧ q ≤ 57 ∧ dg x = q - 48 := by
  unfold isDig at h
  rw [Bool.and_eq_true] at h
  have h1 := of_decide_eq_true h.1
  have h2 := of_decide_eq_true h.2
  obtain ⟨q, hq, rfl⟩ := nI_of2 (n := 57) (M := 57) (by decide) (fun c => absurd (Int32.le_trans h1 (Int32.le_of_lt c)) (by decide)) h2
  refine ⟨q, rfl, ?_, hq, ?_⟩
  · rcases Nat.lt_or_ge q 48 with c | c
    · exact absurd h1 (nI_ge (b := 48) c (by decide))
    · exact c
  · unfold dg
    rw [nI_clamp (by omega)]
/-- a number's value: cut above 9999999 -/
def rV (b : Nat → Int32) (s : Nat) : Nat → Nat
  | 0 => 0
  | n + 1 => if 9999999 < rV b s n then rV b s n else 10 * rV b s n + dg (b (s + n))
theorem rV_le {b : Nat → Int32} {s : Nat} : ∀ {n : Nat}, (∀ j, j < n → isDig (b (s + j)) = true) → rV b s n ≤ 100000000
  | 0, _ => Nat.zero_le _
  | n + 1, h => by
    have h1 := rV_le (b := b) (s := s) (n := n) (fun j hj => h j (by omega))
    obtain ⟨q, -, -, h2, h3⟩ := dg_ok (h n (Nat.lt_succ_self n))
    by_cases c : 9999999 < rV b s n
    · rw [show rV b s (n + 1) = rV b s n from if_pos c]; exact h1
    · rw [show rV b s (n + 1) = 10 * rV b s n + dg (b (s + n)) from if_neg c]; omega
def pVal (b : Nat → Int32) (P : Pt) : Nat := if pK P = 2 then rV b (pS P) (pE P - pS P) else 0
theorem pVal_le {b : Nat → Int32} {L : Nat} {P : Pt} (h : pOk b L P) : pVal b P ≤ 100000000 := by
  unfold pVal
  by_cases c : pK P = 2
  · rw [if_pos c]
    exact rV_le (fun j hj => h.dig c (by omega) (by omega))
  · rw [if_neg c]; decide
noncomputable def pLook (b : Nat → Int32) (lo hi : Nat) (P : Pt) : Pt := pCk (decide (lo ≤ pVal b P ∧ pVal b P ≤ hi)) 2 (pCk (pK P == 2) 1 P)
noncomputable def pVl (b : Nat → Int32) (lo hi : Nat) (P : Pt) : Nat := if pR (pLook b lo hi P) = 0 then pVal b P else lo
noncomputable def pRead (b : Nat → Int32) (L lo hi : Nat) (P : Pt) : Pt := pGo b L (pLook b lo hi P)
theorem pCk_sek (c : Bool) (x : Nat) (P : Pt) : pS (pCk c x P) = pS P ∧ pE (pCk c x P) = pE P ∧ pK (pCk c x P) = pK P := by
  rw [pCk_eq]
  split <;> exact ⟨rfl, rfl, rfl⟩
theorem pCk_ok {b : Nat → Int32} {L : Nat} {P : Pt} {c : Bool} {x : Nat} (hx : x ≤ 4) (h : pOk b L P) : pOk b L (pCk c x P) := by
  obtain ⟨h1, p, h2, h3⟩ := h
  rw [pCk_eq]
  split
  · exact ⟨hx, p, h2, h3⟩
  · exact ⟨h1, p, h2, h3⟩
theorem pGo_ok {b : Nat → Int32} {L : Nat} {P : Pt} (h : pOk b L P) : pOk b L (pGo b L P) := by
  rw [pGo_eq]
  split
  · exact ⟨h.1, pE P, h.le.2, rfl, rfl, rfl⟩
  · exact h
theorem pExp_ok {b : Nat → Int32} {L : Nat} {P : Pt} {c : Int32} (h : pOk b L P) : pOk b L (pExp b L c P) := pGo_ok (pCk_ok (by decide) h)
theorem pLook_ok {b : Nat → Int32} {L lo hi : Nat} {P : Pt} (h : pOk b L P) : pOk b L (pLook b lo hi P) := pCk_ok (by decide) (pCk_ok (by decide) h)
theorem pRead_ok {b : Nat → Int32} {L lo hi : Nat} {P : Pt} (h : pOk b L P) : pOk b L (pRead b L lo hi P) := pGo_ok (pLook_ok h)
theorem pLook_in {b : Nat → Int32} {lo hi : Nat} {P : Pt} (hh : lo ≤ hi) : lo ≤ pVl b lo hi P ∧ pVl b lo hi P ≤ hi := by
  unfold pVl
  by_cases c : pR (pLook b lo hi P) = 0
  · rw [if_pos c]
    unfold pLook at c
    rw [pCk_eq, pCk_eq] at c
    by_cases c1 : lo ≤ pVal b P ∧ pVal b P ≤ hi
    · exact c1
    · rw [decide_eq_false c1] at c
      by_cases c2 : (pK P == 2) = false ∧ pR P = 0
      · rw [if_pos c2] at c
        exact absurd c (by simp [pR])
      · rw [if_neg c2] at c
        by_cases c3 : pR P = 0
        · rw [if_pos ⟨rfl, c3⟩] at c; cases c
        · rw [if_neg (fun e => c3 e.2)] at c; exact absurd c c3
  · rw [if_neg c]; exact ⟨Nat.le_refl _, hh⟩
/-- the reading, within the object's numbers -/
def zP (z : Nat → Int32) (P : Pt) : Nat → Int32 := upd (upd (upd (upd (upd z 18 (nI (pE P))) 19 (nI (pS P))) 20 (nI (pK P))) 21 (nI (pR P))) 22 (nI (pA P))
theorem zP_ne {z : Nat → Int32} {P : Pt} {j : Nat} (h : j < 18 ∨ 22 < j) : zP z P j = z j := by
  unfold zP
  rw [upd_ne (by omega), upd_ne (by omega), upd_ne (by omega), upd_ne (by omega), upd_ne (by omega)]
theorem zP_scan (z : Nat → Int32) (P : Pt) (e s k : Nat) : upd (upd (upd (zP z P) 18 (nI e)) 19 (nI s)) 20 (nI k) = zP z (s, e, k, pR P, pA P) := by
  funext j
  by_cases h1 : j = 18
  · subst h1; rfl
  by_cases h2 : j = 19
  · subst h2; rfl
  by_cases h3 : j = 20
  · subst h3; rfl
  by_cases h4 : j = 21
  · subst h4; rfl
  by_cases h5 : j = 22
  · subst h5; rfl
  rw [upd_ne h3, upd_ne h2, upd_ne h1, zP_ne (by omega), zP_ne (by omega)]
theorem zP_ck (z : Nat → Int32) (P : Pt) (x y : Nat) : upd (upd (zP z P) 21 (nI x)) 22 (nI y) = zP z (pS P, pE P, pK P, x, y) := by
  funext j
  by_cases h1 : j = 18
  · subst h1; rfl
  by_cases h2 : j = 19
  · subst h2; rfl
  by_cases h3 : j = 20
  · subst h3; rfl
  by_cases h4 : j = 21
  · subst h4; rfl
  by_cases h5 : j = 22
  · subst h5; rfl
  rw [upd_ne h5, upd_ne h4, zP_ne (by omega), zP_ne (by omega)]
theorem MV.buf {G : Gl} {σ : Hp} {a : Nat} {r : Nat → Nat} {z : Nat → Int32} {A : Nat → Nat → Int32} {rw : Nat} {ρ η : Nat → Int32} (h : MV G σ a r z A rw ρ η) : σ (r 15) = some (eI G 500 (A 15)) := h.arr 15 (Or.inr (Or.inr (Or.inl rfl))) (by rcases h.2.1 with e | e <;> (rw [e]; decide)) (by decide)
section ModelRead
variable {G : Gl} {κ : Kx} {d : Nat} {Q : Option Value → Hp → Prop} {X : String → Hp → Prop} {cs ss : Nat} {σ : Hp} {a : Nat} {r : Nat → Nat} {z : Nat → Int32} {A : Nat → Nat → Int32} {rw : Nat} {ρ η : Nat → Int32}
variable {L : Nat} {P : Pt}
theorem nI_lez {x y : Int32} {i n : Nat} (hx : x = nI i) (hy : y = nI n) (hi : i < 2 ^ 31) (hn : n < 2 ^ 31) (h : x ≤ y) : i ≤ n := by
  subst hx; subst hy; exact (nI_leI hi hn).mp h
theorem nI_ltz {x y : Int32} {i n : Nat} (hx : x = nI i) (hy : y = nI n) (hi : i < 2 ^ 31) (hn : n < 2 ^ 31) (h : x < y) : i < n := by
  subst hx; subst hy; exact (nI_ltI hi hn).mp h
theorem nI_z {n : Nat} (hn : n < 2 ^ 31) (h : nI n = 0) : n = 0 := (nI_eq hn (by decide)).mp (h.trans nI_0.symm)
theorem sp_byteAt (hΓ : Ok G κ mX13_byteAt (d + 0) Q X) (h : MV G σ a r z A rw ρ η) (hL : z 17 = nI L) (hL5 : L ≤ 500) {x : Int32} {i : Nat} (hx : x = nI i) (hi : i < 2 ^ 30) (hq : Q (some (.int (bAt (A 15) L i))) σ) : AW G κ cs ss 0 [lR a, lI x] [] σ := by
  refine sX13_byteAt_0 hΓ rfl ?_
  refine sX13_byteAt_1 hΓ rfl ?_
  refine sX13_byteAt_2 hΓ h.o rfl ?_
  refine sX13_byteAt_5 hΓ (fun c5 => ?_) (fun c5 => ?_)
  · rw [bAt_out (nI_lez hL hx (by omega) (by omega) c5)] at hq
    refine sX13_byteAt_17 hΓ ?_
    exact sX13_byteAt_18 hΓ hq
  · have hiL : i < L := Nat.lt_of_not_le (fun c => c5 (by rw [hL, hx]; exact nI_le c (by omega)))
    rw [bAt_in hiL] at hq
    refine sX13_byteAt_8 hΓ rfl ?_
    refine sX13_byteAt_9 hΓ h.o rfl ?_
    refine sX13_byteAt_12 hΓ rfl ?_
    refine sX13_byteAt_13 hΓ h.buf hx (by omega) (by decide) ?_
    refine sX13_byteAt_14 hΓ ?_
    exact sX13_byteAt_18 hΓ hq
theorem sp_isLetter (hΓ : Ok G κ mX13_isLetter (d + 1) Q X) (h : MV G σ a r z A rw ρ η) (hL : z 17 = nI L) (hL5 : L ≤ 500) {x : Int32} {i : Nat} (hx : x = nI i) (hi : i < 2 ^ 30) (hq : Q (some (.int (bI (isLet (bAt (A 15) L i))))) σ) : AW G κ cs ss 0 [lR a, lI x] [] σ := by
  refine sX13_isLetter_0 hΓ rfl ?_
  refine sX13_isLetter_1 hΓ rfl ?_
  refine sX13_isLetter_2 hΓ 0 0 (Nat.le_of_ble_eq_true rfl) h.o (fun κ_2 hΓ_2 => sp_byteAt hΓ_2 h hL hL5 hx hi ?_)
  show AW G κ _ _ 5 _ _ _
  refine sX13_isLetter_5 hΓ ?_
  refine sX13_isLetter_7 hΓ (fun c7 => ?_) (fun c7 => ?_)
  · rw [show isLet (bAt (A 15) L i) = false from rIn_lo c7] at hq
    refine sX13_isLetter_24 hΓ ?_
    exact sX13_isLetter_25 hΓ (by first | exact Or.inl rfl | exact Or.inr rfl) hq
  · refine sX13_isLetter_10 hΓ rfl ?_
    refine sX13_isLetter_11 hΓ rfl ?_
    refine sX13_isLetter_12 hΓ 0 0 (Nat.le_of_ble_eq_true rfl) h.o (fun κ_12 hΓ_12 => sp_byteAt hΓ_12 h hL hL5 hx hi ?_)
    show AW G κ _ _ 15 _ _ _
    refine sX13_isLetter_15 hΓ ?_
    refine sX13_isLetter_17 hΓ (fun c17 => ?_) (fun c17 => ?_)
    · rw [show isLet (bAt (A 15) L i) = false from rIn_hi c17] at hq
      refine sX13_isLetter_24 hΓ ?_
      exact sX13_isLetter_25 hΓ (by first | exact Or.inl rfl | exact Or.inr rfl) hq
    · rw [show isLet (bAt (A 15) L i) = true from rIn_in c7 c17] at hq
      refine sX13_isLetter_20 hΓ ?_
      refine sX13_isLetter_21 hΓ ?_
      exact sX13_isLetter_25 hΓ (by first | exact Or.inl rfl | exact Or.inr rfl) hq
theorem sp_isDigit (hΓ : Ok G κ mX13_isDigit (d + 1) Q X) (h : MV G σ a r z A rw ρ η) (hL : z 17 = nI L) (hL5 : L ≤ 500) {x : Int32} {i : Nat} (hx : x = nI i) (hi : i < 2 ^ 30) (hq : Q (some (.int (bI (isDig (bAt (A 15) L i))))) σ) : AW G κ cs ss 0 [lR a, lI x] [] σ := by
  refine sX13_isDigit_0 hΓ rfl ?_
  refine sX13_isDigit_1 hΓ rfl ?_
  refine sX13_isDigit_2 hΓ 0 0 (Nat.le_of_ble_eq_true rfl) h.o (fun κ_2 hΓ_2 => sp_byteAt hΓ_2 h hL hL5 hx hi ?_)
  show AW G κ _ _ 5 _ _ _
  refine sX13_isDigit_5 hΓ ?_
  refine sX13_isDigit_7 hΓ (fun c7 => ?_) (fun c7 => ?_)
  · rw [show isDig (bAt (A 15) L i) = false from rIn_lo c7] at hq
    refine sX13_isDigit_24 hΓ ?_
    exact sX13_isDigit_25 hΓ (by first | exact Or.inl rfl | exact Or.inr rfl) hq
  · refine sX13_isDigit_10 hΓ rfl ?_
    refine sX13_isDigit_11 hΓ rfl ?_
    refine sX13_isDigit_12 hΓ 0 0 (Nat.le_of_ble_eq_true rfl) h.o (fun κ_12 hΓ_12 => sp_byteAt hΓ_12 h hL hL5 hx hi ?_)
    show AW G κ _ _ 15 _ _ _
    refine sX13_isDigit_15 hΓ ?_
    refine sX13_isDigit_17 hΓ (fun c17 => ?_) (fun c17 => ?_)
    · rw [show isDig (bAt (A 15) L i) = false from rIn_hi c17] at hq
      refine sX13_isDigit_24 hΓ ?_
      exact sX13_isDigit_25 hΓ (by first | exact Or.inl rfl | exact Or.inr rfl) hq
    · rw [show isDig (bAt (A 15) L i) = true from rIn_in c7 c17] at hq
      refine sX13_isDigit_20 hΓ ?_
      refine sX13_isDigit_21 hΓ ?_
      exact sX13_isDigit_25 hΓ (by first | exact Or.inl rfl | exact Or.inr rfl) hq
theorem tk_0 {b : Nat → Int32} {L p : Nat} (c : L ≤ tS b L p) : tE b L p = tS b L p ∧ tK b L p = 0 := ⟨if_pos c, if_pos c⟩
theorem tk_1 {b : Nat → Int32} {L p : Nat} (c : ¬ L ≤ tS b L p) (c1 : isLet (bAt b L (tS b L p)) = true) : tE b L p = wh isLet b L 500 (tS b L p) ∧ tK b L p = 1 := ⟨by unfold tE; rw [if_neg c, if_pos c1], by unfold tK; rw [if_neg c, if_pos c1]⟩
theorem tk_2 {b : Nat → Int32} {L p : Nat} (c : ¬ L ≤ tS b L p) (c1 : isLet (bAt b L (tS b L p)) = false) (c2 : isDig (bAt b L (tS b L p)) = true) : tE b L p = wh isDig b L 500 (tS b L p) ∧ tK b L p = 2 := by
  have c1 := Bool.eq_false_iff.mp c1
  exact ⟨by unfold tE; rw [if_neg c, if_neg c1, if_pos c2], by unfold tK; rw [if_neg c, if_neg c1, if_pos c2]⟩
theorem tk_3 {b : Nat → Int32} {L p : Nat} (c : ¬ L ≤ tS b L p) (c1 : isLet (bAt b L (tS b L p)) = false) (c2 : isDig (bAt b L (tS b L p)) = false) : tE b L p = tS b L p + 1 ∧ tK b L p = 3 := by
  have c1 := Bool.eq_false_iff.mp c1
  have c2 := Bool.eq_false_iff.mp c2
  exact ⟨by unfold tE; rw [if_neg c, if_neg c1, if_neg c2], by unfold tK; rw [if_neg c, if_neg c1, if_neg c2]⟩
theorem sp_scan (hΓ : Ok G κ mX13_scan (d + 2) Q X) (h : MV G σ a r z A rw ρ η) (hL : z 17 = nI L) (hL5 : L ≤ 500) {p : Nat} (hp : z 18 = nI p) (hpL : p ≤ L) (hq : ∀ σ1 : Hp, MV G σ1 a r (upd (upd (upd z 18 (nI (tE (A 15) L p))) 19 (nI (tS (A 15) L p))) 20 (nI (tK (A 15) L p))) A rw ρ η → MF a r σ σ1 → Q none σ1) : AW G κ cs ss 0 [lR a] [] σ := by
  have hSL := tS_le (b := A 15) hpL
  suffices fin : ∀ (σ2 : Hp) (e k : Nat), tE (A 15) L p = e → tK (A 15) L p = k → MV G σ2 a r (upd (upd (upd z 18 (nI e)) 19 (nI (tS (A 15) L p))) 20 (nI k)) A rw ρ η → MF a r σ σ2 → AW G κ cs ss 167 [lR a] [] σ2 by
    suffices at39 : ∀ σ2 : Hp, MV G σ2 a r (upd z 18 (nI (tS (A 15) L p))) A rw ρ η → MF a r σ σ2 → AW G κ cs ss 39 [lR a] [] σ2 by
      suffices loop : ∀ (n i : Nat) (σ2 : Hp), L ≤ i + n → i ≤ L → wh isSep (A 15) L n i = (tS (A 15) L p) → MV G σ2 a r (upd z 18 (nI i)) A rw ρ η → MF a r σ σ2 → AW G κ cs ss 0 [lR a] [] σ2 from loop 500 p σ (by omega) hpL rfl (by rw [upd_id z 18 _ hp]; exact h) MF.rf
      intro n
      induction n with
      | zero =>
        intro i σ2 hn hi e h2 f2
        have hb : bAt (A 15) L i = -1 := bAt_out (by omega)
        have ei : i = (tS (A 15) L p) := e
        refine sX13_scan_0 hΓ rfl ?_
        refine sX13_scan_1 hΓ rfl ?_
        refine sX13_scan_2 hΓ h2.o rfl ?_
        refine sX13_scan_5 hΓ 0 0 (Nat.le_of_ble_eq_true rfl) h2.o (fun κ_5 hΓ_5 => sp_byteAt hΓ_5 h2 hL hL5 (i := i) rfl (by omega) ?_)
        show AW G κ _ _ 8 _ _ _
        refine sX13_scan_8 hΓ ?_
        refine sX13_scan_10 hΓ (fun c10 => absurd (hb.symm.trans c10) (by decide)) (fun c10 => ?_)
        refine sX13_scan_13 hΓ rfl ?_
        refine sX13_scan_14 hΓ rfl ?_
        refine sX13_scan_15 hΓ h2.o rfl ?_
        refine sX13_scan_18 hΓ 0 0 (Nat.le_of_ble_eq_true rfl) h2.o (fun κ_18 hΓ_18 => sp_byteAt hΓ_18 h2 hL hL5 (i := i) rfl (by omega) ?_)
        show AW G κ _ _ 21 _ _ _
        refine sX13_scan_21 hΓ ?_
        refine sX13_scan_23 hΓ (fun c23 => ?_) (fun c23 => absurd (hb.symm.trans c23) (by decide))
        exact at39 _ (by rw [← ei]; exact h2) f2
      | succ n ih =>
        intro i σ2 hn hi e h2 f2
        refine sX13_scan_0 hΓ rfl ?_
        refine sX13_scan_1 hΓ rfl ?_
        refine sX13_scan_2 hΓ h2.o rfl ?_
        refine sX13_scan_5 hΓ 0 0 (Nat.le_of_ble_eq_true rfl) h2.o (fun κ_5 hΓ_5 => sp_byteAt hΓ_5 h2 hL hL5 (i := i) rfl (by omega) ?_)
        show AW G κ _ _ 8 _ _ _
        refine sX13_scan_8 hΓ ?_
        refine sX13_scan_10 hΓ (fun c10 => ?_) (fun c10 => ?_)
        · have hb := isSep_t (Or.inl c10)
          have hiL := bAt_lt sep_m hb
          refine sX13_scan_26 hΓ rfl ?_
          refine sX13_scan_27 hΓ ?_
          refine sX13_scan_28 hΓ h2.o rfl ?_
          refine sX13_scan_31 hΓ ?_
          refine sX13_scan_32 hΓ ?_
          refine sX13_scan_33 hΓ h2.o  (Nat.le_of_ble_eq_true rfl) (mv_z h2 (upd z 18 (nI i + 1)) rfl (fun σ21 h21 f21 => ?_))
          refine sX13_scan_36 hΓ ?_
          exact ih (i + 1) _ (by omega) (by omega) ((wh_t hb).symm.trans e) (by rw [nI_1] at h21; exact h21) (f2.tr f21)
        · refine sX13_scan_13 hΓ rfl ?_
          refine sX13_scan_14 hΓ rfl ?_
          refine sX13_scan_15 hΓ h2.o rfl ?_
          refine sX13_scan_18 hΓ 0 0 (Nat.le_of_ble_eq_true rfl) h2.o (fun κ_18 hΓ_18 => sp_byteAt hΓ_18 h2 hL hL5 (i := i) rfl (by omega) ?_)
          show AW G κ _ _ 21 _ _ _
          refine sX13_scan_21 hΓ ?_
          refine sX13_scan_23 hΓ (fun c23 => ?_) (fun c23 => ?_)
          · have ei := (wh_f (b := A 15) (L := L) (n := n + 1) (isSep_f c10 c23)).symm.trans e
            exact at39 _ (by rw [← ei]; exact h2) f2
          · have hb := isSep_t (Or.inr c23)
            have hiL := bAt_lt sep_m hb
            refine sX13_scan_26 hΓ rfl ?_
            refine sX13_scan_27 hΓ ?_
            refine sX13_scan_28 hΓ h2.o rfl ?_
            refine sX13_scan_31 hΓ ?_
            refine sX13_scan_32 hΓ ?_
            refine sX13_scan_33 hΓ h2.o  (Nat.le_of_ble_eq_true rfl) (mv_z h2 (upd z 18 (nI i + 1)) rfl (fun σ22 h22 f22 => ?_))
            refine sX13_scan_36 hΓ ?_
            exact ih (i + 1) _ (by omega) (by omega) ((wh_t hb).symm.trans e) (by rw [nI_1] at h22; exact h22) (f2.tr f22)
    intro σ2 h2 f2
    refine sX13_scan_39 hΓ rfl ?_
    refine sX13_scan_40 hΓ rfl ?_
    refine sX13_scan_41 hΓ h2.o rfl ?_
    refine sX13_scan_44 hΓ h2.o  (Nat.le_of_ble_eq_true rfl) (mv_z h2 (upd (upd z 18 (nI (tS (A 15) L p))) 19 (nI (tS (A 15) L p))) rfl (fun σ41 h41 f41 => ?_))
    refine sX13_scan_47 hΓ rfl ?_
    refine sX13_scan_48 hΓ h41.o rfl ?_
    refine sX13_scan_51 hΓ rfl ?_
    refine sX13_scan_52 hΓ h41.o rfl ?_
    refine sX13_scan_55 hΓ (fun c55 => ?_) (fun c55 => ?_)
    · have c0 : ¬ L ≤ (tS (A 15) L p) := Nat.not_le.mpr (nI_ltz rfl hL (by omega) (by omega) (show nI (tS (A 15) L p) < z 17 from c55))
      refine sX13_scan_66 hΓ rfl ?_
      refine sX13_scan_67 hΓ rfl ?_
      refine sX13_scan_68 hΓ h41.o rfl ?_
      refine sX13_scan_71 hΓ 0 0 (Nat.le_of_ble_eq_true rfl) h41.o (fun κ_71 hΓ_71 => sp_isLetter hΓ_71 h41 hL hL5 (i := (tS (A 15) L p)) rfl (by omega) ?_)
      show AW G κ _ _ 74 _ _ _
      refine sX13_scan_74 hΓ (fun c74 => ?_) (fun c74 => ?_)
      · have k1 := bI_0 c74
        refine sX13_scan_109 hΓ rfl ?_
        refine sX13_scan_110 hΓ rfl ?_
        refine sX13_scan_111 hΓ h41.o rfl ?_
        refine sX13_scan_114 hΓ 0 0 (Nat.le_of_ble_eq_true rfl) h41.o (fun κ_114 hΓ_114 => sp_isDigit hΓ_114 h41 hL hL5 (i := (tS (A 15) L p)) rfl (by omega) ?_)
        show AW G κ _ _ 117 _ _ _
        refine sX13_scan_117 hΓ (fun c117 => ?_) (fun c117 => ?_)
        · have k2 := bI_0 c117
          refine sX13_scan_152 hΓ rfl ?_
          refine sX13_scan_153 hΓ ?_
          refine sX13_scan_154 hΓ h41.o rfl ?_
          refine sX13_scan_157 hΓ ?_
          refine sX13_scan_158 hΓ ?_
          refine sX13_scan_159 hΓ h41.o  (Nat.le_of_ble_eq_true rfl) (mv_z h41 (upd (upd z 18 (nI (tS (A 15) L p) + 1)) 19 (nI (tS (A 15) L p))) rfl (fun σ42 h42 f42 => ?_))
          refine sX13_scan_162 hΓ rfl ?_
          refine sX13_scan_163 hΓ ?_
          refine sX13_scan_164 hΓ h42.o  (Nat.le_of_ble_eq_true rfl) (mv_z h42 (upd (upd (upd z 18 (nI (tS (A 15) L p) + 1)) 19 (nI (tS (A 15) L p))) 20 (nI 3)) rfl (fun σ43 h43 f43 => ?_))
          first | exact fin _ _ _ (tk_0 c0).1 (tk_0 c0).2 h43 (((f2.tr f41).tr f42).tr f43) | exact fin _ _ _ (tk_3 c0 k1 k2).1 (tk_3 c0 k1 k2).2 (by rw [nI_1] at h43; exact h43) (((f2.tr f41).tr f42).tr f43)
        · have k2 := bI_n0 c117
          suffices loopD : ∀ (n i : Nat) (σ2 : Hp), L ≤ i + n → i ≤ L → wh isDig (A 15) L n i = wh isDig (A 15) L 500 (tS (A 15) L p) → MV G σ2 a r (upd (upd z 18 (nI i)) 19 (nI (tS (A 15) L p))) A rw ρ η → MF a r σ σ2 → AW G κ cs ss 120 [lR a] [] σ2 from loopD 500 _ _ (by omega) (by omega) rfl h41 (f2.tr f41)
          intro n
          induction n with
          | zero =>
            intro i σ2 hn hi e h2 f2
            have hb : isDig (bAt (A 15) L i) = false := by rw [bAt_out (by omega)]; exact dig_m
            refine sX13_scan_120 hΓ rfl ?_
            refine sX13_scan_121 hΓ rfl ?_
            refine sX13_scan_122 hΓ h2.o rfl ?_
            refine sX13_scan_125 hΓ 0 0 (Nat.le_of_ble_eq_true rfl) h2.o (fun κ_125 hΓ_125 => sp_isDigit hΓ_125 h2 hL hL5 (i := i) rfl (by omega) ?_)
            show AW G κ _ _ 128 _ _ _
            refine sX13_scan_128 hΓ (fun c128 => ?_) (fun c128 => absurd (by rw [hb]; rfl) c128)
            refine sX13_scan_144 hΓ rfl ?_
            refine sX13_scan_145 hΓ ?_
            refine sX13_scan_146 hΓ h2.o  (Nat.le_of_ble_eq_true rfl) (mv_z h2 (upd (upd (upd z 18 (nI i)) 19 (nI (tS (A 15) L p))) 20 (nI 2)) rfl (fun σ1 h1 f1 => ?_))
            refine sX13_scan_149 hΓ ?_
            exact fin _ _ _ (by rw [(tk_2 c0 k1 k2).1, ← e, wh_f hb]) (tk_2 c0 k1 k2).2 h1 (f2.tr f1)
          | succ n ih =>
            intro i σ2 hn hi e h2 f2
            refine sX13_scan_120 hΓ rfl ?_
            refine sX13_scan_121 hΓ rfl ?_
            refine sX13_scan_122 hΓ h2.o rfl ?_
            refine sX13_scan_125 hΓ 0 0 (Nat.le_of_ble_eq_true rfl) h2.o (fun κ_125 hΓ_125 => sp_isDigit hΓ_125 h2 hL hL5 (i := i) rfl (by omega) ?_)
            show AW G κ _ _ 128 _ _ _
            refine sX13_scan_128 hΓ (fun c128 => ?_) (fun c128 => ?_)
            · have hb := bI_0 c128
              refine sX13_scan_144 hΓ rfl ?_
              refine sX13_scan_145 hΓ ?_
              refine sX13_scan_146 hΓ h2.o  (Nat.le_of_ble_eq_true rfl) (mv_z h2 (upd (upd (upd z 18 (nI i)) 19 (nI (tS (A 15) L p))) 20 (nI 2)) rfl (fun σ81 h81 f81 => ?_))
              refine sX13_scan_149 hΓ ?_
              exact fin _ _ _ (by rw [(tk_2 c0 k1 k2).1, ← e, wh_f hb]) (tk_2 c0 k1 k2).2 h81 (f2.tr f81)
            · have hb := bI_n0 c128
              have hiL := bAt_lt dig_m hb
              refine sX13_scan_131 hΓ rfl ?_
              refine sX13_scan_132 hΓ ?_
              refine sX13_scan_133 hΓ h2.o rfl ?_
              refine sX13_scan_136 hΓ ?_
              refine sX13_scan_137 hΓ ?_
              refine sX13_scan_138 hΓ h2.o  (Nat.le_of_ble_eq_true rfl) (mv_z h2 (upd (upd z 18 (nI i + 1)) 19 (nI (tS (A 15) L p))) rfl (fun σ82 h82 f82 => ?_))
              refine sX13_scan_141 hΓ ?_
              exact ih (i + 1) _ (by omega) (by omega) ((wh_t hb).symm.trans e) (by rw [nI_1] at h82; exact h82) (f2.tr f82)
      · have k1 := bI_n0 c74
        suffices loopL : ∀ (n i : Nat) (σ2 : Hp), L ≤ i + n → i ≤ L → wh isLet (A 15) L n i = wh isLet (A 15) L 500 (tS (A 15) L p) → MV G σ2 a r (upd (upd z 18 (nI i)) 19 (nI (tS (A 15) L p))) A rw ρ η → MF a r σ σ2 → AW G κ cs ss 77 [lR a] [] σ2 from loopL 500 _ _ (by omega) (by omega) rfl h41 (f2.tr f41)
        intro n
        induction n with
        | zero =>
          intro i σ2 hn hi e h2 f2
          have hb : isLet (bAt (A 15) L i) = false := by rw [bAt_out (by omega)]; exact let_m
          refine sX13_scan_77 hΓ rfl ?_
          refine sX13_scan_78 hΓ rfl ?_
          refine sX13_scan_79 hΓ h2.o rfl ?_
          refine sX13_scan_82 hΓ 0 0 (Nat.le_of_ble_eq_true rfl) h2.o (fun κ_82 hΓ_82 => sp_isLetter hΓ_82 h2 hL hL5 (i := i) rfl (by omega) ?_)
          show AW G κ _ _ 85 _ _ _
          refine sX13_scan_85 hΓ (fun c85 => ?_) (fun c85 => absurd (by rw [hb]; rfl) c85)
          refine sX13_scan_101 hΓ rfl ?_
          refine sX13_scan_102 hΓ ?_
          refine sX13_scan_103 hΓ h2.o  (Nat.le_of_ble_eq_true rfl) (mv_z h2 (upd (upd (upd z 18 (nI i)) 19 (nI (tS (A 15) L p))) 20 (nI 1)) rfl (fun σ1 h1 f1 => ?_))
          refine sX13_scan_106 hΓ ?_
          exact fin _ _ _ (by rw [(tk_1 c0 k1).1, ← e, wh_f hb]) (tk_1 c0 k1).2 h1 (f2.tr f1)
        | succ n ih =>
          intro i σ2 hn hi e h2 f2
          refine sX13_scan_77 hΓ rfl ?_
          refine sX13_scan_78 hΓ rfl ?_
          refine sX13_scan_79 hΓ h2.o rfl ?_
          refine sX13_scan_82 hΓ 0 0 (Nat.le_of_ble_eq_true rfl) h2.o (fun κ_82 hΓ_82 => sp_isLetter hΓ_82 h2 hL hL5 (i := i) rfl (by omega) ?_)
          show AW G κ _ _ 85 _ _ _
          refine sX13_scan_85 hΓ (fun c85 => ?_) (fun c85 => ?_)
          · have hb := bI_0 c85
            refine sX13_scan_101 hΓ rfl ?_
            refine sX13_scan_102 hΓ ?_
            refine sX13_scan_103 hΓ h2.o  (Nat.le_of_ble_eq_true rfl) (mv_z h2 (upd (upd (upd z 18 (nI i)) 19 (nI (tS (A 15) L p))) 20 (nI 1)) rfl (fun σ61 h61 f61 => ?_))
            refine sX13_scan_106 hΓ ?_
            exact fin _ _ _ (by rw [(tk_1 c0 k1).1, ← e, wh_f hb]) (tk_1 c0 k1).2 h61 (f2.tr f61)
          · have hb := bI_n0 c85
            have hiL := bAt_lt let_m hb
            refine sX13_scan_88 hΓ rfl ?_
            refine sX13_scan_89 hΓ ?_
            refine sX13_scan_90 hΓ h2.o rfl ?_
            refine sX13_scan_93 hΓ ?_
            refine sX13_scan_94 hΓ ?_
            refine sX13_scan_95 hΓ h2.o  (Nat.le_of_ble_eq_true rfl) (mv_z h2 (upd (upd z 18 (nI i + 1)) 19 (nI (tS (A 15) L p))) rfl (fun σ62 h62 f62 => ?_))
            refine sX13_scan_98 hΓ ?_
            exact ih (i + 1) _ (by omega) (by omega) ((wh_t hb).symm.trans e) (by rw [nI_1] at h62; exact h62) (f2.tr f62)
    · have c0 : L ≤ (tS (A 15) L p) := Nat.le_of_not_lt (fun c => c55 (by show nI (tS (A 15) L p) < z 17; rw [hL]; exact nI_lt c (by omega)))
      refine sX13_scan_58 hΓ rfl ?_
      refine sX13_scan_59 hΓ ?_
      refine sX13_scan_60 hΓ h41.o  (Nat.le_of_ble_eq_true rfl) (mv_z h41 (upd (upd (upd z 18 (nI (tS (A 15) L p))) 19 (nI (tS (A 15) L p))) 20 (nI 0)) rfl (fun σ44 h44 f44 => ?_))
      refine sX13_scan_63 hΓ ?_
      first | exact fin _ _ _ (tk_0 c0).1 (tk_0 c0).2 h44 ((f2.tr f41).tr f44) | exact fin _ _ _ (tk_3 c0 k1 k2).1 (tk_3 c0 k1 k2).2 (by rw [nI_1] at h44; exact h44) ((f2.tr f41).tr f44)
  intro σ2 e k he hk h2 f2
  subst he
  subst hk
  exact sX13_scan_167 hΓ (hq _ h2 f2)
theorem sp_scanP (hΓ : Ok G κ mX13_scan (d + 2) Q X) (h : MV G σ a r (zP z P) A rw ρ η) (hL : z 17 = nI L) (hL5 : L ≤ 500) (hP : pOk (A 15) L P) (hq : ∀ σ1 : Hp, MV G σ1 a r (zP z (pScan (A 15) L P)) A rw ρ η → MF a r σ σ1 → Q none σ1) : AW G κ cs ss 0 [lR a] [] σ :=
  sp_scan hΓ h ((zP_ne (by decide)).trans hL) hL5 (p := pE P) rfl hP.le.2 (fun σ1 h1 f1 => hq σ1 (by rw [zP_scan] at h1; exact h1) f1)
theorem pCk_id {c : Bool} {x : Nat} {P : Pt} (h : c = true ∨ ¬ pR P = 0) : pCk c x P = P := (pCk_eq c x P).trans <| if_neg (fun e => h.elim (fun h => by rw [h] at e; cases e.1) (fun h => h e.2))
theorem pCk_new {c : Bool} {x : Nat} {P : Pt} (h : c = false) (h0 : pR P = 0) : pCk c x P = (pS P, pE P, pK P, x, pS P) := (pCk_eq c x P).trans <| if_pos ⟨h, h0⟩
theorem nR_0 {z : Nat → Int32} {P : Pt} (h : pR P ≤ 4) (c : zP z P 21 = 0) : pR P = 0 := nI_z (by omega) (show nI (pR P) = 0 from c)
theorem nR_n {z : Nat → Int32} {P : Pt} (c : ¬ zP z P 21 = 0) : ¬ pR P = 0 := fun e => c (show nI (pR P) = 0 by rw [e]; rfl)
theorem nK_is {z : Nat → Int32} {P : Pt} {k : Nat} (h : pK P ≤ 3) (hk : k ≤ 3) (c : zP z P 20 = nI k) : pK P = k := (nI_eq (by omega) (by omega)).mp (show nI (pK P) = nI k from c)
theorem nK_ne {z : Nat → Int32} {P : Pt} {k : Nat} (c : ¬ zP z P 20 = nI k) : ¬ pK P = k := fun e => c (show nI (pK P) = nI k by rw [e])
theorem sp_check (hΓ : Ok G κ mX13_check (d + 0) Q X) (h : MV G σ a r (zP z P) A rw ρ η) {c : Bool} {x y : Int32} {n : Nat} (hx : x = bI c) (hy : y = nI n) (hR : pR P ≤ 4) (hq : ∀ σ1 : Hp, MV G σ1 a r (zP z (pCk c n P)) A rw ρ η → MF a r σ σ1 → Q none σ1) : AW G κ cs ss 0 [lR a, lI x, lI y] [] σ := by
  refine sX13_check_0 hΓ rfl ?_
  refine sX13_check_1 hΓ (fun c1 => ?_) (fun c1 => ?_)
  · have e := bI_n0 (hx ▸ c1)
    rw [pCk_id (Or.inl e)] at hq
    exact sX13_check_24 hΓ (by first | exact hq _ h MF.rf | exact hq _ (by rw [zP_ck] at h; exact h) MF.rf)
  · have e := bI_0 (hx.symm.trans c1)
    refine sX13_check_4 hΓ rfl ?_
    refine sX13_check_5 hΓ h.o rfl ?_
    refine sX13_check_8 hΓ (fun c8 => ?_) (fun c8 => ?_)
    · rw [pCk_id (Or.inr (nR_n c8))] at hq
      exact sX13_check_24 hΓ (by first | exact hq _ h MF.rf | exact hq _ (by rw [zP_ck] at h; exact h) MF.rf)
    · rw [pCk_new e (nR_0 hR c8)] at hq
      subst hy
      refine sX13_check_11 hΓ rfl ?_
      refine sX13_check_12 hΓ rfl ?_
      refine sX13_check_13 hΓ h.o  (Nat.le_of_ble_eq_true rfl) (mv_z h (upd (zP z P) 21 (nI n)) rfl (fun σ1 h1 f1 => ?_))
      refine sX13_check_16 hΓ rfl ?_
      refine sX13_check_17 hΓ rfl ?_
      refine sX13_check_18 hΓ h1.o rfl ?_
      refine sX13_check_21 hΓ h1.o  (Nat.le_of_ble_eq_true rfl) (mv_z h1 (upd (upd (zP z P) 21 (nI n)) 22 (nI (pS P))) rfl (fun σ2 h2 f2 => ?_))
      exact sX13_check_24 hΓ (by first | exact hq _ h2 (f1.tr f2) | exact hq _ (by rw [zP_ck] at h2; exact h2) (f1.tr f2))
theorem sp_goOn (hΓ : Ok G κ mX13_goOn (d + 3) Q X) (h : MV G σ a r (zP z P) A rw ρ η) (hL : z 17 = nI L) (hL5 : L ≤ 500) (hP : pOk (A 15) L P) (hq : ∀ σ1 : Hp, MV G σ1 a r (zP z (pGo (A 15) L P)) A rw ρ η → MF a r σ σ1 → Q none σ1) : AW G κ cs ss 0 [lR a] [] σ := by
  refine sX13_goOn_0 hΓ rfl ?_
  refine sX13_goOn_1 hΓ h.o rfl ?_
  refine sX13_goOn_4 hΓ (fun c4 => ?_) (fun c4 => ?_)
  · rw [show pGo (A 15) L P = P from (pGo_eq _ _ _).trans (if_neg (nR_n c4))] at hq
    exact sX13_goOn_11 hΓ (hq _ h MF.rf)
  · rw [show pGo (A 15) L P = pScan (A 15) L P from (pGo_eq _ _ _).trans (if_pos (nR_0 hP.1 c4))] at hq
    refine sX13_goOn_7 hΓ rfl ?_
    refine sX13_goOn_8 hΓ 0 0 (Nat.le_of_ble_eq_true rfl) h.o (fun κ_8 hΓ_8 => sp_scanP hΓ_8 h hL hL5 hP (fun σ1 h1 f1 => ?_))
    show AW G κ _ _ 11 _ _ _
    exact sX13_goOn_11 hΓ (hq _ h1 f1)
theorem sp_isSymbol (hΓ : Ok G κ mX13_isSymbol (d + 0) Q X) (h : MV G σ a r (zP z P) A rw ρ η) (hL : z 17 = nI L) (hL5 : L ≤ 500) (hP : pOk (A 15) L P) {c : Int32} (hq : Q (some (.int (bI (pSym (A 15) P c)))) σ) : AW G κ cs ss 0 [lR a, lI c] [] σ := by
  refine sX13_isSymbol_0 hΓ rfl ?_
  refine sX13_isSymbol_1 hΓ h.o rfl ?_
  refine sX13_isSymbol_4 hΓ (fun c4 => ?_) (fun c4 => ?_)
  · have e : pSym (A 15) P c = false := by rw [pSym, beq_eq_false_iff_ne.mpr (nR_n c4), Bool.false_and]
    rw [e] at hq
    refine sX13_isSymbol_32 hΓ ?_
    exact sX13_isSymbol_33 hΓ (by first | exact Or.inl rfl | exact Or.inr rfl) hq
  · have e0 := nR_0 hP.1 c4
    refine sX13_isSymbol_7 hΓ rfl ?_
    refine sX13_isSymbol_8 hΓ h.o rfl ?_
    refine sX13_isSymbol_11 hΓ ?_
    refine sX13_isSymbol_12 hΓ (fun c12 => ?_) (fun c12 => ?_)
    · have e : pSym (A 15) P c = false := by rw [pSym, beq_eq_false_iff_ne.mpr (nK_ne (k := 3) c12), Bool.false_and, Bool.and_false]
      rw [e] at hq
      refine sX13_isSymbol_32 hΓ ?_
      exact sX13_isSymbol_33 hΓ (by first | exact Or.inl rfl | exact Or.inr rfl) hq
    · have e3 := nK_is (k := 3) hP.k3 (by decide) c12
      have hg := hP.gt (by rw [e3]; decide)
      refine sX13_isSymbol_15 hΓ rfl ?_
      refine sX13_isSymbol_16 hΓ h.o rfl ?_
      refine sX13_isSymbol_19 hΓ rfl ?_
      refine sX13_isSymbol_20 hΓ h.o rfl ?_
      refine sX13_isSymbol_23 hΓ h.buf (j := pS P) rfl (by omega) (by decide) ?_
      refine sX13_isSymbol_24 hΓ rfl ?_
      refine sX13_isSymbol_25 hΓ (fun c25 => ?_) (fun c25 => ?_)
      · have e : pSym (A 15) P c = false := by rw [pSym, beq_eq_false_iff_ne.mpr c25, Bool.and_false, Bool.and_false]
        rw [e] at hq
        refine sX13_isSymbol_32 hΓ ?_
        exact sX13_isSymbol_33 hΓ (by first | exact Or.inl rfl | exact Or.inr rfl) hq
      · have e : pSym (A 15) P c = true := by rw [pSym, e0, e3, c25]; simp
        rw [e] at hq
        refine sX13_isSymbol_28 hΓ ?_
        refine sX13_isSymbol_29 hΓ ?_
        exact sX13_isSymbol_33 hΓ (by first | exact Or.inl rfl | exact Or.inr rfl) hq
theorem sp_isWord (hΓ : Ok G κ mX13_isWord (d + 4) Q X) (h : MV G σ a r (zP z P) A rw ρ η) (hL : z 17 = nI L) (hL5 : L ≤ 500) (hP : pOk (A 15) L P) {t : Nat} (ht : t < 11) (hq : Q (some (.int (bI (pWrd (A 15) P t)))) σ) : AW G κ cs ss 0 [lR a, lR (gK G t), none, none] [] σ := by
  have hl8 : (txB t).length < 8 := (by decide : ∀ t : Fin 11, (txB t.1).length < 8) ⟨t, ht⟩
  have hle := hP.le
  suffices loop : ∀ (m i : Nat) (w : Bool) (x : Int32), i + m = (txB t).length → x = nI i → w = (pW0 P t && wEq (A 15) (pS P) t i) → AW G κ cs ss 39 [lR a, lR (gK G t), lI (bI w), lI x] [] σ by
    have fin : ∀ w : Bool, w = pW0 P t → AW G κ cs ss 37 [lR a, lR (gK G t), lI (bI w), none] [] σ := by
      intro w hw
      refine sX13_isWord_37 hΓ ?_
      refine sX13_isWord_38 hΓ ?_
      exact loop _ 0 w _ (Nat.zero_add _) rfl (by rw [hw]; exact (Bool.and_true _).symm)
    refine sX13_isWord_0 hΓ rfl ?_
    refine sX13_isWord_1 hΓ h.o rfl ?_
    refine sX13_isWord_4 hΓ (fun c4 => ?_) (fun c4 => ?_)
    · have e : pW0 P t = false := by rw [pW0, beq_eq_false_iff_ne.mpr (nR_n c4), Bool.false_and]
      refine sX13_isWord_35 hΓ ?_
      refine sX13_isWord_36 hΓ ?_
      exact fin _ e.symm
    · have e0 := nR_0 hP.1 c4
      refine sX13_isWord_7 hΓ rfl ?_
      refine sX13_isWord_8 hΓ h.o rfl ?_
      refine sX13_isWord_11 hΓ ?_
      refine sX13_isWord_12 hΓ (fun c12 => ?_) (fun c12 => ?_)
      · have e : pW0 P t = false := by rw [pW0, beq_eq_false_iff_ne.mpr (nK_ne (k := 1) c12), Bool.false_and, Bool.and_false]
        refine sX13_isWord_35 hΓ ?_
        refine sX13_isWord_36 hΓ ?_
        exact fin _ e.symm
      · have e1 := nK_is (k := 1) hP.k3 (by decide) c12
        refine sX13_isWord_15 hΓ rfl ?_
        refine sX13_isWord_16 hΓ 0 0 (Nat.le_of_ble_eq_true rfl) ht (fun κ_16 hΓ_16 => sp_slen hΓ_16 ht ?_)
        show AW G κ _ _ 19 _ _ _
        refine sX13_isWord_19 hΓ rfl ?_
        refine sX13_isWord_20 hΓ h.o rfl ?_
        refine sX13_isWord_23 hΓ rfl ?_
        refine sX13_isWord_24 hΓ h.o rfl ?_
        refine sX13_isWord_27 hΓ ?_
        refine sX13_isWord_28 hΓ (fun c28 => ?_) (fun c28 => ?_)
        · have e : pW0 P t = false := by rw [pW0, show ((txB t).length == pE P - pS P) = false from beq_eq_false_iff_ne.mpr (fun e => c28 (by show nI (txB t).length = nI (pE P) - nI (pS P); rw [e]; exact (pk_sub hle.1).symm)), Bool.and_false, Bool.and_false]
          refine sX13_isWord_35 hΓ ?_
          refine sX13_isWord_36 hΓ ?_
          exact fin _ e.symm
        · have e2 : (txB t).length = pE P - pS P := (nI_eq (by omega) (by omega)).mp (c28.trans (pk_sub hle.1))
          have e : pW0 P t = true := by rw [pW0, e0, e1, e2]; simp
          refine sX13_isWord_31 hΓ ?_
          refine sX13_isWord_32 hΓ ?_
          refine sX13_isWord_36 hΓ ?_
          exact fin _ e.symm
  intro m
  induction m with
  | zero =>
    intro i w x hi hx hw
    have ei : i = (txB t).length := by omega
    rw [ei] at hw
    rw [show pWrd (A 15) P t = w from hw.symm] at hq
    refine sX13_isWord_39 hΓ rfl ?_
    refine sX13_isWord_40 hΓ (fun c40 => ?_) (fun c40 => ?_)
    · refine sX13_isWord_82 hΓ rfl ?_
      exact sX13_isWord_83 hΓ (bI_01 _) hq
    · refine sX13_isWord_43 hΓ rfl ?_
      refine sX13_isWord_44 hΓ rfl ?_
      refine sX13_isWord_45 hΓ 0 0 (Nat.le_of_ble_eq_true rfl) ht (fun κ_45 hΓ_45 => sp_slen hΓ_45 ht ?_)
      show AW G κ _ _ 48 _ _ _
      refine sX13_isWord_48 hΓ (fun c48 => ?_) (fun c48 => absurd (lp_out hx rfl (by omega) (by omega)) c48)
      refine sX13_isWord_82 hΓ rfl ?_
      exact sX13_isWord_83 hΓ (bI_01 _) hq
  | succ m ih =>
    intro i w x hi hx hw
    refine sX13_isWord_39 hΓ rfl ?_
    refine sX13_isWord_40 hΓ (fun c40 => ?_) (fun c40 => ?_)
    · have ew := bI_0 c40
      have e : pWrd (A 15) P t = w := by
        rw [ew] at hw
        rw [ew, pWrd]
        cases e9 : pW0 P t with
        | false => rfl
        | true => rw [e9, Bool.true_and] at hw; rw [Bool.true_and]; exact wEq_false hw.symm (by omega)
      rw [e] at hq
      refine sX13_isWord_82 hΓ rfl ?_
      exact sX13_isWord_83 hΓ (bI_01 _) hq
    · have ew := bI_n0 c40
      rw [ew] at hw
      have hw2 := (Bool.and_eq_true _ _).mp hw.symm
      have e0 := hw2.1
      unfold pW0 at e0
      rw [Bool.and_eq_true, Bool.and_eq_true, beq_iff_eq, beq_iff_eq, beq_iff_eq] at e0
      refine sX13_isWord_43 hΓ rfl ?_
      refine sX13_isWord_44 hΓ rfl ?_
      refine sX13_isWord_45 hΓ 0 0 (Nat.le_of_ble_eq_true rfl) ht (fun κ_45 hΓ_45 => sp_slen hΓ_45 ht ?_)
      show AW G κ _ _ 48 _ _ _
      refine sX13_isWord_48 hΓ (fun c48 => absurd c48 (lp_in hx rfl (by omega) (by omega))) (fun c48 => ?_)
      refine sX13_isWord_51 hΓ rfl ?_
      refine sX13_isWord_52 hΓ rfl ?_
      refine sX13_isWord_53 hΓ 0 0 (Nat.le_of_ble_eq_true rfl) ht (fun κ_53 hΓ_53 => sp_schar hΓ_53 ht hx (by omega) ?_)
      show AW G κ _ _ 56 _ _ _
      refine sX13_isWord_56 hΓ rfl ?_
      refine sX13_isWord_57 hΓ h.o rfl ?_
      refine sX13_isWord_60 hΓ rfl ?_
      refine sX13_isWord_61 hΓ h.o rfl ?_
      refine sX13_isWord_64 hΓ rfl ?_
      refine sX13_isWord_65 hΓ ?_
      refine sX13_isWord_66 hΓ h.buf (j := pS P + i) (ixS rfl hx) (by omega) (by decide) ?_
      refine sX13_isWord_67 hΓ (fun c67 => ?_) (fun c67 => ?_)
      · have e : (pW0 P t && wEq (A 15) (pS P) t (i + 1)) = false := by rw [wEq, beq_eq_false_iff_ne.mpr c67, Bool.and_false, Bool.and_false]
        refine sX13_isWord_74 hΓ ?_
        refine sX13_isWord_75 hΓ ?_
        refine sX13_isWord_76 hΓ rfl ?_
        refine sX13_isWord_79 hΓ ?_
        exact ih (i + 1) _ _ (by omega) (lp_1 hx) e.symm
      · have e : (pW0 P t && wEq (A 15) (pS P) t (i + 1)) = true := by rw [wEq, hw2.1, hw2.2, c67, beq_self_eq_true]; rfl
        refine sX13_isWord_70 hΓ ?_
        refine sX13_isWord_71 hΓ ?_
        refine sX13_isWord_75 hΓ ?_
        refine sX13_isWord_76 hΓ rfl ?_
        refine sX13_isWord_79 hΓ ?_
        exact ih (i + 1) _ _ (by omega) (lp_1 hx) e.symm
theorem sp_expect (hΓ : Ok G κ mX13_expect (d + 4) Q X) (h : MV G σ a r (zP z P) A rw ρ η) (hL : z 17 = nI L) (hL5 : L ≤ 500) (hP : pOk (A 15) L P) {c : Int32} (hq : ∀ σ1 : Hp, MV G σ1 a r (zP z (pExp (A 15) L c P)) A rw ρ η → MF a r σ σ1 → Q none σ1) : AW G κ cs ss 0 [lR a, lI c] [] σ := by
  refine sX13_expect_0 hΓ rfl ?_
  refine sX13_expect_1 hΓ rfl ?_
  refine sX13_expect_2 hΓ rfl ?_
  refine sX13_expect_3 hΓ 0 0 (Nat.le_of_ble_eq_true rfl) h.o (fun κ_3 hΓ_3 => sp_isSymbol hΓ_3 h hL hL5 hP ?_)
  show AW G κ _ _ 6 _ _ _
  refine sX13_expect_6 hΓ ?_
  refine sX13_expect_7 hΓ 0 0 (Nat.le_of_ble_eq_true rfl) h.o (fun κ_7 hΓ_7 => sp_check hΓ_7 h (c := pSym (A 15) P c) rfl (n := 1) rfl hP.1 (fun σ1 h1 f1 => ?_))
  show AW G κ _ _ 10 _ _ _
  refine sX13_expect_10 hΓ rfl ?_
  refine sX13_expect_11 hΓ 0 0 (Nat.le_of_ble_eq_true rfl) h1.o (fun κ_11 hΓ_11 => sp_goOn hΓ_11 h1 hL hL5 (pCk_ok (by decide) hP) (fun σ2 h2 f2 => ?_))
  show AW G κ _ _ 14 _ _ _
  exact sX13_expect_14 hΓ (hq _ h2 (f1.tr f2))
theorem sp_value (hΓ : Ok G κ mX13_value (d + 0) Q X) (h : MV G σ a r (zP z P) A rw ρ η) (hL : z 17 = nI L) (hL5 : L ≤ 500) (hP : pOk (A 15) L P) (hq : Q (some (.int (nI (pVal (A 15) P)))) σ) : AW G κ cs ss 0 [lR a, none, none] [] σ := by
  have hle := hP.le
  by_cases c : pK P = 2
  · have ev : pVal (A 15) P = rV (A 15) (pS P) (pE P - pS P) := if_pos c
    rw [ev] at hq
    suffices loop : ∀ (m i : Nat) (u x : Int32), i + m = pE P - pS P → x = nI (pS P + i) → u = nI (rV (A 15) (pS P) i) → AW G κ cs ss 7 [lR a, lI u, lI x] [] σ by
      refine sX13_value_0 hΓ ?_
      refine sX13_value_1 hΓ ?_
      refine sX13_value_2 hΓ rfl ?_
      refine sX13_value_3 hΓ h.o rfl ?_
      refine sX13_value_6 hΓ ?_
      exact loop _ 0 _ _ (Nat.zero_add _) rfl rfl
    intro m
    induction m with
    | zero =>
      intro i u x hi hx hu
      refine sX13_value_7 hΓ rfl ?_
      refine sX13_value_8 hΓ rfl ?_
      refine sX13_value_9 hΓ h.o rfl ?_
      refine sX13_value_12 hΓ (fun c12 => ?_) (fun c12 => absurd (show nI (pE P) ≤ x by rw [hx]; exact nI_le (by omega) (by omega)) c12)
      refine sX13_value_55 hΓ rfl ?_
      exact sX13_value_56 hΓ (by rw [hu, show i = pE P - pS P by omega]; exact hq)
    | succ m ih =>
      intro i u x hi hx hu
      obtain ⟨q, hb, hq1, hq2, hq3⟩ := dg_ok (hP.dig c (j := pS P + i) (by omega) (by omega))
      have hr := rV_le (b := A 15) (s := pS P) (n := i) (fun j hj => hP.dig c (by omega) (by omega))
      refine sX13_value_7 hΓ rfl ?_
      refine sX13_value_8 hΓ rfl ?_
      refine sX13_value_9 hΓ h.o rfl ?_
      refine sX13_value_12 hΓ (fun c12 => absurd (show nI (pE P) ≤ x from c12) (by rw [hx]; exact nI_ge (by omega) (by omega))) (fun c12 => ?_)
      refine sX13_value_15 hΓ rfl ?_
      refine sX13_value_16 hΓ h.o rfl ?_
      refine sX13_value_19 hΓ ?_
      refine sX13_value_20 hΓ (fun c20 => absurd (show nI (pK P) = 2 by rw [c]; rfl) c20) (fun c20 => ?_)
      refine sX13_value_23 hΓ rfl ?_
      refine sX13_value_24 hΓ ?_
      refine sX13_value_27 hΓ (fun c27 => ?_) (fun c27 => ?_)
      · have c0 : ¬ 9999999 < rV (A 15) (pS P) i := Nat.not_lt.mpr (nI_lez hu (n := 9999999) rfl (by omega) (by decide) c27)
        have e : rV (A 15) (pS P) (i + 1) = 10 * rV (A 15) (pS P) i + (q - 48) := by rw [← hq3]; exact if_neg c0
        refine sX13_value_34 hΓ ?_
        refine sX13_value_36 hΓ rfl ?_
        refine sX13_value_37 hΓ ?_
        refine sX13_value_38 hΓ rfl ?_
        refine sX13_value_39 hΓ h.o rfl ?_
        refine sX13_value_42 hΓ rfl ?_
        refine sX13_value_43 hΓ h.buf hx (by omega) (by decide) ?_
        refine sX13_value_44 hΓ ?_
        refine sX13_value_45 hΓ ?_
        refine sX13_value_47 hΓ ?_
        refine sX13_value_48 hΓ ?_
        refine sX13_value_49 hΓ rfl ?_
        refine sX13_value_52 hΓ ?_
        exact ih (i + 1) _ _ (by omega) (lp_1 hx) (by first | rw [e]; exact hu | rw [e, hu, hb, show (10 : Int32) = nI 10 from rfl, pk_mul, nI_add]; exact (pk_sub (b := 48) (by omega)).trans (congrArg nI (by omega)))
      · have c0 : 9999999 < rV (A 15) (pS P) i := Nat.lt_of_not_le (fun c1 => c27 (by rw [hu]; exact nI_le (b := 9999999) c1 (by decide)))
        have e : rV (A 15) (pS P) (i + 1) = rV (A 15) (pS P) i := if_pos c0
        refine sX13_value_30 hΓ rfl ?_
        refine sX13_value_31 hΓ ?_
        refine sX13_value_48 hΓ ?_
        refine sX13_value_49 hΓ rfl ?_
        refine sX13_value_52 hΓ ?_
        exact ih (i + 1) _ _ (by omega) (lp_1 hx) (by first | rw [e]; exact hu | rw [e, hu, hb, show (10 : Int32) = nI 10 from rfl, pk_mul, nI_add]; exact (pk_sub (b := 48) (by omega)).trans (congrArg nI (by omega)))
  · have ev : pVal (A 15) P = 0 := if_neg c
    rw [ev] at hq
    refine sX13_value_0 hΓ ?_
    refine sX13_value_1 hΓ ?_
    refine sX13_value_2 hΓ rfl ?_
    refine sX13_value_3 hΓ h.o rfl ?_
    refine sX13_value_6 hΓ ?_
    refine sX13_value_7 hΓ rfl ?_
    refine sX13_value_8 hΓ rfl ?_
    refine sX13_value_9 hΓ h.o rfl ?_
    refine sX13_value_12 hΓ (fun c12 => ?_) (fun c12 => ?_)
    · refine sX13_value_55 hΓ rfl ?_
      exact sX13_value_56 hΓ hq
    · refine sX13_value_15 hΓ rfl ?_
      refine sX13_value_16 hΓ h.o rfl ?_
      refine sX13_value_19 hΓ ?_
      refine sX13_value_20 hΓ (fun c20 => ?_) (fun c20 => absurd (nK_is (k := 2) hP.k3 (by decide) c20) c)
      refine sX13_value_55 hΓ rfl ?_
      exact sX13_value_56 hΓ hq
theorem pVal_ck {b : Nat → Int32} {c : Bool} {x : Nat} {P : Pt} : pVal b (pCk c x P) = pVal b P := by
  obtain ⟨h1, h2, h3⟩ := pCk_sek c x P
  unfold pVal
  rw [h1, h2, h3]
theorem rIn_nat {v lo hi : Nat} (hv : v < 2 ^ 31) (hlo : lo < 2 ^ 31) (hhi : hi < 2 ^ 31) : rIn (nI v) (nI lo) (nI hi) = decide (lo ≤ v ∧ v ≤ hi) := by
  unfold rIn
  rw [Bool.eq_iff_iff, Bool.and_eq_true, decide_eq_true_iff, decide_eq_true_iff, decide_eq_true_iff, nI_leI hlo hv, nI_leI hv hhi]
theorem sp_look (hΓ : Ok G κ mX13_look (d + 1) Q X) (h : MV G σ a r (zP z P) A rw ρ η) (hL : z 17 = nI L) (hL5 : L ≤ 500) (hP : pOk (A 15) L P) {lo hi : Nat} {x y : Int32} (hx : x = nI lo) (hy : y = nI hi) (hlo : lo < 2 ^ 30) (hhi : hi < 2 ^ 30) (hq : ∀ σ1 : Hp, MV G σ1 a r (zP z (pLook (A 15) lo hi P)) A rw ρ η → MF a r σ σ1 → Q (some (.int (nI (pVl (A 15) lo hi P)))) σ1) : AW G κ cs ss 0 [lR a, lI x, lI y, none] [] σ := by
  have hv := pVal_le hP
  suffices fin : ∀ σ2 : Hp, MV G σ2 a r (zP z (pCk (pK P == 2) 1 P)) A rw ρ η → MF a r σ σ2 → AW G κ cs ss 18 [lR a, lI x, lI y, none] [] σ2 by
    refine sX13_look_0 hΓ rfl ?_
    refine sX13_look_1 hΓ rfl ?_
    refine sX13_look_2 hΓ h.o rfl ?_
    refine sX13_look_5 hΓ ?_
    refine sX13_look_6 hΓ (fun c6 => ?_) (fun c6 => ?_)
    · have e : bI (pK P == 2) = 0 := by rw [beq_eq_false_iff_ne.mpr (nK_ne (k := 2) c6)]; rfl
      refine sX13_look_13 hΓ ?_
      refine sX13_look_14 hΓ ?_
      refine sX13_look_15 hΓ 0 0 (Nat.le_of_ble_eq_true rfl) h.o (fun κ_15 hΓ_15 => sp_check hΓ_15 h (c := pK P == 2) e.symm (n := 1) rfl hP.1 (fun σ1 h1 f1 => ?_))
      show AW G κ _ _ 18 _ _ _
      exact fin _ h1 f1
    · have e : bI (pK P == 2) = 1 := by rw [beq_iff_eq.mpr (nK_is (k := 2) hP.k3 (by decide) c6)]; rfl
      refine sX13_look_9 hΓ ?_
      refine sX13_look_10 hΓ ?_
      refine sX13_look_14 hΓ ?_
      refine sX13_look_15 hΓ 0 0 (Nat.le_of_ble_eq_true rfl) h.o (fun κ_15 hΓ_15 => sp_check hΓ_15 h (c := pK P == 2) e.symm (n := 1) rfl hP.1 (fun σ2 h2 f2 => ?_))
      show AW G κ _ _ 18 _ _ _
      exact fin _ h2 f2
  intro σ2 h2 f2
  have hP1 : pOk (A 15) L (pCk (pK P == 2) 1 P) := pCk_ok (by decide) hP
  refine sX13_look_18 hΓ rfl ?_
  refine sX13_look_19 hΓ 0 0 (Nat.le_of_ble_eq_true rfl) h2.o (fun κ_19 hΓ_19 => sp_value hΓ_19 h2 hL hL5 hP1 ?_)
  show AW G κ _ _ 22 _ _ _
  refine sX13_look_22 hΓ ?_
  refine sX13_look_23 hΓ rfl ?_
  refine sX13_look_24 hΓ rfl ?_
  refine sX13_look_25 hΓ rfl ?_
  refine sX13_look_26 hΓ rfl ?_
  refine sX13_look_27 hΓ 0 0 (Nat.le_of_ble_eq_true rfl) (fun κ_27 hΓ_27 => sp_inRange hΓ_27 ?_)
  show AW G κ _ _ 30 _ _ _
  refine sX13_look_30 hΓ ?_
  refine sX13_look_31 hΓ 0 0 (Nat.le_of_ble_eq_true rfl) h2.o (fun κ_31 hΓ_31 => sp_check hΓ_31 h2 (c := decide (lo ≤ pVal (A 15) P ∧ pVal (A 15) P ≤ hi)) (by rw [hx, hy, pVal_ck, rIn_nat (by omega) (by omega) (by omega)]) (n := 2) rfl hP1.1 (fun σ21 h21 f21 => ?_))
  show AW G κ _ _ 34 _ _ _
  refine sX13_look_34 hΓ rfl ?_
  refine sX13_look_35 hΓ h21.o rfl ?_
  refine sX13_look_38 hΓ (fun c38 => ?_) (fun c38 => ?_)
  · have e : pVl (A 15) lo hi P = lo := if_neg (nR_n c38)
    rw [e, ← hx] at hq
    refine sX13_look_45 hΓ rfl ?_
    exact sX13_look_46 hΓ (hq _ h21 (f2.tr f21))
  · have e : pVl (A 15) lo hi P = pVal (A 15) P := if_pos (nR_0 (pLook_ok hP).1 c38)
    rw [e] at hq
    rw [pVal_ck]
    refine sX13_look_41 hΓ rfl ?_
    refine sX13_look_42 hΓ ?_
    exact sX13_look_46 hΓ (hq _ h21 (f2.tr f21))
theorem sp_readNumber (hΓ : Ok G κ mX13_readNumber (d + 4) Q X) (h : MV G σ a r (zP z P) A rw ρ η) (hL : z 17 = nI L) (hL5 : L ≤ 500) (hP : pOk (A 15) L P) {lo hi : Nat} {x y : Int32} (hx : x = nI lo) (hy : y = nI hi) (hlo : lo < 2 ^ 30) (hhi : hi < 2 ^ 30) (hq : ∀ σ1 : Hp, MV G σ1 a r (zP z (pRead (A 15) L lo hi P)) A rw ρ η → MF a r σ σ1 → Q (some (.int (nI (pVl (A 15) lo hi P)))) σ1) : AW G κ cs ss 0 [lR a, lI x, lI y, none] [] σ := by
  refine sX13_readNumber_0 hΓ rfl ?_
  refine sX13_readNumber_1 hΓ rfl ?_
  refine sX13_readNumber_2 hΓ rfl ?_
  refine sX13_readNumber_3 hΓ 0 0 (Nat.le_of_ble_eq_true rfl) h.o (fun κ_3 hΓ_3 => sp_look hΓ_3 h hL hL5 hP hx hy hlo hhi (fun σ1 h1 f1 => ?_))
  show AW G κ _ _ 6 _ _ _
  refine sX13_readNumber_6 hΓ ?_
  refine sX13_readNumber_7 hΓ rfl ?_
  refine sX13_readNumber_8 hΓ 0 0 (Nat.le_of_ble_eq_true rfl) h1.o (fun κ_8 hΓ_8 => sp_goOn hΓ_8 h1 hL hL5 (pLook_ok hP) (fun σ2 h2 f2 => ?_))
  show AW G κ _ _ 11 _ _ _
  refine sX13_readNumber_11 hΓ rfl ?_
  exact sX13_readNumber_12 hΓ (hq _ h2 (f1.tr f2))
end ModelRead
