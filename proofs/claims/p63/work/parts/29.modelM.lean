/-! the reference's beginning; what is known of a railway that was read -/
/-- the object while its arrays are made -/
def NI (G : Gl) (σ0 σ : Hp) (a : Nat) (K : List Nat) (r : Nat → Nat) (fs : List Value) : Prop :=
  σ a = some (.inr (11, fs)) ∧ (∀ k, k ∈ K → σ (r k) = some (eI G (mLen k) (fun _ => 0)) ∧ r k ≠ a ∧ σ0 (r k) = none) ∧ (∀ i, i ∈ K → ∀ j, j ∈ K → r i = r j → i = j) ∧ (∀ x e, x ≠ a → σ0 x = some e → σ x = some e) ∧ (∀ x, σ x = none → σ0 x = none ∨ x = a)
theorem NI.o {G : Gl} {σ0 σ : Hp} {a : Nat} {K : List Nat} {r : Nat → Nat} {fs : List Value} (h : NI G σ0 σ a K r fs) : σ a = some (.inr (11, fs)) := h.1
/-- the row and the numbers of a new object -/
def mRow0 : Nat → Int32 := rNewT (rNewT (upd (upd (upd (rBeg 8 4) 13 1) 14 1) 40 1) 0 3 2 4 0) 1 5 1 2 2
/-- .. while it is read -/
def lOk (ρ : Nat → Int32) (n s : Nat) : Prop := RW ρ n s ∧ ρ 6 = nI 0 ∧ RB ρ
theorem lOk_beg {s c : Nat} (h4 : 4 ≤ s) (h24 : s ≤ 24) : lOk (rBeg (nI s) (nI c)) 0 s :=
  ⟨⟨rfl, by decide, rfl, h4, h24, fun k hk => absurd hk (Nat.not_lt_zero k), fun k hk => absurd hk (Nat.not_lt_zero k)⟩, rfl, RB.head (RB.head (fun _ => okV_0 _) (by decide) (by decide)) (by decide) (by decide)⟩
theorem lOk.sec {ρ : Nat → Int32} {n s w v : Nat} (h : lOk ρ n s) (hw : w = 10 ∨ w = 34) (hv : v < 24) : lOk (upd ρ (w + v) 1) n s := by
  refine ⟨h.1.put (by omega) (by omega) (fun k hk => by omega), by rw [upd_ne (by omega)]; exact h.2.1, h.2.2.put ?_⟩
  refine okV_n (m := 1) ?_
  rw [bd_s (by omega) (by omega)]
  exact Nat.le_refl 1
theorem lOk.add {ρ : Nat → Int32} {n s mc mv sec : Nat} {x : Int32} (h : lOk ρ n s) (hn : n < 6) (hc : mc ≤ 5) (hv : 1 ≤ mv) (hv9 : mv ≤ 9) (hs : sec < s) : lOk (rNewT ρ n x (nI mc) (nI mv) (nI sec)) (n + 1) s := by
  obtain ⟨⟨a1, a2, a3, a4, a5, a6, a7⟩, h6, hB⟩ := h
  unfold rNewT
  refine ⟨⟨?_, hn, ?_, a4, a5, fun k hk => ?_, fun k hk => ?_⟩, ?_, ?_⟩
  · rw [upd_ne (by omega), upd_ne (by omega), upd_ne (by omega), upd_ne (by omega), upd_same]
  · rw [upd_ne (by omega), upd_ne (by omega), upd_ne (by omega), upd_ne (by omega), upd_ne (by omega)]; exact a3
  · by_cases e : k = n
    · subst e
      exact ⟨sec, hs, upd_same _ _ _⟩
    · rw [upd_ne (by omega), upd_ne (by omega), upd_ne (by omega), upd_ne (by omega), upd_ne (by omega)]
      exact a6 k (by omega)
  · by_cases e : k = n
    · subst e
      rw [upd_ne (by omega), upd_same]
      exact nI_ne0 hv (by omega)
    · rw [upd_ne (by omega), upd_ne (by omega), upd_ne (by omega), upd_ne (by omega), upd_ne (by omega)]
      exact a7 k (by omega)
  · rw [upd_ne (by omega), upd_ne (by omega), upd_ne (by omega), upd_ne (by omega), upd_ne (by omega)]; exact h6
  · exact ((((hB.head (i := 3) (by decide) (by decide)).free (w := 0) hn (by decide) rfl).putT (w := 1) (M := 5) hn (by decide) rfl rfl hc).putT (w := 2) (M := 9) hn (by decide) rfl rfl hv9).free (w := 3) hn (by decide) rfl
theorem lOk.secs {b : Nat → Int32} {L s : Nat} (h0 : 0 < s) (h24 : s ≤ 24) : ∀ (m : Nat) (Y : Pt × (Nat → Int32)), lOk Y.2 0 s → lOk (qSecs b L s m Y).2 0 s
  | 0, _, h => h
  | m + 1, Y, h => by
    by_cases c : (pWrd b Y.1 1 || pWrd b Y.1 2) = true
    · rw [show qSecs b L s (m + 1) Y = qSecs b L s m (qOne b L s (if pWrd b Y.1 1 = true then 10 else 34) Y) from if_pos c]
      refine lOk.secs h0 h24 m _ ?_
      obtain ⟨P, ρ⟩ := Y
      by_cases e : pR (qSec b L s P) = 0
      · rw [qOne_t e]
        exact h.sec (by split <;> simp) (by have := qSecV_in (b := b) (L := L) (P := P) h0; omega)
      · rw [qOne_f e]
        exact h
    · rw [qSecs_f (Bool.eq_false_iff.mpr c)]; exact h
theorem lOk.tr {b : Nat → Int32} {L s : Nat} {Y : Yt} (h0 : 0 < s) (h : lOk Y.2.1 Y.2.2 s) : lOk (qTr b L s Y).2.1 (qTr b L s Y).2.2 s ∧ Y.2.2 ≤ (qTr b L s Y).2.2 ∧ (pR (qTr b L s Y).1 = 0 → 1 ≤ (qTr b L s Y).2.2) := by
  obtain ⟨P, ρ, n⟩ := Y
  show lOk (qRow b L n s ρ P) (if pR (qF b L n s ρ P) = 0 then n + 1 else n) s ∧ n ≤ (if pR (qF b L n s ρ P) = 0 then n + 1 else n) ∧ (pR (qF b L n s ρ P) = 0 → 1 ≤ (if pR (qF b L n s ρ P) = 0 then n + 1 else n))
  unfold qRow
  by_cases c : pR (qF b L n s ρ P) = 0
  · rw [if_pos c, if_pos c]
    have h1 := pLook_in (b := b) (lo := 1) (hi := 5) (P := qB b L n ρ P) (by decide)
    have h2 := pLook_in (b := b) (lo := 1) (hi := 9) (P := qC b L n ρ P) (by decide)
    have h3 := (pLook_in (b := b) (lo := 0) (hi := s - 1) (P := qD b L n ρ P) (Nat.zero_le _)).2
    exact ⟨h.add (qF_z c).2.1 h1.2 h2.1 h2.2 (by show pVl b 0 (s - 1) (qD b L n ρ P) < s; omega), Nat.le_succ n, fun _ => by omega⟩
  · rw [if_neg c, if_neg c]
    exact ⟨h, Nat.le_refl n, fun e => absurd e c⟩
theorem lOk.trs {b : Nat → Int32} {L s : Nat} (h0 : 0 < s) : ∀ (m : Nat) (Y : Yt), lOk Y.2.1 Y.2.2 s → (pR Y.1 = 0 → 1 ≤ Y.2.2) → lOk (qTrs b L s m Y).2.1 (qTrs b L s m Y).2.2 s ∧ (pR (qTrs b L s m Y).1 = 0 → 1 ≤ (qTrs b L s m Y).2.2)
  | 0, _, h, h1 => ⟨h, h1⟩
  | m + 1, Y, h, h1 => by
    by_cases c : pR Y.1 = 0 ∧ pK Y.1 ≠ 0
    · rw [show qTrs b L s (m + 1) Y = qTrs b L s m (qTr b L s Y) from if_pos c]
      obtain ⟨h2, -, h3⟩ := h.tr (b := b) (L := L) h0
      exact lOk.trs h0 m _ h2 h3
    · rw [qTrs_f c]; exact ⟨h, h1⟩
/-- what a text without an error lays is a railway -/
theorem lF_RV {b : Nat → Int32} {L : Nat} {P : Pt} (h : pR (lF b L P).1 = 0) : RV (lF b L P).2.1 (lF b L P).2.2 (lS b L P) := by
  have hs := lS_in (b := b) (L := L) (P := P)
  have h1 := lOk.secs (b := b) (L := L) (s := lS b L P) (by omega) hs.2 501 (lD b L P, rBeg (nI (lS b L P)) (nI (lC b L P))) (lOk_beg hs.1 hs.2)
  obtain ⟨h2, -, h3⟩ := lOk.tr (b := b) (L := L) (s := lS b L P) (Y := ((lE b L P).1, (lE b L P).2, 0)) (by omega) h1
  obtain ⟨h4, h5⟩ := lOk.trs (b := b) (L := L) (s := lS b L P) (by omega) 7 _ h2 h3
  exact ⟨⟨h4.1, 0, by decide, h4.2.1⟩, h5 h, h4.2.2⟩
section ModelInit
variable {G : Gl} {κ : Kx} {d : Nat} {Q : Option Value → Hp → Prop} {X : String → Hp → Prop} {cs ss : Nat} {σ : Hp} {a : Nat} {r : Nat → Nat} {z : Nat → Int32} {A : Nat → Nat → Int32} {rw : Nat} {ρ η : Nat → Int32}
end ModelInit
