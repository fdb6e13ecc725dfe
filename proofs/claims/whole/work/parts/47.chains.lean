/-! the class's parser: commands, their chains -/
/-- a command's kind, numbers, what is inside, what is next -/
abbrev Dt : Type := Nat × Int32 × Int32 × Int32 × Option Nat × Option Nat
abbrev cmV (G : Gl) (D : Dt) : List Value := [.ref (gE G D.1), .int D.2.1, .int D.2.2.1, .int D.2.2.2.1, va_rf D.2.2.2.2.1, va_rf D.2.2.2.2.2]
def dIn (D : Dt) : Option Nat := D.2.2.2.2.1
def dNx (D : Dt) : Option Nat := D.2.2.2.2.2
/-- a command tells what order i is -/
def dOk (D : Dt) (O : Nat → Int32) (i : Nat) : Prop := D.1 < 8 ∧ O (4 * i + 0) = nI D.1 ∧ O (4 * i + 1) = D.2.1 ∧ (D.1 < 7 → O (4 * i + 2) = D.2.2.1 ∧ O (4 * i + 3) = D.2.2.2.1)
/-- a chain of commands tells the orders from i to j -/
def cH (nd : Nat → Nat) (D : Nat → Dt) (O : Nat → Int32) : Nat → Nat → Nat → Option Nat → Prop
  | 0, i, j, h => i = j ∧ h = none
  | m + 1, i, j, h => (i = j ∧ h = none) ∨ (i < j ∧ h = some (nd i) ∧ ∃ x, i < x ∧ x ≤ j ∧ (dOk (D i) O i ∧ ((¬ (D i).1 = 7 ∧ x = i + 1) ∨ ((D i).1 = 7 ∧ O (4 * i + 2) = nI x ∧ cH nd D O m (i + 1) x (dIn (D i))))) ∧ cH nd D O m x j (dNx (D i)))
/-- .. that isn't empty, and ends with order li's -/
def cHl (nd : Nat → Nat) (D : Nat → Dt) (O : Nat → Int32) : Nat → Nat → Nat → Option Nat → Nat → Prop
  | 0, _, _, _, _ => False
  | m + 1, i, j, h, li => i < j ∧ h = some (nd i) ∧ ∃ x, i < x ∧ x ≤ j ∧ (dOk (D i) O i ∧ ((¬ (D i).1 = 7 ∧ x = i + 1) ∨ ((D i).1 = 7 ∧ O (4 * i + 2) = nI x ∧ cH nd D O m (i + 1) x (dIn (D i))))) ∧ ((li = i ∧ x = j) ∨ cHl nd D O m x j (dNx (D i)) li)
theorem dOk.cg {D : Dt} {O O1 : Nat → Int32} {i : Nat} (h : dOk D O i) (e : ∀ w, w < 4 → O1 (4 * i + w) = O (4 * i + w)) : dOk D O1 i := by
  unfold dOk
  rw [e 0 (by decide), e 1 (by decide), e 2 (by decide), e 3 (by decide)]
  exact h
theorem cH_cg {nd nd1 : Nat → Nat} {D D1 : Nat → Dt} {O O1 : Nat → Int32} : ∀ (m m1 i j : Nat) (h : Option Nat), m ≤ m1 → (∀ q, i ≤ q → q < j → nd1 q = nd q ∧ D1 q = D q ∧ ∀ w, w < 4 → O1 (4 * q + w) = O (4 * q + w)) → cH nd D O m i j h → cH nd1 D1 O1 m1 i j h
  | 0, m1, i, j, h, _, _, hc => by
    cases m1 with
    | zero => exact hc
    | succ m1 => exact Or.inl hc
  | m + 1, m1, i, j, h, hm, e, hc => by
    cases m1 with
    | zero => exact absurd hm (Nat.not_succ_le_zero m)
    | succ m1 =>
      rcases hc with hc | ⟨h1, h2, x, h3, h4, ⟨h5, h6⟩, h7⟩
      · exact Or.inl hc
      · obtain ⟨e1, e2, e3⟩ := e i (Nat.le_refl i) h1
        refine Or.inr ⟨h1, by rw [e1]; exact h2, x, h3, h4, ⟨by rw [e2]; exact h5.cg e3, ?_⟩, ?_⟩
        · rw [e2]
          rcases h6 with h6 | ⟨h6, h8, h9⟩
          · exact Or.inl h6
          · exact Or.inr ⟨h6, by rw [e3 2 (by decide)]; exact h8, cH_cg m m1 _ _ _ (by omega) (fun q q1 q2 => e q (by omega) (by omega)) h9⟩
        · rw [e2]
          exact cH_cg m m1 _ _ _ (by omega) (fun q q1 q2 => e q (by omega) (by omega)) h7
theorem cHl_le {nd : Nat → Nat} {D : Nat → Dt} {O : Nat → Int32} : ∀ (m i j : Nat) (h : Option Nat) (li : Nat), cHl nd D O m i j h li → i ≤ li ∧ li < j
  | m + 1, i, j, h, li, ⟨h1, _, x, h3, h4, _, h5⟩ => by
    rcases h5 with ⟨e, -⟩ | h5
    · omega
    · have := cHl_le m x j _ li h5; omega
theorem cHl_end {nd : Nat → Nat} {D : Nat → Dt} {O : Nat → Int32} : ∀ (m i j : Nat) (h : Option Nat) (li : Nat), cHl nd D O m i j h li → dNx (D li) = none → cH nd D O (m + 1) i j h
  | m + 1, i, j, h, li, ⟨h1, h2, x, h3, h4, ⟨h5, h6⟩, h7⟩, hn => by
    refine Or.inr ⟨h1, h2, x, h3, h4, ⟨h5, ?_⟩, ?_⟩
    · rcases h6 with h6 | ⟨h6, h8, h9⟩
      · exact Or.inl h6
      · exact Or.inr ⟨h6, h8, cH_cg m (m + 1) _ _ _ (by omega) (fun _ _ _ => ⟨rfl, rfl, fun _ _ => rfl⟩) h9⟩
    · rcases h7 with ⟨e1, e2⟩ | h7
      · rw [← e1, hn]; exact Or.inl ⟨e2, rfl⟩
      · exact cHl_end m x j _ li h7 hn
theorem cHl_mono {nd : Nat → Nat} {D : Nat → Dt} {O : Nat → Int32} : ∀ (m m1 i j : Nat) (h : Option Nat) (li : Nat), m ≤ m1 → cHl nd D O m i j h li → cHl nd D O m1 i j h li
  | m + 1, m1, i, j, h, li, hm, ⟨h1, h2, x, h3, h4, ⟨h5, h6⟩, h7⟩ => by
    cases m1 with
    | zero => exact absurd hm (Nat.not_succ_le_zero m)
    | succ m1 =>
      refine ⟨h1, h2, x, h3, h4, ⟨h5, ?_⟩, ?_⟩
      · rcases h6 with h6 | ⟨h6, h8, h9⟩
        · exact Or.inl h6
        · exact Or.inr ⟨h6, h8, cH_cg m m1 _ _ _ (by omega) (fun _ _ _ => ⟨rfl, rfl, fun _ _ => rfl⟩) h9⟩
      · rcases h7 with h7 | h7
        · exact Or.inl h7
        · exact Or.inr (cHl_mono m m1 x j _ li (by omega) h7)
/-- a command hung behind the last one -/
theorem cHl_app {nd nd1 : Nat → Nat} {D D1 : Nat → Dt} {O O1 : Nat → Int32} {j k li2 : Nat} {t : Option Nat} : ∀ (m m2 i : Nat) (h : Option Nat) (li : Nat), cHl nd D O m i j h li → (∀ q, q < j → nd1 q = nd q ∧ (q ≠ li → D1 q = D q) ∧ ∀ w, w < 4 → O1 (4 * q + w) = O (4 * q + w)) → ((D1 li).1 = (D li).1 ∧ (D1 li).2.1 = (D li).2.1 ∧ (D1 li).2.2.1 = (D li).2.2.1 ∧ (D1 li).2.2.2.1 = (D li).2.2.2.1 ∧ dIn (D1 li) = dIn (D li) ∧ dNx (D1 li) = t) → j < k → cHl nd1 D1 O1 m2 j k t li2 → cHl nd1 D1 O1 (m + m2) i k h li2
  | m + 1, m2, i, h, li, ⟨h1, h2, x, h3, h4, ⟨h5, h6⟩, h7⟩, e, el, hjk, ht => by
    obtain ⟨e1, e2, e3⟩ := e i h1
    rw [show m + 1 + m2 = (m + m2) + 1 by omega]
    have hin : ∀ Din, Din = dIn (D i) → (li = i ∨ x ≤ li) → cH nd D O m (i + 1) x Din → cH nd1 D1 O1 (m + m2) (i + 1) x Din := fun Din _ hli hc => cH_cg m (m + m2) _ _ _ (by omega) (fun q q1 q2 => ⟨(e q (by omega)).1, (e q (by omega)).2.1 (by omega), (e q (by omega)).2.2⟩) hc
    rcases h7 with ⟨c1, c2⟩ | h7
    · subst c1
      obtain ⟨l1, l2, l3, l4, l5, l6⟩ := el
      refine ⟨by omega, by rw [e1]; exact h2, x, h3, by omega, ⟨?_, ?_⟩, Or.inr ?_⟩
      · unfold dOk
        rw [l1, l2, l3, l4]
        exact h5.cg e3
      · rw [l1, l5]
        rcases h6 with h6 | ⟨h6, h8, h9⟩
        · exact Or.inl h6
        · exact Or.inr ⟨h6, by rw [e3 2 (by decide)]; exact h8, hin _ rfl (Or.inl rfl) h9⟩
      · rw [l6, c2]
        cases m with
        | zero => rw [Nat.zero_add]; exact ht
        | succ m => exact cHl_mono m2 _ _ _ _ _ (by omega) ht
    · have hl := cHl_le m x j _ li h7
      have ei := e2 (by omega)
      refine ⟨by omega, by rw [e1]; exact h2, x, h3, by omega, ⟨by rw [ei]; exact h5.cg e3, ?_⟩, Or.inr ?_⟩
      · rw [ei]
        rcases h6 with h6 | ⟨h6, h8, h9⟩
        · exact Or.inl h6
        · exact Or.inr ⟨h6, by rw [e3 2 (by decide)]; exact h8, hin _ rfl (Or.inr hl.1) h9⟩
      · rw [ei]
        exact cHl_app m m2 x _ li h7 e el hjk ht
/-! the reading's loop, as the class has it: on while words come -/
noncomputable def cLoop (f : Zt → Zt) : Nat → Zt → Zt
  | 0, Z => Z
  | n + 1, Z => if pR Z.1 = 0 ∧ pK Z.1 = 1 then cLoop f n (f Z) else Z
theorem cLoop_f {f : Zt → Zt} {n : Nat} {Z : Zt} (h : ¬ (pR Z.1 = 0 ∧ pK Z.1 = 1)) : cLoop f n Z = Z := by
  cases n with
  | zero => rfl
  | succ n => exact if_neg h
theorem pWrd_nk {b : Nat → Int32} {P : Pt} {t : Nat} (h : ¬ pK P = 1) : pWrd b P t = false := by
  unfold pWrd pW0
  rw [beq_eq_false_iff_ne.mpr h, Bool.false_and, Bool.and_false, Bool.false_and]
theorem oOne_nw {b : Nat → Int32} {L : Nat} {rp : Zt → Zt} {dp : Bool} {Z : Zt} (h0 : pR Z.1 = 0) (h : ¬ pK Z.1 = 1) : oOne b L rp dp Z = (pCk false 1 Z.1, Z.2) := by
  have eh : oHere b Z.1 = none := fsB_none _ (fun k _ => pWrd_nk h)
  have e1 : oHead b L Z.2.2 dp Z.1 = pCk false 1 Z.1 := by
    unfold oHead
    have hr : ¬ pR (pCk false 1 Z.1) = 0 := by rw [pCk_R rfl h0]; decide
    rw [eh]
    show pGo b L (pCk _ 4 (pCk false 1 Z.1)) = pCk false 1 Z.1
    rw [pCk_id (P := pCk false 1 Z.1) (Or.inr hr), pGo_n hr]
  unfold oOne
  rw [e1, if_pos (by rw [pCk_R rfl h0]; decide)]
theorem oOrd_nw {b : Nat → Int32} {L g : Nat} {Z : Zt} (h0 : pR Z.1 = 0) (h : ¬ pK Z.1 = 1) : oOrd b L g Z = (pCk false 1 Z.1, Z.2) := by
  cases g with
  | zero => exact oOne_nw h0 h
  | succ g => exact oOne_nw h0 h
theorem pExp_er {b : Nat → Int32} {L : Nat} {P : Pt} {x : Int32} (h : ¬ pR P = 0) : pExp b L x P = P := by
  unfold pExp
  rw [pCk_id (Or.inr h), pGo_n h]
theorem oLoop_c {b : Nat → Int32} {L : Nat} {f : Zt → Zt} (hf : ∀ Z, pR Z.1 = 0 → ¬ pK Z.1 = 1 → f Z = (pCk false 1 Z.1, Z.2)) : ∀ (m : Nat) (Z : Zt), (oLoop f b m Z).2 = (cLoop f m Z).2 ∧ pExp b L 41 (oLoop f b m Z).1 = pExp b L 41 (cLoop f m Z).1 ∧ (pR (pExp b L 41 (cLoop f m Z).1) = 0 → oLoop f b m Z = cLoop f m Z)
  | 0, Z => ⟨rfl, rfl, fun _ => rfl⟩
  | m + 1, Z => by
    by_cases e0 : pR Z.1 = 0
    · by_cases e1 : pK Z.1 = 1
      · have es : pSym b Z.1 41 = false := by
          unfold pSym
          rw [e1]
          show (_ && (false && _)) = false
          rw [Bool.false_and, Bool.and_false]
        rw [show oLoop f b (m + 1) Z = oLoop f b m (f Z) from if_pos ⟨e0, es⟩, show cLoop f (m + 1) Z = cLoop f m (f Z) from if_pos ⟨e0, e1⟩]
        exact oLoop_c hf m (f Z)
      · rw [cLoop_f (fun e => e1 e.2)]
        by_cases es : pSym b Z.1 41 = false
        · have er : ¬ pR (pCk false 1 Z.1) = 0 := by rw [pCk_R rfl e0]; decide
          have eo : oLoop f b (m + 1) Z = (pCk false 1 Z.1, Z.2) := by
            rw [show oLoop f b (m + 1) Z = oLoop f b m (f Z) from if_pos ⟨e0, es⟩, hf Z e0 e1]
            exact oLoop_f (fun e => er e.1)
          have ex : pExp b L 41 Z.1 = pCk false 1 Z.1 := by
            unfold pExp
            rw [es, pGo_n er]
          rw [eo, ex]
          exact ⟨rfl, pExp_er er, fun e => absurd e er⟩
        · rw [oLoop_f (fun e => es e.2)]
          exact ⟨rfl, rfl, fun _ => rfl⟩
    · rw [cLoop_f (fun e => e0 e.1), oLoop_f (fun e => e0 e.1)]
      exact ⟨rfl, rfl, fun _ => rfl⟩
theorem oTop_c {b : Nat → Int32} {L : Nat} {f : Zt → Zt} (hf : ∀ Z, pR Z.1 = 0 → ¬ pK Z.1 = 1 → f Z = (pCk false 1 Z.1, Z.2)) (hs : ∀ Z, oInv b L Z → oStep b L Z (f Z)) : ∀ (m : Nat) (Z : Zt), oInv b L Z → (pR Z.1 = 0 → 20 < Z.2.2 + m) → (oTop f m Z).2 = (cLoop f m Z).2 ∧ (oTop f m Z).1 = (if pR (cLoop f m Z).1 = 0 ∧ ¬ pK (cLoop f m Z).1 = 0 then pCk false 1 (cLoop f m Z).1 else (cLoop f m Z).1)
  | 0, Z, hI, hm => by
    have e0 : ¬ pR Z.1 = 0 := fun e => by have := hm e; have := hI.2; omega
    show Z.2 = Z.2 ∧ Z.1 = (if pR Z.1 = 0 ∧ ¬ pK Z.1 = 0 then pCk false 1 Z.1 else Z.1)
    rw [if_neg (fun e => e0 e.1)]
    exact ⟨rfl, rfl⟩
  | m + 1, Z, hI, hm => by
    by_cases e0 : pR Z.1 = 0
    · by_cases e1 : pK Z.1 = 1
      · rw [show oTop f (m + 1) Z = oTop f m (f Z) from if_pos ⟨e0, by rw [e1]; decide⟩, show cLoop f (m + 1) Z = cLoop f m (f Z) from if_pos ⟨e0, e1⟩]
        obtain ⟨h1, h2, h3⟩ := hs Z hI
        exact oTop_c hf hs m (f Z) h1 (fun e => by have := h3 e; have := hm e0; omega)
      · rw [cLoop_f (fun e => e1 e.2)]
        by_cases ek : pK Z.1 = 0
        · rw [oTop_f (fun e => e.2 ek), if_neg (fun e => e.2 ek)]
          exact ⟨rfl, rfl⟩
        · have er : ¬ pR (pCk false 1 Z.1) = 0 := by rw [pCk_R rfl e0]; decide
          have eo : oTop f (m + 1) Z = (pCk false 1 Z.1, Z.2) := by
            rw [show oTop f (m + 1) Z = oTop f m (f Z) from if_pos ⟨e0, ek⟩, hf Z e0 e1]
            exact oTop_f (fun e => er e.1)
          rw [eo, if_pos ⟨e0, ek⟩]
          exact ⟨rfl, rfl⟩
    · rw [cLoop_f (fun e => e0 e.1), oTop_f (fun e => e0 e.1), if_neg (fun e => e0 e.1)]
      exact ⟨rfl, rfl⟩
theorem cLoop_ok {b : Nat → Int32} {L : Nat} {f : Zt → Zt} (hs : ∀ Z, oInv b L Z → oStep b L Z (f Z)) : ∀ (m : Nat) (Z : Zt), oInv b L Z → oInv b L (cLoop f m Z) ∧ Z.2.2 ≤ (cLoop f m Z).2.2
  | 0, Z, h => ⟨h, Nat.le_refl _⟩
  | m + 1, Z, h => by
    by_cases e : pR Z.1 = 0 ∧ pK Z.1 = 1
    · rw [show cLoop f (m + 1) Z = cLoop f m (f Z) from if_pos e]
      obtain ⟨h1, h2, -⟩ := hs Z h
      obtain ⟨h3, h4⟩ := cLoop_ok hs m (f Z) h1
      exact ⟨h3, Nat.le_trans h2 h4⟩
    · rw [cLoop_f e]
      exact ⟨h, Nat.le_refl _⟩
