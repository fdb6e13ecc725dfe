/-! the reference's beginning; what is known of a railway that was read -/
/-- the object while its arrays are made -/
def NI (G : Gl) (σ0 σ : Hp) (a : Nat) (K : List Nat) (r : Nat → Nat) (fs : List Value) : Prop :=
  σ a = some (.inr (10, fs)) ∧ (∀ k, k ∈ K → σ (r k) = some (eI G (mLen k) (fun _ => 0)) ∧ r k ≠ a ∧ σ0 (r k) = none) ∧ (∀ i, i ∈ K → ∀ j, j ∈ K → r i = r j → i = j) ∧ (∀ x e, x ≠ a → σ0 x = some e → σ x = some e) ∧ (∀ x, σ x = none → σ0 x = none ∨ x = a)
theorem NI.arr {G : Gl} {σ0 σ : Hp} {a : Nat} {K : List Nat} {r : Nat → Nat} {fs fs1 : List Value} (h : NI G σ0 σ a K r fs) {k q : Nat} (hk : k ∉ K) (hq : σ q = none) : NI G σ0 (hset (hset σ q (eI G (mLen k) (fun _ => 0))) a (.inr (10, fs1))) a (k :: K) (fun j => if j = k then q else r j) fs1 := by
  obtain ⟨h1, h2, h3, h4, h5⟩ := h
  have hqa : q ≠ a := fun e => by rw [e, h1] at hq; cases hq
  have hqr : ∀ j, j ∈ K → r j ≠ q := fun j hj e => by rw [← e, (h2 j hj).1] at hq; cases hq
  have hn : ∀ j, j ∈ K → j ≠ k := fun j hj e => hk (e ▸ hj)
  refine ⟨hset_same _ _ _, fun j hj => ?_, fun i hi j hj e => ?_, fun x e hx he => ?_, fun x hx => ?_⟩
  · show hset (hset σ q (eI G (mLen k) (fun _ => 0))) a (.inr (10, fs1)) (if j = k then q else r j) = _ ∧ (if j = k then q else r j) ≠ a ∧ σ0 (if j = k then q else r j) = none
    rcases List.mem_cons.mp hj with e | hj
    · subst e
      rw [if_pos rfl, hset_ne hqa, hset_same]
      refine ⟨rfl, hqa, ?_⟩
      rcases h5 q hq with h | h
      · exact h
      · exact absurd h hqa
    · rw [if_neg (hn j hj), hset_ne (h2 j hj).2.1, hset_ne (hqr j hj)]
      exact h2 j hj
  · have e : (if i = k then q else r i) = (if j = k then q else r j) := e
    rcases List.mem_cons.mp hi with e1 | hi
    · rcases List.mem_cons.mp hj with e2 | hj
      · rw [e1, e2]
      · rw [if_pos e1, if_neg (hn j hj)] at e
        exact absurd e.symm (hqr j hj)
    · rcases List.mem_cons.mp hj with e2 | hj
      · rw [if_neg (hn i hi), if_pos e2] at e
        exact absurd e (hqr i hi)
      · rw [if_neg (hn i hi), if_neg (hn j hj)] at e
        exact h3 i hi j hj e
  · rw [hset_ne hx, hset_ne (fun e9 => by rw [← e9, h4 x e hx he] at hq; cases hq)]
    exact h4 x e hx he
  · by_cases e : x = a
    · exact Or.inr e
    · rw [hset_ne e] at hx
      by_cases e2 : x = q
      · subst e2; rw [hset_same] at hx; cases hx
      · rw [hset_ne e2] at hx; exact h5 x hx
theorem NI.fld {G : Gl} {σ0 σ : Hp} {a : Nat} {K : List Nat} {r : Nat → Nat} {fs fs1 : List Value} (h : NI G σ0 σ a K r fs) : NI G σ0 (hset σ a (.inr (10, fs1))) a K r fs1 := by
  obtain ⟨h1, h2, h3, h4, h5⟩ := h
  refine ⟨hset_same _ _ _, fun j hj => ?_, h3, fun x e hx he => ?_, fun x hx => ?_⟩
  · rw [hset_ne (h2 j hj).2.1]; exact h2 j hj
  · rw [hset_ne hx]; exact h4 x e hx he
  · by_cases e : x = a
    · exact Or.inr e
    · rw [hset_ne e] at hx; exact h5 x hx
theorem ni_arr {G : Gl} {κ : Kx} {cs ss pc : Nat} {M : List (Option LV)} {st : List Value} {σ0 σ : Hp} {a : Nat} {K : List Nat} {r : Nat → Nat} {fs fs0 : List Value} (h : NI G σ0 σ a K r fs) (k : Nat) {q n : Nat} (hk : k ∉ K) (hq : σ q = none) (hn : n = mLen k) (fs1 : (Nat → Nat) → List Value) (hf : fs0 = fs1 (fun j => if j = k then q else r j)) (kk : ∀ (σ1 : Hp) (r1 : Nat → Nat), NI G σ0 σ1 a (k :: K) r1 (fs1 r1) → AW G κ cs ss pc M st σ1) : AW G κ cs ss pc M st (hset (hset σ q (eI G n (fun _ => 0))) a (.inr (10, fs0))) := by
  subst hn
  subst hf
  exact kk _ _ (h.arr hk hq)
theorem ni_fld {G : Gl} {κ : Kx} {cs ss pc : Nat} {M : List (Option LV)} {st : List Value} {σ0 σ : Hp} {a : Nat} {K : List Nat} {r : Nat → Nat} {fs fs0 : List Value} (h : NI G σ0 σ a K r fs) (fs1 : List Value) (hf : fs0 = fs1) (kk : ∀ σ1 : Hp, NI G σ0 σ1 a K r fs1 → AW G κ cs ss pc M st σ1) : AW G κ cs ss pc M st (hset σ a (.inr (10, fs0))) := by
  subst hf
  exact kk _ h.fld
theorem NI.o {G : Gl} {σ0 σ : Hp} {a : Nat} {K : List Nat} {r : Nat → Nat} {fs : List Value} (h : NI G σ0 σ a K r fs) : σ a = some (.inr (10, fs)) := h.1
theorem NI.oq {G : Gl} {σ0 σ : Hp} {a : Nat} {K : List Nat} {r : Nat → Nat} {fs : List Value} {q : Nat} {e : va_E} (h : NI G σ0 σ a K r fs) (hq : σ q = none) : hset σ q e a = some (.inr (10, fs)) := by
  rw [hset_ne (fun e9 => by rw [← e9, h.1] at hq; cases hq)]
  exact h.1
/-- the row and the numbers of a new object -/
def mRow0 : Nat → Int32 := rNewT (rNewT (upd (upd (upd (rBeg 8 4) 13 1) 14 1) 40 1) 0 3 2 4 0) 1 5 1 2 2
def mZ0 : Nat → Int32 := fun j => if j = 23 then -1 else 0
def mB0 : Nat → Nat → Int32 := fun k => if k = 0 then mRow0 else fun _ => 0
theorem mRow0_ok : RV mRow0 2 8 := by
  have hB : RB mRow0 := by
    unfold mRow0 rNewT rBeg
    refine RB.put (RB.put (RB.put (RB.put (RB.put (RB.put (RB.put (RB.put (RB.put (RB.put (RB.put (RB.put (RB.put (RB.put (RB.put (fun _ => okV_0 _) ?_) ?_) ?_) ?_) ?_) ?_) ?_) ?_) ?_) ?_) ?_) ?_) ?_) ?_) ?_
    · exact okV_u (by decide)
    · exact okV_u (by decide)
    · exact okV_n (m := 1) (by decide)
    · exact okV_n (m := 1) (by decide)
    · exact okV_n (m := 1) (by decide)
    · exact okV_u (by decide)
    · exact okV_u (by decide)
    · exact okV_n (m := 2) (by decide)
    · exact okV_n (m := 4) (by decide)
    · exact okV_u (by decide)
    · exact okV_u (by decide)
    · exact okV_u (by decide)
    · exact okV_n (m := 1) (by decide)
    · exact okV_n (m := 2) (by decide)
    · exact okV_u (by decide)
  refine ⟨⟨⟨rfl, by decide, rfl, by decide, by decide, fun k hk => ?_, fun k hk => ?_⟩, 0, by decide, rfl⟩, by decide, hB⟩
  · match k, hk with
    | 0, _ => exact ⟨0, by decide, rfl⟩
    | 1, _ => exact ⟨2, by decide, rfl⟩
  · match k, hk with
    | 0, _ => decide
    | 1, _ => decide
/-- .. while it is read -/
def lOk (ρ : Nat → Int32) (n s : Nat) : Prop := RW ρ n s ∧ ρ 6 = nI 0 ∧ RB ρ
theorem lOk_beg {s c : Nat} (h4 : 4 ≤ s) (h24 : s ≤ 24) : lOk (rBeg (nI s) (nI c)) 0 s :=
  ⟨⟨rfl, by decide, rfl, h4, h24, fun k hk => absurd hk (Nat.not_lt_zero k), fun k hk => absurd hk (Nat.not_lt_zero k)⟩, rfl, RB.head (RB.head (fun _ => okV_0 _) (by decide) (by decide)) (by decide) (by decide)⟩
theorem lOk.sec {ρ : Nat → Int32} {n s w v : Nat} (h : lOk ρ n s) (hw : w = 10 ∨ w = 34) (hv : v < 24) : lOk (upd ρ (w + v) 1) n s := by
  refine ⟨h.1.put (by omega) (by omega) (fun k hk => by omega), by rw [upd_ne (by omega)]; exact h.2.1, h.2.2.put ?_⟩
  refine okV_n (m := 1) ?_
  rw [bd_s (by omega) (by omega)]
  exact Nat.le_refl 1
theorem lOk.add {ρ : Nat → Int32} {n s mc mv sec : Nat} {x : Int32} (h : lOk ρ n s) (hn : n < 6) (hc : mc ≤ 5) (hv : 1 ≤ mv) (hv9 : mv ≤ 9) (hs : sec < s) : lOk (rNewT ρ n x (nI mc) (nI mv) (nI sec)) (n + 1) s := by
  obtain ⟨⟨a1, a2, a3, a4, a5, a6, a7⟩, h6, hB⟩ := h
  unfold rNewT
  refine ⟨⟨?_, hn, ?_, a4, a5, fun k hk => ?_, fun k hk => ?_⟩, ?_, ?_⟩
  · rw [upd_ne (by omega), upd_ne (by omega), upd_ne (by omega), upd_ne (by omega), upd_same]
  · rw [upd_ne (by omega), upd_ne (by omega), upd_ne (by omega), upd_ne (by omega), upd_ne (by omega)]; exact a3
  · by_cases e : k = n
    · subst e
      exact ⟨sec, hs, upd_same _ _ _⟩
    · rw [upd_ne (by omega), upd_ne (by omega), upd_ne (by omega), upd_ne (by omega), upd_ne (by omega)]
      exact a6 k (by omega)
  · by_cases e : k = n
    · subst e
      rw [upd_ne (by omega), upd_same]
      exact nI_ne0 hv (by omega)
    · rw [upd_ne (by omega), upd_ne (by omega), upd_ne (by omega), upd_ne (by omega), upd_ne (by omega)]
      exact a7 k (by omega)
  · rw [upd_ne (by omega), upd_ne (by omega), upd_ne (by omega), upd_ne (by omega), upd_ne (by omega)]; exact h6
  · exact ((((hB.head (i := 3) (by decide) (by decide)).free (w := 0) hn (by decide) rfl).putT (w := 1) (M := 5) hn (by decide) rfl rfl hc).putT (w := 2) (M := 9) hn (by decide) rfl rfl hv9).free (w := 3) hn (by decide) rfl
theorem lOk.secs {b : Nat → Int32} {L s : Nat} (h0 : 0 < s) (h24 : s ≤ 24) : ∀ (m : Nat) (Y : Pt × (Nat → Int32)), lOk Y.2 0 s → lOk (qSecs b L s m Y).2 0 s
  | 0, _, h => h
  | m + 1, Y, h => by
    by_cases c : (pWrd b Y.1 1 || pWrd b Y.1 2) = true
    · rw [show qSecs b L s (m + 1) Y = qSecs b L s m (qOne b L s (if pWrd b Y.1 1 = true then 10 else 34) Y) from if_pos c]
      refine lOk.secs h0 h24 m _ ?_
      obtain ⟨P, ρ⟩ := Y
      by_cases e : pR (qSec b L s P) = 0
      · rw [qOne_t e]
        exact h.sec (by split <;> simp) (by have := qSecV_in (b := b) (L := L) (P := P) h0; omega)
      · rw [qOne_f e]
        exact h
    · rw [qSecs_f (Bool.eq_false_iff.mpr c)]; exact h
theorem lOk.tr {b : Nat → Int32} {L s : Nat} {Y : Yt} (h0 : 0 < s) (h : lOk Y.2.1 Y.2.2 s) : lOk (qTr b L s Y).2.1 (qTr b L s Y).2.2 s ∧ Y.2.2 ≤ (qTr b L s Y).2.2 ∧ (pR (qTr b L s Y).1 = 0 → 1 ≤ (qTr b L s Y).2.2) := by
  obtain ⟨P, ρ, n⟩ := Y
  show lOk (qRow b L n s ρ P) (if pR (qF b L n s ρ P) = 0 then n + 1 else n) s ∧ n ≤ (if pR (qF b L n s ρ P) = 0 then n + 1 else n) ∧ (pR (qF b L n s ρ P) = 0 → 1 ≤ (if pR (qF b L n s ρ P) = 0 then n + 1 else n))
  unfold qRow
  by_cases c : pR (qF b L n s ρ P) = 0
  · rw [if_pos c, if_pos c]
    have h1 := pLook_in (b := b) (lo := 1) (hi := 5) (P := qB b L n ρ P) (by decide)
    have h2 := pLook_in (b := b) (lo := 1) (hi := 9) (P := qC b L n ρ P) (by decide)
    have h3 := (pLook_in (b := b) (lo := 0) (hi := s - 1) (P := qD b L n ρ P) (Nat.zero_le _)).2
    exact ⟨h.add (qF_z c).2.1 h1.2 h2.1 h2.2 (by show pVl b 0 (s - 1) (qD b L n ρ P) < s; omega), Nat.le_succ n, fun _ => by omega⟩
  · rw [if_neg c, if_neg c]
    exact ⟨h, Nat.le_refl n, fun e => absurd e c⟩
theorem lOk.trs {b : Nat → Int32} {L s : Nat} (h0 : 0 < s) : ∀ (m : Nat) (Y : Yt), lOk Y.2.1 Y.2.2 s → (pR Y.1 = 0 → 1 ≤ Y.2.2) → lOk (qTrs b L s m Y).2.1 (qTrs b L s m Y).2.2 s ∧ (pR (qTrs b L s m Y).1 = 0 → 1 ≤ (qTrs b L s m Y).2.2)
  | 0, _, h, h1 => ⟨h, h1⟩
  | m + 1, Y, h, h1 => by
    by_cases c : pR Y.1 = 0 ∧ pK Y.1 ≠ 0
    · rw [show qTrs b L s (m + 1) Y = qTrs b L s m (qTr b L s Y) from if_pos c]
      obtain ⟨h2, -, h3⟩ := h.tr (b := b) (L := L) h0
      exact lOk.trs h0 m _ h2 h3
    · rw [qTrs_f c]; exact ⟨h, h1⟩
/-- what a text without an error lays is a railway -/
theorem lF_RV {b : Nat → Int32} {L : Nat} {P : Pt} (h : pR (lF b L P).1 = 0) : RV (lF b L P).2.1 (lF b L P).2.2 (lS b L P) := by
  have hs := lS_in (b := b) (L := L) (P := P)
  have h1 := lOk.secs (b := b) (L := L) (s := lS b L P) (by omega) hs.2 501 (lD b L P, rBeg (nI (lS b L P)) (nI (lC b L P))) (lOk_beg hs.1 hs.2)
  obtain ⟨h2, -, h3⟩ := lOk.tr (b := b) (L := L) (s := lS b L P) (Y := ((lE b L P).1, (lE b L P).2, 0)) (by omega) h1
  obtain ⟨h4, h5⟩ := lOk.trs (b := b) (L := L) (s := lS b L P) (by omega) 7 _ h2 h3
  exact ⟨⟨h4.1, 0, by decide, h4.2.1⟩, h5 h, h4.2.2⟩
section ModelInit
variable {G : Gl} {κ : Kx} {d : Nat} {Q : Option Value → Hp → Prop} {X : String → Hp → Prop} {cs ss : Nat} {σ : Hp} {a : Nat} {r : Nat → Nat} {z : Nat → Int32} {A : Nat → Nat → Int32} {rw : Nat} {ρ η : Nat → Int32}
theorem sp_thrown (hΓ : Ok G κ mX13_thrown (d + 0) Q X) (h : MV G σ a r z A rw ρ η) (hq : Q (some (.int (z 9))) σ) : AW G κ cs ss 0 [lR a] [] σ := by
  refine sX13_thrown_0 hΓ rfl ?_
  refine sX13_thrown_1 hΓ h.o rfl ?_
  exact sX13_thrown_4 hΓ hq
theorem mArr_K {j : Nat} (h : mArr j) : j ∈ [25, 15, 13, 6, 5, 4, 3, 2, 1, 0] := by
  rcases h with h | h | h | h
  · match j, h with
    | 0, _ | 1, _ | 2, _ | 3, _ | 4, _ | 5, _ | 6, _ => decide
  · subst h; decide
  · subst h; decide
  · subst h; decide
theorem K_mArr {j : Nat} (h : j ∈ [25, 15, 13, 6, 5, 4, 3, 2, 1, 0]) : mArr j := by
  simp only [List.mem_cons, List.not_mem_nil, or_false] at h
  unfold mArr
  omega
theorem mB0_key {k : Nat} (h : keyP k) : (fun _ => fun _ => 0 : Nat → Nat → Int32) k = mB0 k := by
  unfold keyP at h
  exact (if_neg (by omega)).symm
theorem mi_end {pc : Nat} {M : List (Option LV)} {st : List Value} {σ0 : Hp} {fs fs0 : List Value} {q : Nat} {g : Nat → Option Nat} (h : NI G σ0 σ a [25, 15, 13, 6, 5, 4, 3, 2, 1, 0] r fs) (hqa : q ≠ a) (hqr : ∀ j, mArr j → r j ≠ q) (hqn : σ0 q = none) (hg : ∀ j, j < 8 → g j = some (gK G (kwT j))) (hf : fs0 = mFs (fun j => if j = 26 then q else r j) mZ0 (r 0)) (kk : ∀ σ1 : Hp, MV G σ1 a (fun j => if j = 26 then q else r j) mZ0 (fun _ _ => 0) 0 (fun _ => 0) (fun _ => 0) → (∀ x e, x ≠ a → σ0 x = some e → σ1 x = some e) → (∀ k, mArr k ∨ k = 26 → σ0 ((fun j => if j = 26 then q else r j) k) = none) → AW G κ cs ss pc M st σ1) : AW G κ cs ss pc M st (hset (hset σ q (eR G 3 8 g)) a (.inr (10, fs0))) := by
  obtain ⟨h1, h2, h3, h4, h5⟩ := h
  have h26 : ∀ j, mArr j → j ≠ 26 := fun j hj e => by subst e; rcases hj with h | h | h | h <;> omega
  subst hf
  refine kk _ ?_ (fun x e hx he => ?_) (fun k hk => ?_)
  · refine MV.of (A := fun _ _ => 0) (rw := 0) ⟨hset_same _ _ _, Or.inl rfl, fun k hk => ?_, ⟨g, ?_, hg⟩, fun i j hi hj e => ?_, fun i hi => ?_⟩
    · obtain ⟨h6, h7, -⟩ := h2 k (mArr_K hk)
      show hset _ a _ (if k = 26 then q else r k) = _
      rw [if_neg (h26 k hk), hset_ne h7, hset_ne (hqr k hk)]
      exact h6
    · show hset _ a _ (if 26 = 26 then q else r 26) = _
      rw [if_pos rfl, hset_ne hqa, hset_same]
    · have e : (if i = 26 then q else r i) = (if j = 26 then q else r j) := e
      rcases hi with hi | hi
      · rcases hj with hj | hj
        · rw [if_neg (h26 i hi), if_neg (h26 j hj)] at e
          exact h3 i (mArr_K hi) j (mArr_K hj) e
        · rw [if_neg (h26 i hi), if_pos hj] at e
          exact absurd e (hqr i hi)
      · rcases hj with hj | hj
        · rw [if_pos hi, if_neg (h26 j hj)] at e
          exact absurd e.symm (hqr j hj)
        · rw [hi, hj]
    · show (if i = 26 then q else r i) ≠ a
      rcases hi with hi | hi
      · rw [if_neg (h26 i hi)]; exact (h2 i (mArr_K hi)).2.1
      · rw [if_pos hi]; exact hqa
  · rw [hset_ne hx]
    have h6 := h4 x e hx he
    by_cases e9 : x = q
    · rw [e9, hqn] at he; cases he
    · rw [hset_ne e9]; exact h6
  · show σ0 (if k = 26 then q else r k) = none
    rcases hk with hk | hk
    · rw [if_neg (h26 k hk)]; exact (h2 k (mArr_K hk)).2.2
    · rw [if_pos hk]; exact hqn
theorem mf_old {σ0 σ1 σ2 : Hp} {e : va_E} {x : Nat} (g : ∀ k, mArr k ∨ k = 26 → σ0 (r k) = none) (f : ∀ x e, x ≠ a → σ0 x = some e → σ1 x = some e) (F : MF a r σ1 σ2) (hx : x ≠ a) (he : σ0 x = some e) : σ2 x = some e :=
  (F x hx (fun k hk e9 => by rw [e9, g k (Or.inl hk)] at he; cases he)).trans (f x e hx he)
theorem sp_mInit (hΓ : Ok G κ mX13_init (d + 3) Q X) (h0 : σ a = some (.inr (10, [.null, .null, .null, .null, .null, .null, .null, .null, .int 0, .int 0, .int 0, .int 0, .int 0, .null, .int 0, .null, .int 0, .int 0, .int 0, .int 0, .int 0, .int 0, .int 0, .int 0, .int 0, .null, .null, .int 0, .int 0]))) (hq : ∀ (σ1 : Hp) (r : Nat → Nat), MP G σ1 a r mZ0 mB0 → (∀ x e, x ≠ a → σ x = some e → σ1 x = some e) → (∀ k, mArr k ∨ k = 26 → σ (r k) = none) → Q none σ1) : AW G κ (cs + 11) (ss + 3010) 0 [lR a] [] σ := by
  refine sX13_init_0 hΓ rfl ?_
  refine sX13_init_1 hΓ (Nat.le_of_ble_eq_true rfl) ?_
  have h : NI G σ σ a [] (fun _ => 0) [.null, .null, .null, .null, .null, .null, .null, .null, .int 0, .int 0, .int 0, .int 0, .int 0, .null, .int 0, .null, .int 0, .int 0, .int 0, .int 0, .int 0, .int 0, .int 0, .int 0, .int 0, .null, .null, .int 0, .int 0] := ⟨h0, fun k hk => (List.not_mem_nil hk).elim, fun k hk => (List.not_mem_nil hk).elim, fun x e hx he => he, fun x hx => Or.inl hx⟩
  refine sX13_init_4 hΓ rfl ?_
  refine sX13_init_5 hΓ ?_
  refine sX13_init_8 hΓ (n := 184) rfl (by decide) (fun q0 hq0 _ => ?_)
  refine sX13_init_10 hΓ (h.oq hq0) (Nat.le_of_ble_eq_true rfl) (ni_arr h 0 (by decide) hq0 rfl (fun r => [.ref (r 0), .null, .null, .null, .null, .null, .null, .null, .int 0, .int 0, .int 0, .int 0, .int 0, .null, .int 0, .null, .int 0, .int 0, .int 0, .int 0, .int 0, .int 0, .int 0, .int 0, .int 0, .null, .null, .int 0, .int 0]) rfl (fun σ1 r1 h1 => ?_))
  refine sX13_init_13 hΓ rfl ?_
  refine sX13_init_14 hΓ ?_
  refine sX13_init_17 hΓ (n := 184) rfl (by decide) (fun q1 hq1 _ => ?_)
  refine sX13_init_19 hΓ (h1.oq hq1) (Nat.le_of_ble_eq_true rfl) (ni_arr h1 1 (by decide) hq1 rfl (fun r => [.ref (r 0), .ref (r 1), .null, .null, .null, .null, .null, .null, .int 0, .int 0, .int 0, .int 0, .int 0, .null, .int 0, .null, .int 0, .int 0, .int 0, .int 0, .int 0, .int 0, .int 0, .int 0, .int 0, .null, .null, .int 0, .int 0]) rfl (fun σ2 r2 h2 => ?_))
  refine sX13_init_22 hΓ rfl ?_
  refine sX13_init_23 hΓ ?_
  refine sX13_init_26 hΓ (n := 184) rfl (by decide) (fun q2 hq2 _ => ?_)
  refine sX13_init_28 hΓ (h2.oq hq2) (Nat.le_of_ble_eq_true rfl) (ni_arr h2 2 (by decide) hq2 rfl (fun r => [.ref (r 0), .ref (r 1), .ref (r 2), .null, .null, .null, .null, .null, .int 0, .int 0, .int 0, .int 0, .int 0, .null, .int 0, .null, .int 0, .int 0, .int 0, .int 0, .int 0, .int 0, .int 0, .int 0, .int 0, .null, .null, .int 0, .int 0]) rfl (fun σ3 r3 h3 => ?_))
  refine sX13_init_31 hΓ rfl ?_
  refine sX13_init_32 hΓ ?_
  refine sX13_init_35 hΓ (n := 184) rfl (by decide) (fun q3 hq3 _ => ?_)
  refine sX13_init_37 hΓ (h3.oq hq3) (Nat.le_of_ble_eq_true rfl) (ni_arr h3 3 (by decide) hq3 rfl (fun r => [.ref (r 0), .ref (r 1), .ref (r 2), .ref (r 3), .null, .null, .null, .null, .int 0, .int 0, .int 0, .int 0, .int 0, .null, .int 0, .null, .int 0, .int 0, .int 0, .int 0, .int 0, .int 0, .int 0, .int 0, .int 0, .null, .null, .int 0, .int 0]) rfl (fun σ4 r4 h4 => ?_))
  refine sX13_init_40 hΓ rfl ?_
  refine sX13_init_41 hΓ ?_
  refine sX13_init_44 hΓ (n := 184) rfl (by decide) (fun q4 hq4 _ => ?_)
  refine sX13_init_46 hΓ (h4.oq hq4) (Nat.le_of_ble_eq_true rfl) (ni_arr h4 4 (by decide) hq4 rfl (fun r => [.ref (r 0), .ref (r 1), .ref (r 2), .ref (r 3), .ref (r 4), .null, .null, .null, .int 0, .int 0, .int 0, .int 0, .int 0, .null, .int 0, .null, .int 0, .int 0, .int 0, .int 0, .int 0, .int 0, .int 0, .int 0, .int 0, .null, .null, .int 0, .int 0]) rfl (fun σ5 r5 h5 => ?_))
  refine sX13_init_49 hΓ rfl ?_
  refine sX13_init_50 hΓ ?_
  refine sX13_init_53 hΓ (n := 1472) rfl (by decide) (fun q5 hq5 _ => ?_)
  refine sX13_init_55 hΓ (h5.oq hq5) (Nat.le_of_ble_eq_true rfl) (ni_arr h5 5 (by decide) hq5 rfl (fun r => [.ref (r 0), .ref (r 1), .ref (r 2), .ref (r 3), .ref (r 4), .ref (r 5), .null, .null, .int 0, .int 0, .int 0, .int 0, .int 0, .null, .int 0, .null, .int 0, .int 0, .int 0, .int 0, .int 0, .int 0, .int 0, .int 0, .int 0, .null, .null, .int 0, .int 0]) rfl (fun σ6 r6 h6 => ?_))
  refine sX13_init_58 hΓ rfl ?_
  refine sX13_init_59 hΓ ?_
  refine sX13_init_61 hΓ (n := 6) rfl (by decide) (fun q6 hq6 _ => ?_)
  refine sX13_init_63 hΓ (h6.oq hq6) (Nat.le_of_ble_eq_true rfl) (ni_arr h6 6 (by decide) hq6 rfl (fun r => [.ref (r 0), .ref (r 1), .ref (r 2), .ref (r 3), .ref (r 4), .ref (r 5), .ref (r 6), .null, .int 0, .int 0, .int 0, .int 0, .int 0, .null, .int 0, .null, .int 0, .int 0, .int 0, .int 0, .int 0, .int 0, .int 0, .int 0, .int 0, .null, .null, .int 0, .int 0]) rfl (fun σ7 r7 h7 => ?_))
  refine sX13_init_66 hΓ rfl ?_
  refine sX13_init_67 hΓ rfl ?_
  refine sX13_init_68 hΓ h7.o rfl ?_
  refine sX13_init_71 hΓ h7.o (Nat.le_of_ble_eq_true rfl) (ni_fld h7 [.ref (r7 0), .ref (r7 1), .ref (r7 2), .ref (r7 3), .ref (r7 4), .ref (r7 5), .ref (r7 6), .ref (r7 0), .int 0, .int 0, .int 0, .int 0, .int 0, .null, .int 0, .null, .int 0, .int 0, .int 0, .int 0, .int 0, .int 0, .int 0, .int 0, .int 0, .null, .null, .int 0, .int 0] rfl (fun σ8 h8 => ?_))
  refine sX13_init_74 hΓ rfl ?_
  refine sX13_init_75 hΓ ?_
  refine sX13_init_77 hΓ (n := 24) rfl (by decide) (fun q13 hq13 _ => ?_)
  refine sX13_init_79 hΓ (h8.oq hq13) (Nat.le_of_ble_eq_true rfl) (ni_arr h8 13 (by decide) hq13 rfl (fun r => [.ref (r 0), .ref (r 1), .ref (r 2), .ref (r 3), .ref (r 4), .ref (r 5), .ref (r 6), .ref (r 0), .int 0, .int 0, .int 0, .int 0, .int 0, .ref (r 13), .int 0, .null, .int 0, .int 0, .int 0, .int 0, .int 0, .int 0, .int 0, .int 0, .int 0, .null, .null, .int 0, .int 0]) rfl (fun σ9 r9 h9 => ?_))
  refine sX13_init_82 hΓ rfl ?_
  refine sX13_init_83 hΓ ?_
  refine sX13_init_86 hΓ (n := 500) rfl (by decide) (fun q15 hq15 _ => ?_)
  refine sX13_init_88 hΓ (h9.oq hq15) (Nat.le_of_ble_eq_true rfl) (ni_arr h9 15 (by decide) hq15 rfl (fun r => [.ref (r 0), .ref (r 1), .ref (r 2), .ref (r 3), .ref (r 4), .ref (r 5), .ref (r 6), .ref (r 0), .int 0, .int 0, .int 0, .int 0, .int 0, .ref (r 13), .int 0, .ref (r 15), .int 0, .int 0, .int 0, .int 0, .int 0, .int 0, .int 0, .int 0, .int 0, .null, .null, .int 0, .int 0]) rfl (fun σ10 r10 h10 => ?_))
  refine sX13_init_91 hΓ rfl ?_
  refine sX13_init_92 hΓ ?_
  refine sX13_init_93 hΓ h10.o (Nat.le_of_ble_eq_true rfl) (ni_fld h10 [.ref (r10 0), .ref (r10 1), .ref (r10 2), .ref (r10 3), .ref (r10 4), .ref (r10 5), .ref (r10 6), .ref (r10 0), .int 0, .int 0, .int 0, .int 0, .int 0, .ref (r10 13), .int 0, .ref (r10 15), .int 0, .int 0, .int 0, .int 0, .int 0, .int 0, .int 0, .int (-1), .int 0, .null, .null, .int 0, .int 0] rfl (fun σ11 h11 => ?_))
  refine sX13_init_96 hΓ rfl ?_
  refine sX13_init_97 hΓ ?_
  refine sX13_init_99 hΓ (n := 80) rfl (by decide) (fun q25 hq25 _ => ?_)
  refine sX13_init_101 hΓ (h11.oq hq25) (Nat.le_of_ble_eq_true rfl) (ni_arr h11 25 (by decide) hq25 rfl (fun r => [.ref (r 0), .ref (r 1), .ref (r 2), .ref (r 3), .ref (r 4), .ref (r 5), .ref (r 6), .ref (r 0), .int 0, .int 0, .int 0, .int 0, .int 0, .ref (r 13), .int 0, .ref (r 15), .int 0, .int 0, .int 0, .int 0, .int 0, .int 0, .int 0, .int (-1), .int 0, .ref (r 25), .null, .int 0, .int 0]) rfl (fun σ12 r12 h12 => ?_))
  refine sX13_init_104 hΓ rfl ?_
  refine sX13_init_105 hΓ ?_
  refine sX13_init_107 hΓ (n := 8) rfl (by decide) (fun q26 hq26 _ => ?_)
  refine sX13_init_110 hΓ ?_
  refine sX13_init_111 hΓ ?_
  refine sX13_init_112 hΓ ?_
  refine sX13_init_114w hΓ (j := 0) rfl (by decide) (by decide) ?_
  refine sX13_init_115 hΓ ?_
  refine sX13_init_116 hΓ ?_
  refine sX13_init_117 hΓ ?_
  refine sX13_init_119w hΓ (j := 1) rfl (by decide) (by decide) ?_
  refine sX13_init_120 hΓ ?_
  refine sX13_init_121 hΓ ?_
  refine sX13_init_122 hΓ ?_
  refine sX13_init_124w hΓ (j := 2) rfl (by decide) (by decide) ?_
  refine sX13_init_125 hΓ ?_
  refine sX13_init_126 hΓ ?_
  refine sX13_init_127 hΓ ?_
  refine sX13_init_129w hΓ (j := 3) rfl (by decide) (by decide) ?_
  refine sX13_init_130 hΓ ?_
  refine sX13_init_131 hΓ ?_
  refine sX13_init_132 hΓ ?_
  refine sX13_init_134w hΓ (j := 4) rfl (by decide) (by decide) ?_
  refine sX13_init_135 hΓ ?_
  refine sX13_init_136 hΓ ?_
  refine sX13_init_137 hΓ ?_
  refine sX13_init_139w hΓ (j := 5) rfl (by decide) (by decide) ?_
  refine sX13_init_140 hΓ ?_
  refine sX13_init_141 hΓ ?_
  refine sX13_init_143 hΓ ?_
  refine sX13_init_145w hΓ (j := 6) rfl (by decide) (by decide) ?_
  refine sX13_init_146 hΓ ?_
  refine sX13_init_147 hΓ ?_
  refine sX13_init_149 hΓ ?_
  refine sX13_init_151w hΓ (j := 7) rfl (by decide) (by decide) ?_
  refine sX13_init_152 hΓ (h12.oq hq26) (Nat.le_of_ble_eq_true rfl) ?_
  have hqa : q26 ≠ a := fun e => by rw [e, h12.1] at hq26; cases hq26
  have hqn : σ q26 = none := (h12.2.2.2.2 q26 hq26).resolve_right hqa
  have hqr : ∀ j, mArr j → r12 j ≠ q26 := fun j hj e => by
    have h9 := (h12.2.1 j (mArr_K hj)).1
    rw [e, hq26] at h9
    cases h9
  refine mi_end h12 hqa hqr hqn ?_ rfl (fun σ9 h9 f9 g9 => ?_)
  · intro j hj
    match j, hj with
    | 0, _ | 1, _ | 2, _ | 3, _ | 4, _ | 5, _ | 6, _ | 7, _ => rfl
  refine sX13_init_155 hΓ rfl ?_
  refine sX13_init_156 hΓ ?_
  refine sX13_init_158 hΓ ?_
  refine sX13_init_159 hΓ 0 0 (Nat.le_of_ble_eq_true rfl) h9.o (fun κ_159 hΓ_159 => sp_begin hΓ_159 h9 (fun σ61 h61 f61 => ?_))
  show AW G κ _ _ 162 _ _ _
  refine sX13_init_162 hΓ rfl ?_
  refine sX13_init_163 hΓ h61.o rfl ?_
  refine sX13_init_166 hΓ ?_
  refine sX13_init_168 hΓ ?_
  refine sX13_init_169 hΓ h61.row (j := 13) rfl (by decide) (by decide) (mv_row h61 (fun σ62 h62 f62 => ?_))
  refine sX13_init_170 hΓ rfl ?_
  refine sX13_init_171 hΓ h62.o rfl ?_
  refine sX13_init_174 hΓ ?_
  refine sX13_init_176 hΓ ?_
  refine sX13_init_177 hΓ h62.row (j := 14) rfl (by decide) (by decide) (mv_row h62 (fun σ63 h63 f63 => ?_))
  refine sX13_init_178 hΓ rfl ?_
  refine sX13_init_179 hΓ h63.o rfl ?_
  refine sX13_init_182 hΓ ?_
  refine sX13_init_184 hΓ ?_
  refine sX13_init_185 hΓ h63.row (j := 40) rfl (by decide) (by decide) (mv_row h63 (fun σ64 h64 f64 => ?_))
  refine sX13_init_186 hΓ rfl ?_
  refine sX13_init_187 hΓ ?_
  refine sX13_init_188 hΓ ?_
  refine sX13_init_189 hΓ ?_
  refine sX13_init_190 hΓ ?_
  refine sX13_init_191 hΓ 0 0 (Nat.le_of_ble_eq_true rfl) h64.o (fun κ_191 hΓ_191 => sp_addTrain hΓ_191 (n := 0) h64 rfl (by decide) (fun σ65 h65 f65 => ?_))
  show AW G κ _ _ 194 _ _ _
  refine sX13_init_194 hΓ rfl ?_
  refine sX13_init_195 hΓ ?_
  refine sX13_init_196 hΓ ?_
  refine sX13_init_197 hΓ ?_
  refine sX13_init_198 hΓ ?_
  refine sX13_init_199 hΓ 0 0 (Nat.le_of_ble_eq_true rfl) h65.o (fun κ_199 hΓ_199 => sp_addTrain hΓ_199 (n := 1) h65 rfl (by decide) (fun σ66 h66 f66 => ?_))
  show AW G κ _ _ 202 _ _ _
  exact sX13_init_202 hΓ (hq _ _ (MP.mk h66 rfl (fun k hk => mB0_key hk)) (fun x e hx he => (mf_old g9 f9 (((((f61.tr f62).tr f63).tr f64).tr f65).tr f66) hx he)) g9)
end ModelInit
