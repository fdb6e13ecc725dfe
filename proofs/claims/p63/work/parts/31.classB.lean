/-! the class: a railway and its parts in the heap -/
abbrev sV (S : Nat → Int32) (t q : Nat) : List Value := [.int (S 0), .int (S 1), .int (S 2), .int (S 3), .int (S 4), .int (S 5), .int (S 6), .ref t, .ref q]
abbrev uV (U : Nat → Int32) (p : Nat) : List Value := [.ref p, .int (U 1), .int (U 2), .int (U 3), .int (U 4)]
/-- a queue: its object, its packets -/
def QG (G : Gl) (σ : Hp) (q p : Nat) (U K : Nat → Int32) : Prop := σ q = some (.inr (4, uV U p)) ∧ σ p = some (eI G 12 K)
def QF (q p : Nat) (σ σ1 : Hp) : Prop := ∀ x, x ≠ q → x ≠ p → σ1 x = σ x
theorem QF.rf {q p : Nat} {σ : Hp} : QF q p σ σ := fun _ _ _ => rfl
theorem QF.tr {q p : Nat} {σ σ1 σ2 : Hp} (h1 : QF q p σ σ1) (h2 : QF q p σ1 σ2) : QF q p σ σ2 := fun x a b => (h2 x a b).trans (h1 x a b)
theorem QG.ne {G : Gl} {σ : Hp} {q p : Nat} {U K : Nat → Int32} (h : QG G σ q p U K) : q ≠ p := fun e => by
  have h1 := h.1
  rw [e, h.2] at h1
  cases h1
theorem QG.o {G : Gl} {σ : Hp} {q p : Nat} {U K : Nat → Int32} (h : QG G σ q p U K) : σ q = some (.inr (4, uV U p)) := h.1
theorem QG.pk {G : Gl} {σ : Hp} {q p : Nat} {U K : Nat → Int32} (h : QG G σ q p U K) : σ p = some (eI G 12 K) := h.2
theorem qg_U {G : Gl} {κ : Kx} {cs ss pc : Nat} {L : List (Option LV)} {st : List Value} {σ : Hp} {q p : Nat} {U K : Nat → Int32} (h : QG G σ q p U K) {fs : List Value} (U1 : Nat → Int32) (hf : fs = uV U1 p) (kk : ∀ σ1 : Hp, QG G σ1 q p U1 K → QF q p σ σ1 → AW G κ cs ss pc L st σ1) : AW G κ cs ss pc L st (hset σ q (.inr (4, fs))) := by
  subst hf
  exact kk _ ⟨hset_same _ _ _, by rw [hset_ne (Ne.symm h.ne)]; exact h.2⟩ (fun x a _ => hset_ne a)
theorem qg_K {G : Gl} {κ : Kx} {cs ss pc : Nat} {L : List (Option LV)} {st : List Value} {σ : Hp} {q p : Nat} {U K : Nat → Int32} (h : QG G σ q p U K) {f : Nat → Int32} (kk : ∀ σ1 : Hp, QG G σ1 q p U f → QF q p σ σ1 → AW G κ cs ss pc L st σ1) : AW G κ cs ss pc L st (hset σ p (eI G 12 f)) :=
  kk _ ⟨by rw [hset_ne h.ne]; exact h.1, hset_same _ _ _⟩ (fun x _ b => hset_ne b)
/-- a railway: its object at a, its trains' array t, its queue, its trains -/
def RG (G : Gl) (σ : Hp) (a t q p : Nat) (tr : Nat → Nat) (n : Nat) (S U K : Nat → Int32) (T : Nat → Nat → Int32) : Prop :=
  σ a = some (.inr (6, sV S t q)) ∧ σ t = some (eR G 2 n (fun j => some (tr j))) ∧ (∀ j, j < n → σ (tr j) = some (.inr (9, tV (T j)))) ∧ QG G σ q p U K ∧ (∀ i j, i < n → j < n → tr i = tr j → i = j) ∧ n ≤ 6
def inR (a t q p : Nat) (tr : Nat → Nat) (n x : Nat) : Prop := x = a ∨ x = t ∨ x = q ∨ x = p ∨ ∃ j, j < n ∧ x = tr j
def CF (a t q p : Nat) (tr : Nat → Nat) (n : Nat) (σ σ1 : Hp) : Prop := ∀ x, ¬ inR a t q p tr n x → σ1 x = σ x
theorem CF.rf {a t q p : Nat} {tr : Nat → Nat} {n : Nat} {σ : Hp} : CF a t q p tr n σ σ := fun _ _ => rfl
theorem CF.tr {a t q p : Nat} {tr : Nat → Nat} {n : Nat} {σ σ1 σ2 : Hp} (h1 : CF a t q p tr n σ σ1) (h2 : CF a t q p tr n σ1 σ2) : CF a t q p tr n σ σ2 := fun x h => (h2 x h).trans (h1 x h)
def updT (T : Nat → Nat → Int32) (k : Nat) (v : Nat → Int32) : Nat → Nat → Int32 := fun j => if j = k then v else T j
theorem updT_same (T : Nat → Nat → Int32) (k : Nat) (v : Nat → Int32) : updT T k v k = v := if_pos rfl
theorem updT_ne {T : Nat → Nat → Int32} {k j : Nat} {v : Nat → Int32} (h : j ≠ k) : updT T k v j = T j := if_neg h
theorem obj_ne {σ : Hp} {x y i j : Nat} {fs gs : List Value} (h1 : σ x = some (.inr (i, fs))) (h2 : σ y = some (.inr (j, gs))) (h : i ≠ j) : x ≠ y := fun e => by
  rw [e, h2] at h1
  injection h1 with h1
  injection h1 with h1
  injection h1 with h1 _
  exact h h1.symm
theorem oa_ne {σ : Hp} {x y i : Nat} {fs : List Value} {e : Nat × vp_A} (h1 : σ x = some (.inr (i, fs))) (h2 : σ y = some (.inl e)) : x ≠ y := fun e => by
  rw [e, h2] at h1
  cases h1
section ClassRail
variable {G : Gl} {κ : Kx} {cs ss pc : Nat} {L : List (Option LV)} {st : List Value} {σ σ1 : Hp} {a t q p n : Nat} {tr : Nat → Nat} {S U K : Nat → Int32} {T : Nat → Nat → Int32}
theorem RG.o (h : RG G σ a t q p tr n S U K T) : σ a = some (.inr (6, sV S t q)) := h.1
theorem RG.ts (h : RG G σ a t q p tr n S U K T) : σ t = some (eR G 2 n (fun j => some (tr j))) := h.2.1
theorem RG.tn (h : RG G σ a t q p tr n S U K T) {j : Nat} (hj : j < n) : σ (tr j) = some (.inr (9, tV (T j))) := h.2.2.1 j hj
theorem RG.qg (h : RG G σ a t q p tr n S U K T) : QG G σ q p U K := h.2.2.2.1
theorem RG.n6 (h : RG G σ a t q p tr n S U K T) : n ≤ 6 := h.2.2.2.2.2
theorem RG.inj (h : RG G σ a t q p tr n S U K T) : ∀ i j, i < n → j < n → tr i = tr j → i = j := h.2.2.2.2.1
theorem RG.tp (h : RG G σ a t q p tr n S U K T) : t ≠ p := fun e => by
  have h1 := h.ts
  rw [e, h.qg.2] at h1
  injection h1 with h1
  injection h1 with h1
  injection h1 with _ h1
  injection h1 with _ h1
  cases h1
theorem RG.setS (h : RG G σ a t q p tr n S U K T) (S1 : Nat → Int32) : RG G (hset σ a (.inr (6, sV S1 t q))) a t q p tr n S1 U K T ∧ CF a t q p tr n σ (hset σ a (.inr (6, sV S1 t q))) := by
  obtain ⟨h1, h2, h3, h4, h5, h6⟩ := h
  refine ⟨⟨hset_same _ _ _, ?_, fun j hj => ?_, ⟨?_, ?_⟩, h5, h6⟩, fun x hx => hset_ne (fun e => hx (Or.inl e))⟩
  · rw [hset_ne (Ne.symm (oa_ne h1 h2))]; exact h2
  · rw [hset_ne (obj_ne (h3 j hj) h1 (by decide))]; exact h3 j hj
  · rw [hset_ne (obj_ne h4.1 h1 (by decide))]; exact h4.1
  · rw [hset_ne (Ne.symm (oa_ne h1 h4.2))]; exact h4.2
theorem RG.setT (h : RG G σ a t q p tr n S U K T) {k : Nat} (hk : k < n) (v : Nat → Int32) : RG G (hset σ (tr k) (.inr (9, tV v))) a t q p tr n S U K (updT T k v) ∧ CF a t q p tr n σ (hset σ (tr k) (.inr (9, tV v))) := by
  obtain ⟨h1, h2, h3, h4, h5, h6⟩ := h
  have hk0 := h3 k hk
  refine ⟨⟨?_, ?_, fun j hj => ?_, ⟨?_, ?_⟩, h5, h6⟩, fun x hx => hset_ne (fun e => hx (Or.inr (Or.inr (Or.inr (Or.inr ⟨k, hk, e⟩)))))⟩
  · rw [hset_ne (obj_ne h1 hk0 (by decide))]; exact h1
  · rw [hset_ne (Ne.symm (oa_ne hk0 h2))]; exact h2
  · by_cases e : j = k
    · subst e; rw [hset_same, updT_same]
    · rw [hset_ne (fun c => e (h5 j k hj hk c)), updT_ne e]; exact h3 j hj
  · rw [hset_ne (obj_ne h4.1 hk0 (by decide))]; exact h4.1
  · rw [hset_ne (Ne.symm (oa_ne hk0 h4.2))]; exact h4.2
theorem RG.setQ (h : RG G σ a t q p tr n S U K T) {U1 K1 : Nat → Int32} (hq : QG G σ1 q p U1 K1) (f : QF q p σ σ1) : RG G σ1 a t q p tr n S U1 K1 T ∧ CF a t q p tr n σ σ1 := by
  have htp := h.tp
  obtain ⟨h1, h2, h3, h4, h5, h6⟩ := h
  refine ⟨⟨?_, ?_, fun j hj => ?_, hq, h5, h6⟩, fun x hx => f x (fun e => hx (Or.inr (Or.inr (Or.inl e)))) (fun e => hx (Or.inr (Or.inr (Or.inr (Or.inl e)))))⟩
  · rw [f a (obj_ne h1 h4.1 (by decide)) (oa_ne h1 h4.2)]; exact h1
  · rw [f t (Ne.symm (oa_ne h4.1 h2)) htp]; exact h2
  · rw [f (tr j) (obj_ne (h3 j hj) h4.1 (by decide)) (oa_ne (h3 j hj) h4.2)]; exact h3 j hj
theorem rg_S (h : RG G σ a t q p tr n S U K T) {fs : List Value} (S1 : Nat → Int32) (hf : fs = sV S1 t q) (kk : ∀ σ1 : Hp, RG G σ1 a t q p tr n S1 U K T → CF a t q p tr n σ σ1 → AW G κ cs ss pc L st σ1) : AW G κ cs ss pc L st (hset σ a (.inr (6, fs))) := by
  subst hf
  exact kk _ (h.setS S1).1 (h.setS S1).2
end ClassRail
def uPut (U : Nat → Int32) : Nat → Int32 := upd (upd U 1 (U 1 + 1)) 2 (U 2 + 1)
def uSend (U : Nat → Int32) : Nat → Int32 := upd (upd U 1 (U 1 - 1)) 3 (U 3 + 1)
def uClear (U : Nat → Int32) : Nat → Int32 := upd (upd U 4 (U 4 + U 1)) 1 0
def uZero (U : Nat → Int32) : Nat → Int32 := upd (upd (upd (upd U 1 0) 2 0) 3 0) 4 0
/-- packets, a place on; a place back -/
def kOn (K : Nat → Int32) (x : Int32) : Nat → Int32 := upd (va_cpy K K 0 1 11) 0 x
def kBack (K : Nat → Int32) : Nat → Int32 := va_cpy K K 1 0 11
def kCount (K : Nat → Int32) (y : Int32) (m : Nat) : Int32 := sumN (fun j => bI (kFor (K j) y)) m
section ClassQueue
variable {G : Gl} {κ : Kx} {d : Nat} {Q : Option Value → Hp → Prop} {X : String → Hp → Prop} {cs ss : Nat} {σ : Hp} {q p a t n : Nat} {tr : Nat → Nat} {S U K : Nat → Int32} {T : Nat → Nat → Int32}
theorem su_isFull (hΓ : Ok G κ mX6_isFull (d + 0) Q X) (h : QG G σ q p U K) {l : Nat} (hl : U 1 = nI l) (hl12 : l ≤ 12) (hq : Q (some (.int (bI (decide (l = 12))))) σ) : AW G κ cs ss 0 [lR q] [] σ := by
  refine sX6_isFull_0 hΓ rfl ?_
  refine sX6_isFull_1 hΓ h.o rfl ?_
  refine sX6_isFull_4 hΓ ?_
  refine sX6_isFull_6 hΓ (fun c6 => ?_) (fun c6 => ?_)
  · rw [decide_eq_false (by have := nI_ltz (n := 12) hl rfl (by omega) (by decide) c6; omega)] at hq
    refine sX6_isFull_13 hΓ ?_
    exact sX6_isFull_14 hΓ (by first | exact Or.inl rfl | exact Or.inr rfl) hq
  · rw [decide_eq_true (by have : ¬ l < 12 := fun c => c6 (by rw [hl]; exact nI_lt (b := 12) c (by decide)); omega)] at hq
    refine sX6_isFull_9 hΓ ?_
    refine sX6_isFull_10 hΓ ?_
    exact sX6_isFull_14 hΓ (by first | exact Or.inl rfl | exact Or.inr rfl) hq
theorem su_packetAt (hΓ : Ok G κ mX6_packetAt (d + 0) Q X) (h : QG G σ q p U K) {l : Nat} (hl : U 1 = nI l) (hl12 : l ≤ 12) {x : Int32} (hq0 : rIn x 0 (nI l - 1) = false → Q (some (.int (-1))) σ) (hq1 : ∀ k, k < l → x = nI k → Q (some (.int (K k))) σ) : AW G κ cs ss 0 [lR q, lI x] [] σ := by
  refine sX6_packetAt_0 hΓ rfl ?_
  refine sX6_packetAt_1 hΓ (fun c1 => ?_) (fun c1 => ?_)
  · have hq := hq0 (rIn_lo c1)
    refine sX6_packetAt_21 hΓ ?_
    exact sX6_packetAt_22 hΓ hq
  · refine sX6_packetAt_4 hΓ rfl ?_
    refine sX6_packetAt_5 hΓ rfl ?_
    refine sX6_packetAt_6 hΓ h.o rfl ?_
    refine sX6_packetAt_9 hΓ (fun c9 => ?_) (fun c9 => ?_)
    · have hq := hq0 (by rcases Nat.eq_zero_or_pos l with e | e; subst e; exact rIn_hi (Int32.lt_of_lt_of_le (by decide) (Int32.not_lt.mp c1)); rw [show nI l - 1 = nI (l - 1) from pk_sub (b := 1) e]; exact rIn_hi (Int32.lt_of_lt_of_le (show nI (l - 1) < nI l from nI_lt (by omega) (by omega)) (by rw [← hl]; exact c9)))
      refine sX6_packetAt_21 hΓ ?_
      exact sX6_packetAt_22 hΓ hq
    · obtain ⟨k, hk31, hx⟩ := nI_of c1
      have hk : k < l := Nat.lt_of_not_le (fun c => c9 (by rw [hl, hx]; exact nI_le c hk31))
      have hq := hq1 k hk hx
      refine sX6_packetAt_12 hΓ rfl ?_
      refine sX6_packetAt_13 hΓ rfl ?_
      refine sX6_packetAt_14 hΓ h.o rfl ?_
      refine sX6_packetAt_17 hΓ h.pk ?_
      refine sX6_packetAt_18 hΓ (fun c18 => ?_) (fun c18 => absurd (by rw [hx]; exact nI_lt (b := 12) (by omega) (by decide)) c18)
      refine sX6_packetAt_23 hΓ rfl ?_
      refine sX6_packetAt_24 hΓ h.o rfl ?_
      refine sX6_packetAt_27 hΓ rfl ?_
      refine sX6_packetAt_28 hΓ h.pk hx (by omega) (by decide) ?_
      exact sX6_packetAt_29 hΓ hq
theorem su_putLast (hΓ : Ok G κ mX6_putLast (d + 0) Q X) (h : QG G σ q p U K) {l : Nat} (hl : U 1 = nI l) (hl12 : l ≤ 12) {x : Int32} (hq0 : l = 12 → Q (some (.int 0)) σ) (hq1 : l < 12 → ∀ σ1 : Hp, QG G σ1 q p (uPut U) (upd K l x) → QF q p σ σ1 → Q (some (.int 1)) σ1) : AW G κ cs ss 0 [lR q, lI x] [] σ := by
  refine sX6_putLast_0 hΓ rfl ?_
  refine sX6_putLast_1 hΓ h.o rfl ?_
  refine sX6_putLast_4 hΓ (fun c4 => absurd (by rw [← hl]; exact c4) (nI_pos (n := l) (by omega))) (fun c4 => ?_)
  refine sX6_putLast_7 hΓ rfl ?_
  refine sX6_putLast_8 hΓ h.o rfl ?_
  refine sX6_putLast_11 hΓ rfl ?_
  refine sX6_putLast_12 hΓ h.o rfl ?_
  refine sX6_putLast_15 hΓ h.pk ?_
  refine sX6_putLast_16 hΓ (fun c16 => ?_) (fun c16 => ?_)
  · have hl2 : l < 12 := nI_ltz (n := 12) hl rfl (by omega) (by decide) c16
    have hq := hq1 hl2
    refine sX6_putLast_21 hΓ rfl ?_
    refine sX6_putLast_22 hΓ h.o rfl ?_
    refine sX6_putLast_25 hΓ rfl ?_
    refine sX6_putLast_26 hΓ h.o rfl ?_
    refine sX6_putLast_29 hΓ rfl ?_
    refine sX6_putLast_30 hΓ h.pk (j := l) hl hl2 (by decide) (qg_K h (fun σ1 h1 f1 => ?_))
    refine sX6_putLast_31 hΓ rfl ?_
    refine sX6_putLast_32 hΓ ?_
    refine sX6_putLast_33 hΓ h1.o rfl ?_
    refine sX6_putLast_36 hΓ ?_
    refine sX6_putLast_37 hΓ ?_
    refine sX6_putLast_38 hΓ h1.o  (Nat.le_of_ble_eq_true rfl) (qg_U h1 (upd U 1 (U 1 + 1)) rfl (fun σ2 h2 f2 => ?_))
    refine sX6_putLast_41 hΓ rfl ?_
    refine sX6_putLast_42 hΓ ?_
    refine sX6_putLast_43 hΓ h2.o rfl ?_
    refine sX6_putLast_46 hΓ ?_
    refine sX6_putLast_47 hΓ ?_
    refine sX6_putLast_48 hΓ h2.o  (Nat.le_of_ble_eq_true rfl) (qg_U h2 (uPut U) rfl (fun σ3 h3 f3 => ?_))
    refine sX6_putLast_51 hΓ ?_
    exact sX6_putLast_52 hΓ (Or.inr rfl) (hq _ h3 (((QF.rf.tr f1).tr f2).tr f3))
  · have hl2 : ¬ l < 12 := fun c => c16 (by rw [hl]; exact nI_lt (b := 12) c (by decide))
    have hq := hq0 (by omega)
    refine sX6_putLast_19 hΓ ?_
    exact sX6_putLast_20 hΓ (Or.inl rfl) hq
theorem su_putFirst (hΓ : Ok G κ mX6_putFirst (d + 1) Q X) (h : QG G σ q p U K) {l : Nat} (hl : U 1 = nI l) (hl12 : l ≤ 12) {x : Int32} (hq0 : l = 12 → Q (some (.int 0)) σ) (hq1 : l < 12 → ∀ σ1 : Hp, QG G σ1 q p (uPut U) (kOn K x) → QF q p σ σ1 → Q (some (.int 1)) σ1) : AW G κ cs ss 0 [lR q, lI x] [] σ := by
  refine sX6_putFirst_0 hΓ rfl ?_
  refine sX6_putFirst_1 hΓ 0 0 (Nat.le_of_ble_eq_true rfl) h.o (fun κ_1 hΓ_1 => su_isFull hΓ_1 h hl hl12 ?_)
  show AW G κ _ _ 4 _ _ _
  refine sX6_putFirst_4 hΓ (fun c4 => ?_) (fun c4 => ?_)
  · have e := bI_0 c4
    have hl2 : l < 12 := by have := of_decide_eq_false e; omega
    have hq := hq1 hl2
    refine sX6_putFirst_9 hΓ rfl ?_
    refine sX6_putFirst_10 hΓ h.o rfl ?_
    refine sX6_putFirst_13 hΓ ?_
    refine sX6_putFirst_14 hΓ rfl ?_
    refine sX6_putFirst_15 hΓ h.o rfl ?_
    refine sX6_putFirst_18 hΓ ?_
    refine sX6_putFirst_19 hΓ ?_
    refine sX6_putFirst_21 hΓ (Nat.le_of_ble_eq_true rfl) h.pk h.pk (i := 0) (j := 1) (n := 11) rfl rfl rfl (by decide) (by decide) (by decide) (by decide) (qg_K h (fun σ1 h1 f1 => ?_))
    refine sX6_putFirst_24 hΓ rfl ?_
    refine sX6_putFirst_25 hΓ h1.o rfl ?_
    refine sX6_putFirst_28 hΓ ?_
    refine sX6_putFirst_29 hΓ rfl ?_
    refine sX6_putFirst_30 hΓ h1.pk (j := 0) rfl (by decide) (by decide) (qg_K h1 (fun σ2 h2 f2 => ?_))
    refine sX6_putFirst_31 hΓ rfl ?_
    refine sX6_putFirst_32 hΓ ?_
    refine sX6_putFirst_33 hΓ h2.o rfl ?_
    refine sX6_putFirst_36 hΓ ?_
    refine sX6_putFirst_37 hΓ ?_
    refine sX6_putFirst_38 hΓ h2.o  (Nat.le_of_ble_eq_true rfl) (qg_U h2 (upd U 1 (U 1 + 1)) rfl (fun σ3 h3 f3 => ?_))
    refine sX6_putFirst_41 hΓ rfl ?_
    refine sX6_putFirst_42 hΓ ?_
    refine sX6_putFirst_43 hΓ h3.o rfl ?_
    refine sX6_putFirst_46 hΓ ?_
    refine sX6_putFirst_47 hΓ ?_
    refine sX6_putFirst_48 hΓ h3.o  (Nat.le_of_ble_eq_true rfl) (qg_U h3 (uPut U) rfl (fun σ4 h4 f4 => ?_))
    refine sX6_putFirst_51 hΓ ?_
    exact sX6_putFirst_52 hΓ (Or.inr rfl) (hq _ h4 ((((QF.rf.tr f1).tr f2).tr f3).tr f4))
  · have hq := hq0 (of_decide_eq_true (bI_n0 c4))
    refine sX6_putFirst_7 hΓ ?_
    exact sX6_putFirst_8 hΓ (Or.inl rfl) hq
theorem su_sendFirst (hΓ : Ok G κ mX6_sendFirst (d + 1) Q X) (h : QG G σ q p U K) (hq0 : U 1 = 0 → Q (some (.int (-1))) σ) (hq1 : ¬ U 1 = 0 → ∀ σ1 : Hp, QG G σ1 q p (uSend U) (kBack K) → QF q p σ σ1 → Q (some (.int (K 0))) σ1) : AW G κ cs ss 0 [lR q, none] [] σ := by
  refine sX6_sendFirst_0 hΓ rfl ?_
  refine sX6_sendFirst_1 hΓ h.o rfl ?_
  refine sX6_sendFirst_4 hΓ (fun c4 => ?_) (fun c4 => ?_)
  · have hq := hq1 c4
    refine sX6_sendFirst_9 hΓ rfl ?_
    refine sX6_sendFirst_10 hΓ h.o rfl ?_
    refine sX6_sendFirst_13 hΓ ?_
    refine sX6_sendFirst_14 hΓ h.pk (j := 0) rfl (by decide) (by decide) ?_
    refine sX6_sendFirst_15 hΓ ?_
    refine sX6_sendFirst_16 hΓ rfl ?_
    refine sX6_sendFirst_17 hΓ h.o rfl ?_
    refine sX6_sendFirst_20 hΓ ?_
    refine sX6_sendFirst_21 hΓ rfl ?_
    refine sX6_sendFirst_22 hΓ h.o rfl ?_
    refine sX6_sendFirst_25 hΓ ?_
    refine sX6_sendFirst_26 hΓ ?_
    refine sX6_sendFirst_28 hΓ (Nat.le_of_ble_eq_true rfl) h.pk h.pk (i := 1) (j := 0) (n := 11) rfl rfl rfl (by decide) (by decide) (by decide) (by decide) (qg_K h (fun σ1 h1 f1 => ?_))
    refine sX6_sendFirst_31 hΓ rfl ?_
    refine sX6_sendFirst_32 hΓ ?_
    refine sX6_sendFirst_33 hΓ h1.o rfl ?_
    refine sX6_sendFirst_36 hΓ ?_
    refine sX6_sendFirst_37 hΓ ?_
    refine sX6_sendFirst_38 hΓ h1.o  (Nat.le_of_ble_eq_true rfl) (qg_U h1 (upd U 1 (U 1 - 1)) rfl (fun σ2 h2 f2 => ?_))
    refine sX6_sendFirst_41 hΓ rfl ?_
    refine sX6_sendFirst_42 hΓ ?_
    refine sX6_sendFirst_43 hΓ h2.o rfl ?_
    refine sX6_sendFirst_46 hΓ ?_
    refine sX6_sendFirst_47 hΓ ?_
    refine sX6_sendFirst_48 hΓ h2.o  (Nat.le_of_ble_eq_true rfl) (qg_U h2 (uSend U) rfl (fun σ3 h3 f3 => ?_))
    refine sX6_sendFirst_51 hΓ rfl ?_
    exact sX6_sendFirst_52 hΓ (hq _ h3 (((QF.rf.tr f1).tr f2).tr f3))
  · have hq := hq0 c4
    refine sX6_sendFirst_7 hΓ ?_
    exact sX6_sendFirst_8 hΓ hq
theorem su_clear (hΓ : Ok G κ mX6_clear (d + 0) Q X) (h : QG G σ q p U K) (hq : ∀ σ1 : Hp, QG G σ1 q p (uClear U) K → QF q p σ σ1 → Q (some (.int (U 1))) σ1) : AW G κ cs ss 0 [lR q, none] [] σ := by
  refine sX6_clear_0 hΓ rfl ?_
  refine sX6_clear_1 hΓ h.o rfl ?_
  refine sX6_clear_4 hΓ ?_
  refine sX6_clear_5 hΓ rfl ?_
  refine sX6_clear_6 hΓ ?_
  refine sX6_clear_7 hΓ h.o rfl ?_
  refine sX6_clear_10 hΓ rfl ?_
  refine sX6_clear_11 hΓ ?_
  refine sX6_clear_12 hΓ h.o  (Nat.le_of_ble_eq_true rfl) (qg_U h (upd U 4 (U 4 + U 1)) rfl (fun σ1 h1 f1 => ?_))
  refine sX6_clear_15 hΓ rfl ?_
  refine sX6_clear_16 hΓ ?_
  refine sX6_clear_17 hΓ h1.o  (Nat.le_of_ble_eq_true rfl) (qg_U h1 (uClear U) rfl (fun σ2 h2 f2 => ?_))
  refine sX6_clear_20 hΓ rfl ?_
  exact sX6_clear_21 hΓ (hq _ h2 ((QF.rf.tr f1).tr f2))
theorem su_reset (hΓ : Ok G κ mX6_reset (d + 0) Q X) (h : QG G σ q p U K) (hq : ∀ σ1 : Hp, QG G σ1 q p (uZero U) K → QF q p σ σ1 → Q none σ1) : AW G κ cs ss 0 [lR q] [] σ := by
  refine sX6_reset_0 hΓ rfl ?_
  refine sX6_reset_1 hΓ ?_
  refine sX6_reset_2 hΓ h.o  (Nat.le_of_ble_eq_true rfl) (qg_U h (upd U 1 0) rfl (fun σ1 h1 f1 => ?_))
  refine sX6_reset_5 hΓ rfl ?_
  refine sX6_reset_6 hΓ ?_
  refine sX6_reset_7 hΓ h1.o  (Nat.le_of_ble_eq_true rfl) (qg_U h1 (upd (upd U 1 0) 2 0) rfl (fun σ2 h2 f2 => ?_))
  refine sX6_reset_10 hΓ rfl ?_
  refine sX6_reset_11 hΓ ?_
  refine sX6_reset_12 hΓ h2.o  (Nat.le_of_ble_eq_true rfl) (qg_U h2 (upd (upd (upd U 1 0) 2 0) 3 0) rfl (fun σ3 h3 f3 => ?_))
  refine sX6_reset_15 hΓ rfl ?_
  refine sX6_reset_16 hΓ ?_
  refine sX6_reset_17 hΓ h3.o  (Nat.le_of_ble_eq_true rfl) (qg_U h3 (uZero U) rfl (fun σ4 h4 f4 => ?_))
  exact sX6_reset_20 hΓ (hq _ h4 ((((QF.rf.tr f1).tr f2).tr f3).tr f4))
theorem su_surplus (hΓ : Ok G κ mX6_surplus (d + 0) Q X) (h : QG G σ q p U K) (hq : Q (some (.int (U 2 - U 3 - U 4 - U 1))) σ) : AW G κ cs ss 0 [lR q] [] σ := by
  refine sX6_surplus_0 hΓ rfl ?_
  refine sX6_surplus_1 hΓ h.o rfl ?_
  refine sX6_surplus_4 hΓ rfl ?_
  refine sX6_surplus_5 hΓ h.o rfl ?_
  refine sX6_surplus_8 hΓ ?_
  refine sX6_surplus_9 hΓ rfl ?_
  refine sX6_surplus_10 hΓ h.o rfl ?_
  refine sX6_surplus_13 hΓ ?_
  refine sX6_surplus_14 hΓ rfl ?_
  refine sX6_surplus_15 hΓ h.o rfl ?_
  refine sX6_surplus_18 hΓ ?_
  exact sX6_surplus_19 hΓ hq
theorem su_numberFor (hΓ : Ok G κ mX6_numberFor (d + 1) Q X) (h : QG G σ q p U K) {l : Nat} (hl : U 1 = nI l) (hl12 : l ≤ 12) {y : Int32} (hq : Q (some (.int (kCount K y l))) σ) : AW G κ cs ss 0 [lR q, lI y, none, none] [] σ := by
  suffices loop : ∀ (m i : Nat) (u x : Int32), i + m = l → x = nI i → u = kCount K y i → AW G κ cs ss 4 [lR q, lI y, lI u, lI x] [] σ by
    refine sX6_numberFor_0 hΓ ?_
    refine sX6_numberFor_1 hΓ ?_
    refine sX6_numberFor_2 hΓ ?_
    refine sX6_numberFor_3 hΓ ?_
    exact loop l 0 _ _ (Nat.zero_add l) rfl rfl
  intro m
  induction m with
  | zero =>
    intro i u x hi hx hu
    refine sX6_numberFor_4 hΓ rfl ?_
    refine sX6_numberFor_5 hΓ rfl ?_
    refine sX6_numberFor_6 hΓ h.o rfl ?_
    refine sX6_numberFor_9 hΓ (fun c9 => ?_) (fun c9 => absurd (lp_out hx hl (by omega) (by omega)) c9)
    refine sX6_numberFor_43 hΓ rfl ?_
    exact sX6_numberFor_44 hΓ (by rw [hu, show i = l by omega]; exact hq)
  | succ m ih =>
    intro i u x hi hx hu
    refine sX6_numberFor_4 hΓ rfl ?_
    refine sX6_numberFor_5 hΓ rfl ?_
    refine sX6_numberFor_6 hΓ h.o rfl ?_
    refine sX6_numberFor_9 hΓ (fun c9 => absurd c9 (lp_in hx hl (by omega) (by omega))) (fun c9 => ?_)
    refine sX6_numberFor_12 hΓ rfl ?_
    refine sX6_numberFor_13 hΓ rfl ?_
    refine sX6_numberFor_14 hΓ h.o rfl ?_
    refine sX6_numberFor_17 hΓ h.pk ?_
    refine sX6_numberFor_18 hΓ (fun c18 => absurd c18 (lp_in hx (n := 12) rfl (by omega) (by decide))) (fun c18 => ?_)
    refine sX6_numberFor_21 hΓ rfl ?_
    refine sX6_numberFor_22 hΓ h.o rfl ?_
    refine sX6_numberFor_25 hΓ rfl ?_
    refine sX6_numberFor_26 hΓ h.pk hx (by omega) (by decide) ?_
    refine sX6_numberFor_27 hΓ rfl ?_
    refine sX6_numberFor_28 hΓ 0 0 (Nat.le_of_ble_eq_true rfl) (fun κ_28 hΓ_28 => st_isFor hΓ_28 ?_)
    show AW G κ _ _ 31 _ _ _
    refine sX6_numberFor_31 hΓ (fun c31 => ?_) (fun c31 => ?_)
    · have e := bI_0 c31
      refine sX6_numberFor_37 hΓ rfl ?_
      refine sX6_numberFor_40 hΓ ?_
      exact ih (i + 1) _ _ (by omega) (lp_1 hx) (by show _ = kCount K y i + bI (kFor (K i) y); rw [e, hu]; first | rfl | exact (Int32.add_zero _).symm)
    · have e := bI_n0 c31
      refine sX6_numberFor_34 hΓ rfl ?_
      refine sX6_numberFor_37 hΓ rfl ?_
      refine sX6_numberFor_40 hΓ ?_
      exact ih (i + 1) _ _ (by omega) (lp_1 hx) (by show _ = kCount K y i + bI (kFor (K i) y); rw [e, hu]; first | rfl | exact (Int32.add_zero _).symm)
theorem su_copyFrom (hΓ : Ok G κ mX6_copyFrom (d + 1) Q X) (h : QG G σ q p U K) {q2 p2 : Nat} {U2 K2 : Nat → Int32} (h2 : QG G σ q2 p2 U2 K2) (hn : q2 ≠ q ∧ p2 ≠ p) (hq : ∀ σ1 : Hp, QG G σ1 q p U2 (va_cpy K2 K 0 0 12) → QF q p σ σ1 → Q none σ1) : AW G κ cs ss 0 [lR q, lR q2] [] σ := by
  have hne : q2 ≠ p ∧ p2 ≠ q := ⟨oa_ne h2.1 h.2, Ne.symm (oa_ne h.1 h2.2)⟩
  have hk : ∀ {σ1 : Hp}, QF q p σ σ1 → QG G σ1 q2 p2 U2 K2 := fun f => ⟨(f q2 hn.1 hne.1).trans h2.1, (f p2 hne.2 hn.2).trans h2.2⟩
  refine sX6_copyFrom_0 hΓ rfl ?_
  refine sX6_copyFrom_1 hΓ h2.o rfl ?_
  refine sX6_copyFrom_4 hΓ ?_
  refine sX6_copyFrom_5 hΓ rfl ?_
  refine sX6_copyFrom_6 hΓ h.o rfl ?_
  refine sX6_copyFrom_9 hΓ ?_
  refine sX6_copyFrom_10 hΓ ?_
  refine sX6_copyFrom_12 hΓ (Nat.le_of_ble_eq_true rfl) h2.pk h.pk (i := 0) (j := 0) (n := 12) rfl rfl rfl (by decide) (by decide) (by decide) (by decide) (qg_K h (fun σ1 h1 f1 => ?_))
  refine sX6_copyFrom_15 hΓ rfl ?_
  refine sX6_copyFrom_16 hΓ rfl ?_
  refine sX6_copyFrom_17 hΓ (hk (QF.rf.tr f1)).o rfl ?_
  refine sX6_copyFrom_20 hΓ h1.o  (Nat.le_of_ble_eq_true rfl) (qg_U h1 (upd U 1 (U2 1)) rfl (fun σ2 h2 f2 => ?_))
  refine sX6_copyFrom_23 hΓ rfl ?_
  refine sX6_copyFrom_24 hΓ rfl ?_
  refine sX6_copyFrom_25 hΓ (hk ((QF.rf.tr f1).tr f2)).o rfl ?_
  refine sX6_copyFrom_28 hΓ h2.o  (Nat.le_of_ble_eq_true rfl) (qg_U h2 (upd (upd U 1 (U2 1)) 2 (U2 2)) rfl (fun σ3 h3 f3 => ?_))
  refine sX6_copyFrom_31 hΓ rfl ?_
  refine sX6_copyFrom_32 hΓ rfl ?_
  refine sX6_copyFrom_33 hΓ (hk (((QF.rf.tr f1).tr f2).tr f3)).o rfl ?_
  refine sX6_copyFrom_36 hΓ h3.o  (Nat.le_of_ble_eq_true rfl) (qg_U h3 (upd (upd (upd U 1 (U2 1)) 2 (U2 2)) 3 (U2 3)) rfl (fun σ4 h4 f4 => ?_))
  refine sX6_copyFrom_39 hΓ rfl ?_
  refine sX6_copyFrom_40 hΓ rfl ?_
  refine sX6_copyFrom_41 hΓ (hk ((((QF.rf.tr f1).tr f2).tr f3).tr f4)).o rfl ?_
  refine sX6_copyFrom_44 hΓ h4.o  (Nat.le_of_ble_eq_true rfl) (qg_U h4 (U2) rfl (fun σ5 h5 f5 => ?_))
  exact sX6_copyFrom_47 hΓ (hq _ h5 (((((QF.rf.tr f1).tr f2).tr f3).tr f4).tr f5))
end ClassQueue
