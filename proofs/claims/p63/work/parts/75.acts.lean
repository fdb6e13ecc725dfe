/-! the law's acts: what they do to a good row -/
theorem GT.cg {ρ ρ1 : Nat → Int32} {k τ : Nat} (h : GT ρ k τ) (e : ∀ w, w < 15 → tf ρ1 k w = tf ρ k w) : GT ρ1 k τ := by
  obtain ⟨h0, h4, h9, h10, h11⟩ := h
  refine ⟨?_, ?_, ?_, ?_, ?_⟩
  · rw [e 0 (by decide)]; exact h0
  · rw [e 4 (by decide)]; exact h4
  · rw [e 9 (by decide), e 6 (by decide)]; exact h9
  · rw [e 10 (by decide)]; exact h10
  · rw [e 11 (by decide), e 12 (by decide), e 13 (by decide)]; exact h11
theorem GR.cg {ρ ρ1 : Nat → Int32} {n s τ : Nat} (h : GR ρ n s τ) (hV : RV ρ1 n s) (e : ∀ j, 58 ≤ j → j < 148 → ρ1 j = ρ j) (e0 : ρ1 0 = ρ 0) (e5 : ρ1 5 = ρ 5) (h7 : ρ1 7 = ρ1 8 + ρ1 9 + ρ1 6) : GR ρ1 n s τ := by
  have hn6 := h.1.n6
  obtain ⟨-, a0, a1, a2, a3, a4, a5, -, a6⟩ := h
  have t : ∀ k w, k < n → w < 15 → tf ρ1 k w = tf ρ k w := fun k w hk hw => e _ (by omega) (by omega)
  refine ⟨hV, e0.trans a0, a1, a2, fun i j hi hj h9 => a3 i j hi hj ?_, fun i j hi hj h9 => a4 i j hi hj ?_, fun k hk => (a5 k hk).cg (fun w hw => t k w hk hw), h7, ?_⟩
  · rw [t i 3 hi (by decide), t j 3 hj (by decide)] at h9; exact h9
  · rw [t i 0 hi (by decide), t j 0 hj (by decide)] at h9; exact h9
  · rw [e5]; exact a6
theorem rPut_lo {ρ : Nat → Int32} {p j : Nat} {x c k : Int32} (h : j < 148) (h6 : j ≠ 6) (h7 : j ≠ 7) : rPut ρ p x c k j = ρ j := by
  unfold rPut
  rw [upd_ne h7, upd_ne h6, rPut0_lo h]
theorem rPut_6 {ρ : Nat → Int32} {p : Nat} {x c k : Int32} : rPut ρ p x c k 6 = ρ 6 + 1 := by
  unfold rPut
  rw [upd_ne (by decide), upd_same]
theorem rPut_7 {ρ : Nat → Int32} {p : Nat} {x c k : Int32} : rPut ρ p x c k 7 = ρ 7 + 1 := by
  unfold rPut
  rw [upd_same]
theorem rPut_p {ρ : Nat → Int32} {p : Nat} {x c k : Int32} : rPut ρ p x c k (148 + 3 * p + 0) = x ∧ rPut ρ p x c k (148 + 3 * p + 1) = c ∧ rPut ρ p x c k (148 + 3 * p + 2) = k := by
  unfold rPut rPut0
  refine ⟨?_, ?_, ?_⟩
  · rw [upd_ne (by omega), upd_ne (by omega), upd_ne (by omega), upd_ne (by omega), upd_same]
  · rw [upd_ne (by omega), upd_ne (by omega), upd_ne (by omega), upd_same]
  · rw [upd_ne (by omega), upd_ne (by omega), upd_same]
theorem rPut_w {ρ : Nat → Int32} {p : Nat} {x c k : Int32} : rWhole (rPut ρ p x c k) p = ((x ^^^ c) == k) := by
  obtain ⟨e0, e1, e2⟩ := rPut_p (ρ := ρ) (p := p) (x := x) (c := c) (k := k)
  unfold rWhole
  rw [e0, e1, e2]
theorem GR.put {ρ : Nat → Int32} {n s τ p q mx mc mk : Nat} (h : GR ρ n s τ) (hQ : ρ 6 = nI q) (hq : q < 12) (hp : p ≤ q) (hx : mx ≤ 255) (hc : mc ≤ 255) (hk : mk ≤ 255) : GR (rPut ρ p (nI mx) (nI mc) (nI mk)) n s τ := by
  refine h.cg (h.1.put hQ hq hp hx hc hk) (fun j h1 h2 => rPut_lo h2 (by omega) (by omega)) (rPut_lo (by decide) (by decide) (by decide)) (rPut_lo (by decide) (by decide) (by decide)) ?_
  rw [rPut_7, rPut_6, rPut_lo (by decide) (by decide) (by decide), rPut_lo (by decide) (by decide) (by decide), h.2.2.2.2.2.2.2.1, Int32.add_assoc]
theorem GR.clear {ρ : Nat → Int32} {n s τ : Nat} (h : GR ρ n s τ) : GR (upd (upd ρ 9 (ρ 9 + ρ 6)) 6 0) n s τ := by
  refine h.cg h.1.clear (fun j h1 h2 => ?_) rfl rfl ?_
  · rw [upd_ne (by omega), upd_ne (by omega)]
  · show ρ 7 = ρ 8 + (ρ 9 + ρ 6) + 0
    rw [h.2.2.2.2.2.2.2.1, Int32.add_zero, Int32.add_assoc]
theorem GR.short {ρ : Nat → Int32} {n s τ k : Nat} (h : GR ρ n s τ) (hk : k < s) (b : Bool) : GR (upd ρ (34 + k) (bI b)) n s τ := by
  have hs := h.2.2.2.1.1
  refine h.cg (h.1.sec (by omega) b) (fun j h1 h2 => upd_ne (by omega)) (upd_ne (by omega)) (upd_ne (by omega)) ?_
  rw [upd_ne (by omega), upd_ne (by omega), upd_ne (by omega), upd_ne (by omega)]
  exact h.2.2.2.2.2.2.2.1
theorem GR.addr {ρ : Nat → Int32} {n s τ k a : Nat} (h : GR ρ n s τ) (hk : k < n) (h1 : 1 ≤ a) (h2 : a ≤ 127) (hN : rFirst ρ n 0 (nI a) = none) : GR (upd ρ (58 + 15 * k + 0) (nI a)) n s τ := by
  have hn6 := h.1.n6
  obtain ⟨a_, a0, a1, a2, a3, a4, a5, a7, a6⟩ := id h
  have t : ∀ i w, i < n → w < 15 → ¬ (i = k ∧ w = 0) → tf (upd ρ (58 + 15 * k + 0) (nI a)) i w = tf ρ i w := fun i w hi hw hne => upd_ne (by
    intro e
    exact hne (by omega))
  have t0 : tf (upd ρ (58 + 15 * k + 0) (nI a)) k 0 = nI a := upd_same _ _ _
  have hne : ∀ j, j < n → ¬ tf ρ j 0 = nI a := fun j hj e => fst_none hN j hj e
  refine ⟨a_.addr (by omega), (upd_ne (by omega)).trans a0, a1, a2, fun i j hi hj h9 => a3 i j hi hj ?_, fun i j hi hj h9 => ?_, fun j hj => ?_, ?_, ?_⟩
  · rw [t i 3 hi (by decide) (by omega), t j 3 hj (by decide) (by omega)] at h9; exact h9
  · by_cases ei : i = k
    · by_cases ej : j = k
      · rw [ei, ej]
      · rw [ei, t0, t j 0 hj (by decide) (by omega)] at h9
        exact absurd h9.symm (hne j hj)
    · by_cases ej : j = k
      · rw [ej, t0, t i 0 hi (by decide) (by omega)] at h9
        exact absurd h9 (hne i hi)
      · rw [t i 0 hi (by decide) (by omega), t j 0 hj (by decide) (by omega)] at h9
        exact a4 i j hi hj h9
  · obtain ⟨g0, g4, g9, g10, g11⟩ := a5 j hj
    refine ⟨?_, ?_, ?_, ?_, ?_⟩
    · by_cases ej : j = k
      · rw [ej, t0]; exact ⟨a, h1, h2, rfl⟩
      · rw [t j 0 hj (by decide) (by omega)]; exact g0
    · rw [t j 4 hj (by decide) (by omega)]; exact g4
    · rw [t j 9 hj (by decide) (by omega), t j 6 hj (by decide) (by omega)]; exact g9
    · rw [t j 10 hj (by decide) (by omega)]; exact g10
    · rw [t j 11 hj (by decide) (by omega), t j 12 hj (by decide) (by omega), t j 13 hj (by decide) (by omega)]; exact g11
  · rw [upd_ne (by omega), upd_ne (by omega), upd_ne (by omega), upd_ne (by omega)]; exact a7
  · rw [upd_ne (by omega)]; exact a6
/-- the shorts, one of them set -/
theorem sum_short {ρ : Nat → Int32} {j : Nat} {w : Int32} : ∀ m, sumN (fun i => upd ρ (34 + j) w (34 + i)) m = sumN (fun i => if i = j then 0 else ρ (34 + i)) m + (if j < m then w else 0)
  | 0 => rfl
  | m + 1 => by
    show sumN _ m + upd ρ (34 + j) w (34 + m) = sumN _ m + (if m = j then 0 else ρ (34 + m)) + (if j < m + 1 then w else 0)
    rw [sum_short m]
    by_cases e : m = j
    · subst e
      rw [upd_same, if_neg (Nat.lt_irrefl m), if_pos rfl, if_pos (Nat.lt_succ_self m), Int32.add_zero]
    · rw [upd_ne (by omega), if_neg e]
      by_cases h : j < m
      · rw [if_pos h, if_pos (by omega)]; ac_rfl
      · rw [if_neg h, if_neg (by omega), Int32.add_zero, Int32.add_zero]
/-- the queue and what was sent -/
theorem sent_n {ρ : Nat → Int32} {n s τ q : Nat} {C : Ct} (h : GR ρ n s τ) (hC : CR ρ n s C) (h6 : ρ 6 = nI q) (hq : q ≤ 12) : ∀ t, τ + t ≤ 10000 → ∃ a b, a + b = q ∧ rPs n s ρ t 6 = nI a ∧ rPsN n s ρ t = nI b
  | 0, _ => ⟨q, 0, rfl, h6, rfl⟩
  | t + 1, ht => by
    obtain ⟨a, b, e1, e2, e3⟩ := sent_n h hC h6 hq t (by omega)
    obtain ⟨g1, g2, -⟩ := GR.ticks h hC t (by omega)
    have h0 : ¬ rPs n s ρ t 0 = 10000 := fun e => by
      have := (nI_eq (a := τ + t) (b := 10000) (by omega) (by decide)).mp (g1.2.1.symm.trans e)
      omega
    have hs := (rT_6 g1.1 h0).2.2.2
    have hN : rPsN n s ρ (t + 1) = rPsN n s ρ t + bI (snd (rPs n s ρ t)) := by
      have e9 := rPsN_1 (n := n) (s := s) h0
      have e8 : rPsN n s (rPs n s ρ t) 1 = rSentN (rPs n s ρ t) := Int32.zero_add _
      show rPsN n s ρ t + rSentN (rPs n s ρ t) = _
      rw [← e8, e9]
    by_cases c : snd (rPs n s ρ t) = true
    · rw [c] at hs hN
      have ha : 1 ≤ a := by
        rcases Nat.eq_zero_or_pos a with e | e
        · exact absurd (by rw [e2, e]; rfl) (snd_p.mp c).2
        · exact e
      refine ⟨a - 1, b + 1, by omega, ?_, ?_⟩
      · rw [rPs_s, hs, e2]; exact pk_sub (b := 1) ha
      · rw [hN, e3]; exact nI_1 b
    · rw [Bool.eq_false_iff.mpr c] at hs hN
      refine ⟨a, b, e1, ?_, ?_⟩
      · rw [rPs_s, hs, e2]; exact Int32.sub_zero _
      · rw [hN, e3]; exact Int32.add_zero _
/-- the cutoffs grow -/
theorem cut_n {ρ : Nat → Int32} {n s τ : Nat} {C : Ct} (h : GR ρ n s τ) (hC : CR ρ n s C) : ∀ t j, j ≤ t → τ + t ≤ 10000 → rPs n s ρ j 5 ≤ rPs n s ρ t 5
  | 0, j, hj, _ => by
    obtain rfl : j = 0 := by omega
    exact Int32.le_refl _
  | t + 1, j, hj, ht => by
    by_cases e : j = t + 1
    · rw [e]; exact Int32.le_refl _
    refine Int32.le_trans (cut_n h hC t j (by omega) (by omega)) ?_
    obtain ⟨g1, -, -⟩ := GR.ticks h hC t (by omega)
    have h0 : ¬ rPs n s ρ t 0 = 10000 := fun e => by
      have := (nI_eq (a := τ + t) (b := 10000) (by omega) (by decide)).mp (g1.2.1.symm.trans e)
      omega
    obtain ⟨a, ha, ea⟩ := g1.2.2.2.2.2.2.2.2
    rw [rPs_s]
    rcases rT_5 g1.1 h0 with e5 | e5
    · rw [e5]; exact Int32.le_refl _
    · rw [e5, ea, nI_1]; exact nI_le (by omega) (by omega)
theorem until_n {ρ : Nat → Int32} {n s : Nat} {b : Int32} : ∀ m i, (∀ j, j ≤ i → ¬ b < rPs n s ρ j 5) → (rUntil n s b m (i + 1) (rPs n s ρ i) = -1 ∧ ∀ j, j ≤ i + m → ¬ b < rPs n s ρ j 5) ∨ ∃ j, i < j ∧ j ≤ i + m ∧ rUntil n s b m (i + 1) (rPs n s ρ i) = nI j ∧ b < rPs n s ρ j 5 ∧ ∀ j', j' < j → ¬ b < rPs n s ρ j' 5
  | 0, i, h => Or.inl ⟨rfl, h⟩
  | m + 1, i, h => by
    show ((if b < rPs n s ρ (i + 1) 5 then nI (i + 1) else rUntil n s b m (i + 1 + 1) (rPs n s ρ (i + 1))) = -1 ∧ _) ∨ ∃ j, _ ∧ _ ∧ (if b < rPs n s ρ (i + 1) 5 then nI (i + 1) else rUntil n s b m (i + 1 + 1) (rPs n s ρ (i + 1))) = nI j ∧ _
    by_cases c : b < rPs n s ρ (i + 1) 5
    · rw [if_pos c]
      exact Or.inr ⟨i + 1, by omega, by omega, rfl, c, fun j' hj' => h j' (by omega)⟩
    · rw [if_neg c]
      rcases until_n m (i + 1) (fun j hj => by
        by_cases e : j = i + 1
        · rw [e]; exact c
        · exact h j (by omega)) with ⟨e1, e2⟩ | ⟨j, j1, j2, j3, j4, j5⟩
      · exact Or.inl ⟨e1, fun j hj => e2 j (by omega)⟩
      · exact Or.inr ⟨j, by omega, by omega, j3, j4, j5⟩
theorem cut_iff {ρ : Nat → Int32} {n s τ t : Nat} {C : Ct} (h : GR ρ n s τ) (hC : CR ρ n s C) (ht : τ + t ≤ 10000) (ht2 : t ≤ 200) : ρ 5 < rPs n s ρ t 5 ↔ 0 < rUntil n s (ρ 5) 200 1 ρ ∧ rUntil n s (ρ 5) 200 1 ρ ≤ nI t := by
  rcases until_n (ρ := ρ) (n := n) (s := s) (b := ρ 5) 200 0 (fun j hj => by
    obtain rfl : j = 0 := by omega
    exact Int32.lt_irrefl) with ⟨e1, e2⟩ | ⟨j, j1, j2, j3, j4, j5⟩
  · have e1' : rUntil n s (ρ 5) 200 1 ρ = -1 := e1
    rw [e1']
    exact ⟨fun h9 => absurd h9 (e2 t (by omega)), fun h9 => absurd h9.1 (by decide)⟩
  · have j3' : rUntil n s (ρ 5) 200 1 ρ = nI j := j3
    rw [j3']
    constructor
    · intro h9
      have hjt : j ≤ t := by
        rcases Nat.lt_or_ge t j with c | c
        · exact absurd h9 (j5 t c)
        · exact c
      exact ⟨show nI 0 < nI j from nI_lt (by omega) (by omega), nI_le hjt (by omega)⟩
    · intro h9
      have hjt : j ≤ t := nI_lez rfl rfl (by omega) (by omega) h9.2
      exact Int32.lt_of_lt_of_le j4 (cut_n h hC t j hjt ht)
/-- what an act leaves -/
def AcO (ρ ρ1 : Nat → Int32) (ch : Bool) (kk : Nat) (z : Nat → Int32) (B : Nat → Nat → Int32) (z1 : Nat → Int32) (B1 : Nat → Nat → Int32) : Prop := B1 0 = ρ1 ∧ B1 4 = B 4 ∧ z1 12 = z 12 ∧ z1 8 = nI (if ch = true then hCnt kk else kk) ∧ (ch = true → ∀ j, j < 184 → hRow (B1 5) (hCnt kk - 1) j = ρ j)
theorem AcO.op {z : Nat → Int32} {B : Nat → Nat → Int32} {kk : Nat} {o : Op} {v : Nat → Int32} {row : Nat → Int32} (ho : o = (0, v, row)) (h12 : v 12 = z 12) : AcO (B 0) row true kk z B (fZ o kk) (fB B o kk) := by
  subst ho
  refine ⟨rfl, rfl, ?_, rfl, fun _ j hj => ?_⟩
  · show upd (upd v 9 0) 8 (nI (hCnt kk)) 12 = z 12
    rw [upd_ne (by decide), upd_ne (by decide)]
    exact h12
  · show hRow (hRec (B 5) kk (B 0)) (hCnt kk - 1) j = B 0 j
    exact hrec_new hj
theorem AcO.no {z : Nat → Int32} {B : Nat → Nat → Int32} {kk : Nat} (hz8 : z 8 = nI kk) : AcO (B 0) (B 0) false kk z B z B := ⟨rfl, rfl, rfl, hz8, fun e => by cases e⟩
theorem byte_7 {m : Nat} (h : m ≤ 127) : rIn (nI m) 0 127 = true := by
  unfold rIn
  rw [Bool.and_eq_true]
  exact ⟨decide_eq_true (nI_pos' (by omega)), decide_eq_true (show nI m ≤ nI 127 from nI_le h (by decide))⟩
theorem in_b {m a b : Nat} (h1 : a ≤ m) (h2 : m ≤ b) (hb : b < 2 ^ 31) : rIn (nI m) (nI a) (nI b) = true := by
  unfold rIn
  rw [Bool.and_eq_true]
  exact ⟨decide_eq_true (nI_le h1 (by omega)), decide_eq_true (nI_le h2 hb)⟩
