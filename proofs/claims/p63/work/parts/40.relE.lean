/-! the class's railway and the reference's row: what both tell -/
theorem sumN_cg {f g : Nat → Int32} : ∀ {n : Nat}, (∀ k, k < n → f k = g k) → sumN f n = sumN g n
  | 0, _ => rfl
  | n + 1, h => by
    show sumN f n + f n = sumN g n + g n
    rw [sumN_cg (fun k hk => h k (by omega)), h n (Nat.lt_succ_self n)]
theorem sumN_cut {f : Nat → Int32} {s : Nat} : ∀ (m : Nat), (∀ j, s ≤ j → j < s + m → f j = 0) → sumN f (s + m) = sumN f s
  | 0, _ => rfl
  | m + 1, h => by
    show sumN f (s + m) + f (s + m) = sumN f s
    rw [sumN_cut m (fun j h1 h2 => h j h1 (by omega)), h (s + m) (by omega) (by omega), Int32.add_zero]
theorem RV.b01 {ρ : Nat → Int32} {n s : Nat} (h : RV ρ n s) {i : Nat} (h1 : 10 ≤ i) (h2 : i < 58) : ρ i = 0 ∨ ρ i = 1 := by
  obtain ⟨m, h3, h4⟩ := h.2.2 i
  rw [bd_s h1 h2] at h3
  have : m = 0 ∨ m = 1 := by omega
  rcases this with e | e
  · left; rw [h4, e]; rfl
  · right; rw [h4, e]; rfl
theorem bk_cnt {ρ : Nat → Int32} {n s b : Nat} {x : Int32} (hV : RV ρ n s) (hb : b = 10 ∨ b = 34) (h : bk ρ b x) (h0 : ∀ j, s ≤ j → j < 24 → ρ (b + j) = 0) : bcI x = rCnt ρ b s := by
  obtain ⟨m, h1, h2, h3⟩ := h
  have hs := hV.1.1.2.2.2.2.1
  rw [h2, bcI_n h1, ← bits_sum h1]
  unfold rCnt
  have e : sumN (fun j => bI (m.testBit j)) 24 = sumN (fun j => ρ (b + j)) 24 := sumN_cg fun j hj => by
    show bI (m.testBit j) = ρ (b + j)
    rw [h3 j hj]
    rcases hV.b01 (i := b + j) (by omega) (by omega) with e | e
    · rw [e]; rfl
    · rw [e]; rfl
  rw [e, show 24 = s + (24 - s) by omega]
  exact sumN_cut (24 - s) (fun j h5 h6 => h0 j h5 (by omega))
theorem fast_tw {ρ : Nat → Int32} {T : Nat → Nat → Int32} {n : Nat} (hB : RB ρ) (hn : n ≤ 6) (hT : ∀ k, k < n → T k = tw ρ k) : ∀ m, m + 1 ≤ n → cFast T (m + 1) = (rFast ρ m, ρ (58 + 15 * rFast ρ m + 5))
  | 0, h => by
    obtain ⟨v, h1, h2⟩ := hB.t (k := 0) (by decide) (w := 5) (by decide) (M := 28) rfl
    show (if (-1 : Int32) < T 0 5 then (0, T 0 5) else (0, -1)) = (0, ρ (58 + 15 * 0 + 5))
    rw [hT 0 (by omega), tw_at (by decide), h2, if_pos (Int32.lt_of_lt_of_le (by decide : (-1 : Int32) < 0) (Int32.not_lt.mp (nI_pos (by omega))))]
  | m + 1, h => by
    have ih := fast_tw hB hn hT m (by omega)
    show (if (cFast T (m + 1)).2 < T (m + 1) 5 then (m + 1, T (m + 1) 5) else cFast T (m + 1)) = _
    rw [ih, hT (m + 1) (by omega), tw_at (by decide)]
    have e : rFast ρ (m + 1) = if ρ (58 + 15 * rFast ρ m + 5) < ρ (58 + 15 * (m + 1) + 5) then m + 1 else rFast ρ m := rfl
    rw [e]
    by_cases c : ρ (58 + 15 * rFast ρ m + 5) < ρ (58 + 15 * (m + 1) + 5)
    · rw [if_pos c, if_pos c]
    · rw [if_neg c, if_neg c]
theorem fsB_ex {p : Nat → Bool} {n i : Nat} (hi : i < n) (hp : p i = true) : ∃ k, fsB p n = some k := by
  cases e : fsB p n with
  | none => have h := fsB_ne p e i hi; rw [hp] at h; cases h
  | some k => exact ⟨k, rfl⟩
theorem free_tw {ρ : Nat → Int32} {T : Nat → Nat → Int32} {n s k q : Nat} (hs : 0 < s) (hT : ∀ k, k < n → T k = tw ρ k) (hk : k < n) (hq : q < s) (e : ρ (58 + 15 * k + 3) = nI q) : nI (cFree T n s q) = rFree ρ n s q := by
  have e1 : fsB (cFreeP T n s q) s = fsB (rFreeP ρ n s q) s := fsB_cg fun i _ => by
    unfold cFreeP rFreeP
    rw [cFst_tw (by decide) hT]
  have e2 : rFreeP ρ n s q (s - 1) = true := by
    unfold rFreeP
    rw [show q + 1 + (s - 1) = q + s by omega, Nat.add_mod_right, Nat.mod_eq_of_lt hq]
    obtain ⟨i, hi⟩ := fsB_ex (p := fun k => ρ (58 + 15 * k + 3) == nI q) hk (beq_iff_eq.mpr e)
    show (fsB (fun k => ρ (58 + 15 * k + 3) == nI q) n).isSome = true
    rw [hi]
    rfl
  obtain ⟨i, hi⟩ := fsB_ex (n := s) (i := s - 1) (by omega) e2
  unfold cFree rFree
  rw [e1, hi]
  rfl
theorem sum_tw {ρ : Nat → Int32} {T : Nat → Nat → Int32} {n w : Nat} (hw : w < 15) (hT : ∀ k, k < n → T k = tw ρ k) : cSum T w n = rSum ρ w n := sumN_cg fun k hk => by
  show T k w = _
  rw [hT k hk, tw_at hw]
theorem sumN_add (f g : Nat → Int32) : ∀ n, sumN (fun k => f k + g k) n = sumN f n + sumN g n
  | 0 => (Int32.add_zero 0).symm
  | n + 1 => by
    show sumN (fun k => f k + g k) n + (f n + g n) = (sumN f n + f n) + (sumN g n + g n)
    rw [sumN_add f g n, Int32.add_assoc, Int32.add_assoc, ← Int32.add_assoc (sumN g n), Int32.add_comm (sumN g n) (f n), Int32.add_assoc]
theorem recd_tw {ρ : Nat → Int32} {T : Nat → Nat → Int32} {n : Nat} (hT : ∀ k, k < n → T k = tw ρ k) : cRecd T n = rSum ρ 11 n + rSum ρ 12 n + rSum ρ 13 n := by
  have e : cRecd T n = sumN (fun k => (ρ (58 + 15 * k + 11) + ρ (58 + 15 * k + 12)) + ρ (58 + 15 * k + 13)) n := sumN_cg fun k hk => by
    show T k 11 + T k 12 + T k 13 = _
    rw [hT k hk, tw_at (by decide), tw_at (by decide), tw_at (by decide)]
  rw [e, sumN_add, sumN_add]
  rfl
/-- pairs, counted from either side -/
theorem pairs_tw {ρ : Nat → Int32} {T : Nat → Nat → Int32} : ∀ {n : Nat}, (∀ k, k < n → T k = tw ρ k) → cPairs T n n = rPairs ρ n
  | 0, _ => rfl
  | n + 1, hT => by
    have ih := pairs_tw (n := n) (fun k hk => hT k (by omega))
    have h3 : ∀ k, k < n + 1 → T k 3 = ρ (58 + 15 * k + 3) := fun k hk => by rw [hT k hk, tw_at (by decide)]
    have e1 : ∀ m, m ≤ n → cPairs T (n + 1) m = cPairs T n m + sumN (fun i => bI (T i 3 == T n 3)) m := fun m => by
      induction m with
      | zero => intro _; rfl
      | succ m ihm =>
        intro hm
        show cPairs T (n + 1) m + cPairI T m (n + 1 - (m + 1)) = (cPairs T n m + cPairI T m (n - (m + 1))) + (sumN _ m + bI (T m 3 == T n 3))
        have e2 : cPairI T m (n + 1 - (m + 1)) = cPairI T m (n - (m + 1)) + bI (T m 3 == T n 3) := by
          rw [show n + 1 - (m + 1) = n - (m + 1) + 1 by omega]
          show cPairI T m (n - (m + 1)) + bI (T m 3 == T (m + 1 + (n - (m + 1))) 3) = _
          rw [show m + 1 + (n - (m + 1)) = n by omega]
        rw [ihm (by omega), e2, Int32.add_assoc, Int32.add_assoc, ← Int32.add_assoc (sumN (fun i => bI (T i 3 == T n 3)) m), Int32.add_comm (sumN (fun i => bI (T i 3 == T n 3)) m), Int32.add_assoc]
    have e0 : cPairs T (n + 1) (n + 1) = cPairs T (n + 1) n := by
      show cPairs T (n + 1) n + cPairI T n (n + 1 - (n + 1)) = _
      rw [Nat.sub_self]
      exact Int32.add_zero _
    rw [e0, e1 n (Nat.le_refl n), ih]
    show _ = rPairs ρ n + rPairI ρ n n
    congr 1
    refine sumN_cg fun j hj => ?_
    show bI (T j 3 == T n 3) = bI (ρ (58 + 15 * n + 3) == ρ (58 + 15 * j + 3))
    rw [h3 j (by omega), h3 n (by omega)]
    congr 1
    rcases instDecidableEqInt32 (ρ (58 + 15 * n + 3)) (ρ (58 + 15 * j + 3)) with q | q
    · rw [beq_eq_false_iff_ne.mpr q, beq_eq_false_iff_ne.mpr (Ne.symm q)]
    · rw [q]
theorem abs_tw (x : Int32) : (if 0 ≤ x then x else 0 - x) = rAbs x := by
  unfold rAbs
  by_cases c : x < 0
  · rw [if_pos c, if_neg (Int32.not_le.mpr c), Int32.zero_sub]
  · rw [if_neg c, if_pos (Int32.not_lt.mp c)]
theorem CR.pkt {ρ : Nat → Int32} {n s : Nat} {C : Ct} (hV : RV ρ n s) (h : CR ρ n s C) {i : Nat} (hi : i < rQ ρ) : ∃ a b c, a < 256 ∧ b < 256 ∧ c < 256 ∧ ρ (148 + 3 * i + 0) = nI a ∧ ρ (148 + 3 * i + 1) = nI b ∧ ρ (148 + 3 * i + 2) = nI c ∧ C.2.2.1 i = kOf (nI a) (nI b) (nI c) := by
  obtain ⟨a, ha, ea⟩ := hV.pk (j := 148 + 3 * i + 0) (by omega)
  obtain ⟨b, hb, eb⟩ := hV.pk (j := 148 + 3 * i + 1) (by omega)
  obtain ⟨c, hc, ec⟩ := hV.pk (j := 148 + 3 * i + 2) (by omega)
  exact ⟨a, b, c, by omega, by omega, by omega, ea, eb, ec, by rw [h.2.2.2.2 i hi, ea, eb, ec]⟩
theorem CR.pA {ρ : Nat → Int32} {n s : Nat} {C : Ct} (hV : RV ρ n s) (h : CR ρ n s C) {i : Nat} (hi : i < rQ ρ) : kA (C.2.2.1 i) = ρ (148 + 3 * i + 0) ∧ kC (C.2.2.1 i) = ρ (148 + 3 * i + 1) ∧ kWh (C.2.2.1 i) = rWhole ρ i ∧ ¬ C.2.2.1 i = -1 := by
  obtain ⟨a, b, c, ha, hb, hc, ea, eb, ec, e⟩ := h.pkt hV hi
  rw [e, kA_of ha hb hc, kC_of ha hb hc, kW_of ha hb hc, ea, eb]
  refine ⟨rfl, rfl, ?_, kOf_ne ha hb hc⟩
  show _ = ((ρ (148 + 3 * i + 0) ^^^ ρ (148 + 3 * i + 1)) == ρ (148 + 3 * i + 2))
  rw [ea, eb, ec]
theorem cnt_tw {ρ : Nat → Int32} {n s k : Nat} {C : Ct} (hV : RV ρ n s) (h : CR ρ n s C) : kCount C.2.2.1 (ρ (58 + 15 * k + 0)) (rQ ρ) = rForN ρ (rQ ρ) k := sumN_cg fun i hi => by
  show bI (kFor (C.2.2.1 i) _) = bI (rFor ρ i k)
  congr 1
  unfold kFor
  rw [(h.pA hV hi).1]
theorem aft_tw {ρ : Nat → Int32} {k v : Nat} (hv : ρ (58 + 15 * k + 2) = nI v) (h1 : 1 ≤ v) (h9 : v ≤ 9) (x : Int32) : vAft (tw ρ k) x = rBraked x (ρ (58 + 15 * k + 2)) := by
  have hd : vDr (tw ρ k) x = x / ρ (58 + 15 * k + 2) := by
    unfold vDr
    rw [tw_at (show 2 < 15 by decide), hv]
    exact if_pos (show nI 1 ≤ nI v from nI_le h1 (by omega))
  unfold vAft rBraked iMax
  rw [hd]
  by_cases c3 : x / ρ (58 + 15 * k + 2) < 1
  · rw [if_pos c3, if_neg (Int32.not_le.mpr c3)]
  · rw [if_neg c3, if_pos (Int32.not_lt.mp c3)]
theorem dec_tw {ρ : Nat → Int32} {k v : Nat} (hv : ρ (58 + 15 * k + 2) = nI v) (h1 : 1 ≤ v) (h9 : v ≤ 9) : ∀ (f : Nat) (x acc : Int32), vDec (tw ρ k) f x acc = rBrk false (ρ (58 + 15 * k + 2)) f x acc
  | 0, _, _ => rfl
  | f + 1, x, acc => by
    show (if 0 < x then vDec (tw ρ k) f (vAft (tw ρ k) x) (acc + 1) else acc) = (if 0 < x then rBrk false (ρ (58 + 15 * k + 2)) f (rBraked x (ρ (58 + 15 * k + 2))) (acc + (if false = true then _ else 1)) else acc)
    rw [dec_tw hv h1 h9 f, aft_tw hv h1 h9]
    rfl
theorem dist_tw {ρ : Nat → Int32} {k v : Nat} (hv : ρ (58 + 15 * k + 2) = nI v) (h1 : 1 ≤ v) (h9 : v ≤ 9) : ∀ (f : Nat) (x acc : Int32), vDist (tw ρ k) f x acc = rBrk true (ρ (58 + 15 * k + 2)) f x acc
  | 0, _, _ => rfl
  | f + 1, x, acc => by
    show (if 0 < x then vDist (tw ρ k) f (vAft (tw ρ k) x) (acc + vAft (tw ρ k) x) else acc) = (if 0 < x then rBrk true (ρ (58 + 15 * k + 2)) f (rBraked x (ρ (58 + 15 * k + 2))) (acc + (if true = true then rBraked x (ρ (58 + 15 * k + 2)) else 1)) else acc)
    rw [dist_tw hv h1 h9 f, aft_tw hv h1 h9]
    rfl
theorem sign_tw {ρ : Nat → Int32} {n s j : Nat} {C : Ct} (h : CR ρ n s C) (hj : j < 24) : cSign C.1 C.2.2.2 n (nI j) = rSign ρ n j := by
  unfold cSign rSign
  rw [cFst_tw (by decide) h.2.2.2.1, bk_bit h.2.1.1 hj, bk_bit h.2.1.2 hj]
  cases rFirst ρ n 3 (nI j) with
  | some k => rfl
  | none =>
    show (if (ρ (34 + j) == 1) = true then (33 : Int32) else if (ρ (10 + j) == 1) = true then 110 else 45) = (if ρ (34 + j) = 1 then 33 else if ρ (10 + j) = 1 then 110 else 45)
    simp only [beq_iff_eq]
/-! .. and what changes both -/
theorem CR.cp {ρ : Nat → Int32} {n s : Nat} {C B : Ct} (h : CR ρ n s B) (hq : rQ ρ ≤ 12) : CR ρ n s (cCpy C B) := by
  refine ⟨h.1, h.2.1, h.2.2.1, h.2.2.2.1, fun i hi => ?_⟩
  show va_cpy B.2.2.1 C.2.2.1 0 0 12 i = _
  rw [pk_cpy_in (Nat.zero_le _) (by omega), ← h.2.2.2.2 i hi]
  exact congrArg B.2.2.1 (by omega)
theorem CR.eq {ρ ρ1 : Nat → Int32} {n s : Nat} {C : Ct} (h : CR ρ n s C) (hn : n ≤ 6) (hq : rQ ρ ≤ 12) (e : ∀ j, j < 184 → ρ1 j = ρ j) : CR ρ1 n s C := by
  have e6 : rQ ρ1 = rQ ρ := by unfold rQ; rw [e 6 (by decide)]
  refine ⟨?_, ⟨bk_eq h.2.1.1 (fun j hj => e _ (by omega)), bk_eq h.2.1.2 (fun j hj => e _ (by omega))⟩, fun j h1 h2 => ?_, fun k hk => ?_, fun i hi => ?_⟩
  · rw [e 0 (by decide), e 1 (by decide), e 2 (by decide), e 4 (by decide), e 5 (by decide), e 6 (by decide), e 7 (by decide), e 8 (by decide), e 9 (by decide)]
    exact h.1
  · rw [e _ (by omega), e _ (by omega)]; exact h.2.2.1 j h1 h2
  · rw [h.2.2.2.1 k hk]
    exact (tw_eq fun w hw => e _ (by omega)).symm
  · rw [e6] at hi
    rw [e _ (by omega), e _ (by omega), e _ (by omega)]
    exact h.2.2.2.2 i hi
/-- a packet more, at place p of q -/
theorem put_cr {ρ : Nat → Int32} {n s p q a b c : Nat} {C : Ct} {K : Nat → Int32} (h : CR ρ n s C) (hn : n ≤ 6) (hQ : ρ 6 = nI q) (hq : q < 12) (hp : p ≤ q) (h1 : ∀ i, i < p → K i = C.2.2.1 i) (h2 : K p = kOf (nI a) (nI b) (nI c)) (h3 : ∀ i, p < i → i ≤ q → K i = C.2.2.1 (i - 1)) : CR (rPut ρ p (nI a) (nI b) (nI c)) n s (C.1, uPut C.2.1, K, C.2.2.2) := by
  have eQ := rQ_lt hQ (by omega : q ≤ 12)
  have lo : ∀ x, x < 148 → x ≠ 6 → x ≠ 7 → rPut ρ p (nI a) (nI b) (nI c) x = ρ x := fun x a b c => by
    unfold rPut
    rw [upd_ne c, upd_ne b, rPut0_lo a]
  have e6 : rPut ρ p (nI a) (nI b) (nI c) 6 = ρ 6 + 1 := by unfold rPut; rw [upd_ne (by decide), upd_same]
  have e7 : rPut ρ p (nI a) (nI b) (nI c) 7 = ρ 7 + 1 := by unfold rPut; rw [upd_same]
  have eQ2 : rQ (rPut ρ p (nI a) (nI b) (nI c)) = q + 1 := rQ_lt (by rw [e6, hQ, nI_1]) (by omega)
  refine ⟨⟨?_, ?_, ?_, ?_, ?_, ?_, ?_, ?_, ?_⟩, ⟨bk_eq h.2.1.1 (fun j hj => lo _ (by omega) (by omega) (by omega)), bk_eq h.2.1.2 (fun j hj => lo _ (by omega) (by omega) (by omega))⟩, fun j j1 j2 => ?_, fun k hk => ?_, fun i hi => ?_⟩
  · rw [lo _ (by decide) (by decide) (by decide)]; exact h.1.1
  · rw [lo _ (by decide) (by decide) (by decide)]; exact h.1.2.1
  · rw [lo _ (by decide) (by decide) (by decide)]; exact h.1.2.2.1
  · rw [lo _ (by decide) (by decide) (by decide)]; exact h.1.2.2.2.1
  · rw [lo _ (by decide) (by decide) (by decide)]; exact h.1.2.2.2.2.1
  · rw [e6, h.1.2.2.2.2.2.1]; rfl
  · rw [e7, h.1.2.2.2.2.2.2.1]; rfl
  · rw [lo _ (by decide) (by decide) (by decide)]; exact h.1.2.2.2.2.2.2.2.1
  · rw [lo _ (by decide) (by decide) (by decide)]; exact h.1.2.2.2.2.2.2.2.2
  · rw [lo _ (by omega) (by omega) (by omega), lo _ (by omega) (by omega) (by omega)]; exact h.2.2.1 j j1 j2
  · show C.2.2.2 k = _
    rw [h.2.2.2.1 k hk]
    exact (tw_eq fun w hw => lo _ (by omega) (by omega) (by omega)).symm
  · rw [eQ2] at hi
    show K i = _
    have hi0 : ∀ w, w < 3 → rPut ρ p (nI a) (nI b) (nI c) (148 + 3 * i + w) = rPut0 ρ q p (nI a) (nI b) (nI c) (148 + 3 * i + w) := fun w hw => by
      unfold rPut
      rw [upd_ne (by omega), upd_ne (by omega), eQ]
    rw [hi0 0 (by decide), hi0 1 (by decide), hi0 2 (by decide)]
    unfold rPut0
    rcases Nat.lt_trichotomy i p with c1 | c1 | c1
    · rw [h1 i c1, h.2.2.2.2 i (by omega)]
      rw [upd_ne (by omega), upd_ne (by omega), upd_ne (by omega), pk_cpy_out (Or.inl (by omega)), upd_ne (by omega), upd_ne (by omega), upd_ne (by omega), pk_cpy_out (Or.inl (by omega)), upd_ne (by omega), upd_ne (by omega), upd_ne (by omega), pk_cpy_out (Or.inl (by omega))]
    · subst c1
      rw [h2, upd_ne (show 148 + 3 * i + 0 ≠ 148 + 3 * i + 2 by omega), upd_ne (show 148 + 3 * i + 0 ≠ 148 + 3 * i + 1 by omega), upd_same, upd_ne (show 148 + 3 * i + 1 ≠ 148 + 3 * i + 2 by omega), upd_same, upd_same]
    · rw [h3 i c1 (by omega), h.2.2.2.2 (i - 1) (by omega)]
      rw [upd_ne (by omega), upd_ne (by omega), upd_ne (by omega), pk_cpy_in (by omega) (by omega), upd_ne (by omega), upd_ne (by omega), upd_ne (by omega), pk_cpy_in (by omega) (by omega), upd_ne (by omega), upd_ne (by omega), upd_ne (by omega), pk_cpy_in (by omega) (by omega)]
      rw [show 148 + 3 * p + (148 + 3 * i + 0 - (148 + 3 * p + 3)) = 148 + 3 * (i - 1) + 0 by omega, show 148 + 3 * p + (148 + 3 * i + 1 - (148 + 3 * p + 3)) = 148 + 3 * (i - 1) + 1 by omega, show 148 + 3 * p + (148 + 3 * i + 2 - (148 + 3 * p + 3)) = 148 + 3 * (i - 1) + 2 by omega]
theorem last_cr {ρ : Nat → Int32} {n s q a b c : Nat} {C : Ct} (h : CR ρ n s C) (hn : n ≤ 6) (hQ : ρ 6 = nI q) (hq : q < 12) : CR (rPut ρ q (nI a) (nI b) (nI c)) n s (C.1, uPut C.2.1, upd C.2.2.1 q (kOf (nI a) (nI b) (nI c)), C.2.2.2) :=
  put_cr h hn hQ hq (Nat.le_refl q) (fun i hi => upd_ne (by omega)) (upd_same _ _ _) (fun i h1 h2 => absurd h1 (by omega))
theorem first_cr {ρ : Nat → Int32} {n s q a b c : Nat} {C : Ct} (h : CR ρ n s C) (hn : n ≤ 6) (hQ : ρ 6 = nI q) (hq : q < 12) : CR (rPut ρ 0 (nI a) (nI b) (nI c)) n s (C.1, uPut C.2.1, kOn C.2.2.1 (kOf (nI a) (nI b) (nI c)), C.2.2.2) :=
  put_cr h hn hQ hq (Nat.zero_le q) (fun i hi => absurd hi (Nat.not_lt_zero i)) (upd_same _ _ _) (fun i h1 h2 => by
    unfold kOn
    rw [upd_ne (by omega), pk_cpy_in (by omega) (by omega)]
    exact congrArg C.2.2.1 (by omega))
theorem sBit_n {k : Nat} (h : k < 31) : sBit (nI k) = nI (2 ^ k) := by
  unfold sBit
  have := pk_shlN (n := 1) (nI k &&& 31) k (sh31f ⟨k, by omega⟩) (by rw [Nat.one_mul]; exact Nat.pow_lt_pow_right (by decide) (by omega))
  rw [Nat.one_mul] at this
  exact this
theorem two24 {k : Nat} (h : k < 24) : 2 ^ k < 2 ^ 24 := Nat.pow_lt_pow_right (by decide) h
/-- a bit set -/
theorem bk_set {ρ : Nat → Int32} {b k : Nat} {x : Int32} (h : bk ρ b x) (hk : k < 24) : bk (upd ρ (b + k) 1) b (x ||| sBit (nI k)) := by
  obtain ⟨m, h1, h2, h3⟩ := h
  refine ⟨m ||| 2 ^ k, Nat.or_lt_two_pow h1 (two24 hk), by rw [h2, sBit_n (by omega), orI], fun j hj => ?_⟩
  rw [Nat.testBit_or, Nat.testBit_two_pow]
  by_cases e : j = k
  · rw [e, upd_same, decide_eq_true rfl, Bool.or_true]; rfl
  · rw [upd_ne (by omega), decide_eq_false (Ne.symm e), Bool.or_false]
    exact h3 j hj
theorem bk_clr {ρ : Nat → Int32} {b k : Nat} {x : Int32} (h : bk ρ b x) (hk : k < 24) : bk (upd ρ (b + k) 0) b (x &&& (sBit (nI k) ^^^ -1)) := by
  obtain ⟨m, h1, h2, h3⟩ := h
  refine ⟨m &&& (2 ^ k ^^^ (2 ^ 32 - 1)), Nat.lt_of_le_of_lt Nat.and_le_left h1, by rw [h2, sBit_n (by omega), show (-1 : Int32) = nI (2 ^ 32 - 1) from rfl, xorI, andI], fun j hj => ?_⟩
  rw [Nat.testBit_and, Nat.testBit_xor, Nat.testBit_two_pow, Nat.testBit_two_pow_sub_one, decide_eq_true (show j < 32 by omega)]
  by_cases e : j = k
  · rw [e, upd_same, decide_eq_true rfl]
    show (m.testBit k && false) = _
    rw [Bool.and_false]; rfl
  · rw [upd_ne (by omega), decide_eq_false (Ne.symm e)]
    show (m.testBit j && true) = _
    rw [Bool.and_true]
    exact h3 j hj
theorem bk_oth {ρ : Nat → Int32} {b i : Nat} {x y : Int32} (h : bk ρ b x) (hi : i < b ∨ b + 24 ≤ i) : bk (upd ρ i y) b x := bk_eq h fun j hj => upd_ne (by omega)
theorem CR.rowS {ρ : Nat → Int32} {n s i : Nat} {C : Ct} {y : Int32} {S : Nat → Int32} (h : CR ρ n s C) (hn : n ≤ 6) (h10 : 10 ≤ i) (h58 : i < 58) (hS : ∀ j, j ≠ 2 → j ≠ 3 → S j = C.1 j) (hb : bk (upd ρ i y) 10 (S 2) ∧ bk (upd ρ i y) 34 (S 3)) (hz : ∀ j, s ≤ j → j < 24 → 10 + j ≠ i ∧ 34 + j ≠ i) : CR (upd ρ i y) n s (S, C.2) := by
  refine ⟨?_, hb, fun j j1 j2 => ?_, fun k hk => ?_, fun p hp => ?_⟩
  · show _ = S 4 ∧ _ = S 0 ∧ _ = S 1 ∧ _ = S 5 ∧ _ = S 6 ∧ _
    rw [hS 4 (by decide) (by decide), hS 0 (by decide) (by decide), hS 1 (by decide) (by decide), hS 5 (by decide) (by decide), hS 6 (by decide) (by decide)]
    rw [upd_ne (by omega), upd_ne (by omega), upd_ne (by omega), upd_ne (by omega), upd_ne (by omega), upd_ne (by omega), upd_ne (by omega), upd_ne (by omega), upd_ne (by omega)]
    exact h.1
  · obtain ⟨z1, z2⟩ := hz j j1 j2
    rw [upd_ne z1, upd_ne z2]; exact h.2.2.1 j j1 j2
  · show C.2.2.2 k = _
    rw [tw_out (by omega) (Or.inl h58)]; exact h.2.2.2.1 k hk
  · have e : rQ (upd ρ i y) = rQ ρ := by unfold rQ; rw [upd_ne (by omega)]
    rw [e] at hp
    rw [upd_ne (by omega), upd_ne (by omega), upd_ne (by omega)]
    exact h.2.2.2.2 p hp
theorem dig_cr {ρ : Nat → Int32} {n s k : Nat} {C : Ct} (h : CR ρ n s C) (hn : n ≤ 6) (hk : k < s) (hs : s ≤ 24) : CR (upd ρ (10 + k) 1) n s (sDig C.1 (nI k), C.2) :=
  h.rowS hn (by omega) (by omega) (fun j h2 h3 => upd_ne h2) ⟨by unfold sDig; rw [upd_same]; exact bk_set h.2.1.1 (by omega), by unfold sDig; rw [upd_ne (by decide)]; exact bk_oth h.2.1.2 (Or.inl (by omega))⟩ (fun j j1 j2 => ⟨by omega, by omega⟩)
theorem short_cr {ρ : Nat → Int32} {n s k : Nat} {C : Ct} {b : Bool} (h : CR ρ n s C) (hn : n ≤ 6) (hk : k < s) (hs : s ≤ 24) : CR (upd ρ (34 + k) (bI b)) n s (sShort C.1 (nI k) b, C.2) := by
  refine h.rowS hn (by omega) (by omega) (fun j h2 h3 => upd_ne h3) ⟨?_, ?_⟩ (fun j j1 j2 => ⟨by omega, by omega⟩)
  · unfold sShort
    rw [upd_ne (by decide)]
    exact bk_oth h.2.1.1 (Or.inr (by omega))
  · unfold sShort
    rw [upd_same]
    cases b with
    | true => exact bk_set h.2.1.2 (by omega)
    | false => exact bk_clr h.2.1.2 (by omega)
theorem clear_cr {ρ : Nat → Int32} {n s : Nat} {C : Ct} (h : CR ρ n s C) (hn : n ≤ 6) : CR (upd (upd ρ 9 (ρ 9 + ρ 6)) 6 0) n s (C.1, uClear C.2.1, C.2.2) := by
  refine ⟨⟨h.1.1, h.1.2.1, h.1.2.2.1, h.1.2.2.2.1, h.1.2.2.2.2.1, rfl, h.1.2.2.2.2.2.2.1, h.1.2.2.2.2.2.2.2.1, ?_⟩, ⟨bk_oth (bk_oth h.2.1.1 (Or.inl (by decide))) (Or.inl (by decide)), bk_oth (bk_oth h.2.1.2 (Or.inl (by decide))) (Or.inl (by decide))⟩, fun j j1 j2 => ?_, fun k hk => ?_, fun p hp => ?_⟩
  · show ρ 9 + ρ 6 = C.2.1 4 + C.2.1 1
    rw [h.1.2.2.2.2.2.2.2.2, h.1.2.2.2.2.2.1]
  · rw [upd_ne (by omega), upd_ne (by omega), upd_ne (by omega), upd_ne (by omega)]; exact h.2.2.1 j j1 j2
  · show C.2.2.2 k = _
    rw [tw_out (by omega) (Or.inl (by decide)), tw_out (by omega) (Or.inl (by decide))]; exact h.2.2.2.1 k hk
  · exact absurd hp (Nat.not_lt_zero p)
theorem addr_cr {ρ : Nat → Int32} {n s k : Nat} {C : Ct} {x : Int32} (h : CR ρ n s C) (hn : n ≤ 6) (hk : k < n) : CR (upd ρ (58 + 15 * k + 0) x) n s (C.1, C.2.1, C.2.2.1, updT C.2.2.2 k (upd (C.2.2.2 k) 0 x)) := by
  refine ⟨?_, ⟨bk_oth h.2.1.1 (Or.inr (by omega)), bk_oth h.2.1.2 (Or.inr (by omega))⟩, fun j j1 j2 => ?_, fun i hi => ?_, fun p hp => ?_⟩
  · rw [upd_ne (by omega), upd_ne (by omega), upd_ne (by omega), upd_ne (by omega), upd_ne (by omega), upd_ne (by omega), upd_ne (by omega), upd_ne (by omega), upd_ne (by omega)]
    exact h.1
  · rw [upd_ne (by omega), upd_ne (by omega)]; exact h.2.2.1 j j1 j2
  · show updT C.2.2.2 k (upd (C.2.2.2 k) 0 x) i = _
    by_cases e : i = k
    · rw [e, updT_same, tw_same (by decide), h.2.2.2.1 k hk]
    · rw [updT_ne e, tw_ne (by decide) e, h.2.2.2.1 i hi]
  · have e : rQ (upd ρ (58 + 15 * k + 0) x) = rQ ρ := by unfold rQ; rw [upd_ne (by omega)]
    rw [e] at hp
    rw [upd_ne (by omega), upd_ne (by omega), upd_ne (by omega)]
    exact h.2.2.2.2 p hp
/-- a railway laid anew -/
theorem lay_cr {s y : Nat} {C : Ct} (hs : s ≤ 24) : CR (rBeg (nI s) (nI y)) 0 s (cLay C (nI s) (nI y)) := by
  refine ⟨⟨rfl, rfl, rfl, rfl, rfl, rfl, rfl, rfl, rfl⟩, ⟨⟨0, by decide, rfl, fun j hj => ?_⟩, ⟨0, by decide, rfl, fun j hj => ?_⟩⟩, fun j j1 j2 => ⟨?_, ?_⟩, fun k hk => absurd hk (Nat.not_lt_zero k), fun p hp => absurd hp (Nat.not_lt_zero p)⟩
  · rw [Nat.zero_testBit, show rBeg (nI s) (nI y) (10 + j) = 0 from (upd_ne (by omega)).trans (upd_ne (by omega))]; rfl
  · rw [Nat.zero_testBit, show rBeg (nI s) (nI y) (34 + j) = 0 from (upd_ne (by omega)).trans (upd_ne (by omega))]; rfl
  · exact (upd_ne (by omega)).trans (upd_ne (by omega))
  · exact (upd_ne (by omega)).trans (upd_ne (by omega))
/-- a train more; its other numbers are 0 -/
theorem add_cr {ρ : Nat → Int32} {n s : Nat} {C : Ct} {x y v w : Int32} (h : CR ρ n s C) (hn : n < 6) (hz : ∀ i, i < 15 → ρ (58 + 15 * n + i) = 0) : CR (rNewT ρ n x y v w) (n + 1) s (cAdd C n x y v w) := by
  have lo : ∀ j, j ≠ 3 → (j < 58 ∨ 148 ≤ j) → rNewT ρ n x y v w j = ρ j := fun j j3 j58 => by
    unfold rNewT
    rw [upd_ne (by omega), upd_ne (by omega), upd_ne (by omega), upd_ne (by omega), upd_ne j3]
  have e6 : rQ (rNewT ρ n x y v w) = rQ ρ := by unfold rQ; rw [lo 6 (by decide) (Or.inl (by decide))]
  refine ⟨?_, ⟨bk_eq h.2.1.1 (fun j hj => lo _ (by omega) (Or.inl (by omega))), bk_eq h.2.1.2 (fun j hj => lo _ (by omega) (Or.inl (by omega)))⟩, fun j j1 j2 => ?_, fun i hi => ?_, fun p hp => ?_⟩
  · rw [lo 0 (by decide) (Or.inl (by decide)), lo 1 (by decide) (Or.inl (by decide)), lo 2 (by decide) (Or.inl (by decide)), lo 4 (by decide) (Or.inl (by decide)), lo 5 (by decide) (Or.inl (by decide)), lo 6 (by decide) (Or.inl (by decide)), lo 7 (by decide) (Or.inl (by decide)), lo 8 (by decide) (Or.inl (by decide)), lo 9 (by decide) (Or.inl (by decide))]
    exact h.1
  · rw [lo _ (by omega) (Or.inl (by omega)), lo _ (by omega) (Or.inl (by omega))]; exact h.2.2.1 j j1 j2
  · show updT C.2.2.2 n (tNew x y v w) i = _
    unfold rNewT
    by_cases e : i = n
    · subst e
      rw [updT_same, tw_same (by decide), tw_same (by decide), tw_same (by decide), tw_same (by decide), tw_out (by omega) (Or.inl (by decide))]
      unfold tNew
      congr 4
      funext j
      unfold tw
      split
      · next c => rw [hz j c]
      · rfl
    · rw [updT_ne e, tw_ne (by decide) e, tw_ne (by decide) e, tw_ne (by decide) e, tw_ne (by decide) e, tw_out (by omega) (Or.inl (by decide)), h.2.2.2.1 i (by omega)]
  · rw [e6] at hp
    rw [lo _ (by omega) (Or.inr (by omega)), lo _ (by omega) (Or.inr (by omega)), lo _ (by omega) (Or.inr (by omega))]
    exact h.2.2.2.2 p hp
section ClassBits
variable {G : Gl} {κ : Kx} {d : Nat} {Q : Option Value → Hp → Prop} {X : String → Hp → Prop} {cs ss : Nat} {σ : Hp}
theorem sj_bitCount (hΓ : Ok G κ mJ6_bitCount_0f7a4 (d + 0) Q X) {x : Int32} (hq : Q (some (.int (bcI x))) σ) : AW G κ cs ss 0 [lI x] [] σ := by
  refine sJ6_bitCount_0f7a4_0 hΓ rfl ?_
  refine sJ6_bitCount_0f7a4_1 hΓ rfl ?_
  refine sJ6_bitCount_0f7a4_2 hΓ ?_
  refine sJ6_bitCount_0f7a4_3 hΓ ?_
  refine sJ6_bitCount_0f7a4_4 hΓ ?_
  refine sJ6_bitCount_0f7a4_7 hΓ ?_
  refine sJ6_bitCount_0f7a4_8 hΓ ?_
  refine sJ6_bitCount_0f7a4_9 hΓ ?_
  refine sJ6_bitCount_0f7a4_10 hΓ rfl ?_
  refine sJ6_bitCount_0f7a4_11 hΓ ?_
  refine sJ6_bitCount_0f7a4_14 hΓ ?_
  refine sJ6_bitCount_0f7a4_15 hΓ rfl ?_
  refine sJ6_bitCount_0f7a4_16 hΓ ?_
  refine sJ6_bitCount_0f7a4_17 hΓ ?_
  refine sJ6_bitCount_0f7a4_18 hΓ ?_
  refine sJ6_bitCount_0f7a4_21 hΓ ?_
  refine sJ6_bitCount_0f7a4_22 hΓ ?_
  refine sJ6_bitCount_0f7a4_23 hΓ ?_
  refine sJ6_bitCount_0f7a4_24 hΓ rfl ?_
  refine sJ6_bitCount_0f7a4_25 hΓ rfl ?_
  refine sJ6_bitCount_0f7a4_26 hΓ ?_
  refine sJ6_bitCount_0f7a4_27 hΓ ?_
  refine sJ6_bitCount_0f7a4_28 hΓ ?_
  refine sJ6_bitCount_0f7a4_29 hΓ ?_
  refine sJ6_bitCount_0f7a4_32 hΓ ?_
  refine sJ6_bitCount_0f7a4_33 hΓ ?_
  refine sJ6_bitCount_0f7a4_34 hΓ rfl ?_
  refine sJ6_bitCount_0f7a4_35 hΓ rfl ?_
  refine sJ6_bitCount_0f7a4_36 hΓ ?_
  refine sJ6_bitCount_0f7a4_38 hΓ ?_
  refine sJ6_bitCount_0f7a4_39 hΓ ?_
  refine sJ6_bitCount_0f7a4_40 hΓ ?_
  refine sJ6_bitCount_0f7a4_41 hΓ rfl ?_
  refine sJ6_bitCount_0f7a4_42 hΓ rfl ?_
  refine sJ6_bitCount_0f7a4_43 hΓ ?_
  refine sJ6_bitCount_0f7a4_45 hΓ ?_
  refine sJ6_bitCount_0f7a4_46 hΓ ?_
  refine sJ6_bitCount_0f7a4_47 hΓ ?_
  refine sJ6_bitCount_0f7a4_48 hΓ rfl ?_
  refine sJ6_bitCount_0f7a4_49 hΓ ?_
  refine sJ6_bitCount_0f7a4_51 hΓ ?_
  exact sJ6_bitCount_0f7a4_52 hΓ hq
end ClassBits
