/-! the class's railway and the reference's row: a tick -/
/-- a train's numbers in the row -/
def tw (ρ : Nat → Int32) (k : Nat) : Nat → Int32 := fun w => if w < 15 then ρ (58 + 15 * k + w) else 0
theorem tw_at {ρ : Nat → Int32} {k w : Nat} (h : w < 15) : tw ρ k w = ρ (58 + 15 * k + w) := if_pos h
theorem tw_same {ρ : Nat → Int32} {k i : Nat} {x : Int32} (h : i < 15) : tw (upd ρ (58 + 15 * k + i) x) k = upd (tw ρ k) i x := by
  funext w
  by_cases e : w = i
  · rw [e, upd_same, tw_at h, upd_same]
  · rw [upd_ne e]
    unfold tw
    by_cases c : w < 15
    · rw [if_pos c, if_pos c, upd_ne (by omega)]
    · rw [if_neg c, if_neg c]
theorem tw_eq {ρ ρ1 : Nat → Int32} {k : Nat} (h : ∀ w, w < 15 → ρ1 (58 + 15 * k + w) = ρ (58 + 15 * k + w)) : tw ρ1 k = tw ρ k := by
  funext w
  unfold tw
  by_cases c : w < 15
  · rw [if_pos c, if_pos c, h w c]
  · rw [if_neg c, if_neg c]
theorem tw_ne {ρ : Nat → Int32} {k i j : Nat} {x : Int32} (h : i < 15) (hj : j ≠ k) : tw (upd ρ (58 + 15 * k + i) x) j = tw ρ j := tw_eq fun w hw => upd_ne (by omega)
theorem tw_out {ρ : Nat → Int32} {k i : Nat} {x : Int32} (hk : k < 6) (h : i < 58 ∨ 148 ≤ i) : tw (upd ρ i x) k = tw ρ k := tw_eq fun w hw => upd_ne (by omega)
/-- bytes in one number -/
theorem xorI (a b : Nat) : nI a ^^^ nI b = nI (a ^^^ b) := by
  apply Int32.toBitVec_inj.mp
  show BitVec.ofNat 32 a ^^^ BitVec.ofNat 32 b = BitVec.ofNat 32 (a ^^^ b)
  apply BitVec.eq_of_toNat_eq
  rw [BitVec.toNat_xor, BitVec.toNat_ofNat, BitVec.toNat_ofNat, BitVec.toNat_ofNat, Nat.xor_mod_two_pow]
theorem orI (a b : Nat) : nI a ||| nI b = nI (a ||| b) := by
  apply Int32.toBitVec_inj.mp
  show BitVec.ofNat 32 a ||| BitVec.ofNat 32 b = BitVec.ofNat 32 (a ||| b)
  apply BitVec.eq_of_toNat_eq
  rw [BitVec.toNat_or, BitVec.toNat_ofNat, BitVec.toNat_ofNat, BitVec.toNat_ofNat, Nat.or_mod_two_pow]
theorem xor0 {a b : Nat} : a ^^^ b = 0 ↔ a = b := by
  refine ⟨fun h => ?_, fun h => by rw [h]; exact Nat.xor_self b⟩
  have h1 : (a ^^^ b) ^^^ b = b := by rw [h]; exact Nat.zero_xor b
  rw [Nat.xor_assoc, Nat.xor_self, Nat.xor_zero] at h1
  exact h1
theorem updC {f : Nat → Int32} {i j : Nat} {x y : Int32} (h : i ≠ j) : upd (upd f i x) j y = upd (upd f j y) i x := by
  funext k
  by_cases e : k = j
  · rw [e, upd_same, upd_ne (Ne.symm h), upd_same]
  · rw [upd_ne e]
    by_cases e2 : k = i
    · rw [e2, upd_same, upd_same]
    · rw [upd_ne e2, upd_ne e2, upd_ne e]
theorem kOf_n {a b c : Nat} (ha : a < 256) (hb : b < 256) (hc : c < 256) : kOf (nI a) (nI b) (nI c) = nI (65536 * a + 256 * b + c) := by
  unfold kOf
  rw [pk_shlN _ 16 (by decide) (by omega), pk_shlN _ 8 (by decide) (by omega), orI, orI]
  congr 1
  have e1 : a * 2 ^ 16 ||| b * 2 ^ 8 = 2 ^ 8 * (256 * a + b) := by
    rw [show a * 2 ^ 16 = 2 ^ 16 * a by omega, ← Nat.two_pow_add_eq_or_of_lt (by omega : b * 2 ^ 8 < 2 ^ 16)]
    omega
  rw [e1, ← Nat.two_pow_add_eq_or_of_lt (by omega : c < 2 ^ 8)]
  omega
theorem kA_n {m : Nat} (h : m < 2 ^ 31) : kA (nI m) = nI (m / 65536) := pk_shrN h _ 16 (by decide)
theorem kC_n {m : Nat} (h : m < 2 ^ 31) : kC (nI m) = nI (m / 256 % 256) := by
  unfold kC
  rw [pk_shrN h _ 8 (by decide), pk_andN (by omega) 8 (by decide)]
theorem kW_n {m : Nat} (h : m < 2 ^ 31) : kWh (nI m) = ((m / 65536 ^^^ m / 256 ^^^ m) % 256 == 0) := by
  unfold kWh
  rw [show nI m >>> ((16 : Int32) &&& 31) = nI (m / 65536) from pk_shrN h _ 16 (by decide), show nI m >>> ((8 : Int32) &&& 31) = nI (m / 256) from pk_shrN h _ 8 (by decide), xorI, xorI]
  have h2 : (m / 65536 ^^^ m / 256 ^^^ m) < 2 ^ 31 := Nat.xor_lt_two_pow (Nat.xor_lt_two_pow (by omega) (by omega)) h
  rw [pk_andN (by omega) 8 (by decide)]
  have e : (nI ((m / 65536 ^^^ m / 256 ^^^ m) % 2 ^ 8) = 0) ↔ (m / 65536 ^^^ m / 256 ^^^ m) % 256 = 0 := nI_eq (b := 0) (by omega) (by omega)
  rcases Nat.decEq ((m / 65536 ^^^ m / 256 ^^^ m) % 256) 0 with c | c
  · rw [beq_eq_false_iff_ne.mpr c, beq_eq_false_iff_ne.mpr (fun h9 => c (e.mp h9))]
  · rw [beq_iff_eq.mpr c, beq_iff_eq.mpr (e.mpr c)]
section Bytes
variable {a b c : Nat}
theorem kA_of (ha : a < 256) (hb : b < 256) (hc : c < 256) : kA (kOf (nI a) (nI b) (nI c)) = nI a := by
  rw [kOf_n ha hb hc, kA_n (by omega), show (65536 * a + 256 * b + c) / 65536 = a by omega]
theorem kC_of (ha : a < 256) (hb : b < 256) (hc : c < 256) : kC (kOf (nI a) (nI b) (nI c)) = nI b := by
  rw [kOf_n ha hb hc, kC_n (by omega), show (65536 * a + 256 * b + c) / 256 % 256 = b by omega]
theorem kW_of (ha : a < 256) (hb : b < 256) (hc : c < 256) : kWh (kOf (nI a) (nI b) (nI c)) = ((nI a ^^^ nI b) == nI c) := by
  rw [kOf_n ha hb hc, kW_n (by omega), xorI]
  have e1 : ((65536 * a + 256 * b + c) / 65536 ^^^ (65536 * a + 256 * b + c) / 256 ^^^ (65536 * a + 256 * b + c)) % 2 ^ 8 = (a ^^^ b) ^^^ c := by
    rw [Nat.xor_mod_two_pow, Nat.xor_mod_two_pow, show (65536 * a + 256 * b + c) / 65536 % 2 ^ 8 = a by omega, show (65536 * a + 256 * b + c) / 256 % 2 ^ 8 = b by omega, show (65536 * a + 256 * b + c) % 2 ^ 8 = c by omega]
  have e2 : ((65536 * a + 256 * b + c) / 65536 ^^^ (65536 * a + 256 * b + c) / 256 ^^^ (65536 * a + 256 * b + c)) % 256 = (a ^^^ b) ^^^ c := e1
  rw [e2]
  have hx : a ^^^ b < 2 ^ 8 := Nat.xor_lt_two_pow ha hb
  have e3 : ((a ^^^ b) ^^^ c = 0) ↔ (nI (a ^^^ b) = nI c) := by
    rw [nI_eq (by omega) (by omega)]
    exact xor0
  rcases Nat.decEq ((a ^^^ b) ^^^ c) 0 with q | q
  · rw [beq_eq_false_iff_ne.mpr q, beq_eq_false_iff_ne.mpr (fun h9 => q (e3.mpr h9))]
  · rw [beq_iff_eq.mpr q, beq_iff_eq.mpr (e3.mp q)]
theorem kOf_ne (ha : a < 256) (hb : b < 256) (hc : c < 256) : ¬ kOf (nI a) (nI b) (nI c) = -1 := by
  rw [kOf_n ha hb hc]
  intro h
  have h2 := nI_pos (n := 65536 * a + 256 * b + c) (by omega)
  rw [h] at h2
  exact h2 (by decide)
end Bytes
/-- a number whose bits are the row's -/
def bk (ρ : Nat → Int32) (b : Nat) (x : Int32) : Prop := ∃ m, m < 2 ^ 24 ∧ x = nI m ∧ ∀ j, j < 24 → m.testBit j = (ρ (b + j) == 1)
theorem sh31f : ∀ j : Fin 32, ((nI j.1 &&& 31).toBitVec.smod 32).toNat = j.1 := by decide
theorem bit_n {m j : Nat} (hm : m < 2 ^ 31) (hj : j < 32) : bitB (nI m) (nI j) = m.testBit j := by
  unfold bitB
  rw [pk_shrN hm _ j (sh31f ⟨j, hj⟩), pk_andN (Nat.lt_of_le_of_lt (Nat.div_le_self _ _) (by omega)) 1 (by decide), Nat.testBit_eq_decide_div_mod_eq]
  have e : nI (m / 2 ^ j % 2 ^ 1) = 1 ↔ m / 2 ^ j % 2 = 1 := nI_eq (b := 1) (by omega) (by omega)
  rcases Nat.decEq (m / 2 ^ j % 2) 1 with q | q
  · rw [decide_eq_false q]; exact beq_eq_false_iff_ne.mpr (fun h9 => q (e.mp h9))
  · rw [decide_eq_true q]; exact beq_iff_eq.mpr (e.mpr q)
theorem bk_bit {ρ : Nat → Int32} {b j : Nat} {x : Int32} (h : bk ρ b x) (hj : j < 24) : bitB x (nI j) = (ρ (b + j) == 1) := by
  obtain ⟨m, h1, h2, h3⟩ := h
  rw [h2, bit_n (by omega) (by omega)]
  exact h3 j hj
/-- the row tells what the class's railway is -/
def CR (ρ : Nat → Int32) (n s : Nat) (C : Ct) : Prop :=
  (ρ 0 = C.1 4 ∧ ρ 1 = C.1 0 ∧ ρ 2 = C.1 1 ∧ ρ 4 = C.1 5 ∧ ρ 5 = C.1 6 ∧ ρ 6 = C.2.1 1 ∧ ρ 7 = C.2.1 2 ∧ ρ 8 = C.2.1 3 ∧ ρ 9 = C.2.1 4) ∧
  (bk ρ 10 (C.1 2) ∧ bk ρ 34 (C.1 3)) ∧ (∀ j, s ≤ j → j < 24 → ρ (10 + j) = 0 ∧ ρ (34 + j) = 0) ∧
  (∀ k, k < n → C.2.2.2 k = tw ρ k) ∧ (∀ i, i < rQ ρ → C.2.2.1 i = kOf (ρ (148 + 3 * i + 0)) (ρ (148 + 3 * i + 1)) (ρ (148 + 3 * i + 2)))
/-! one train -/
theorem obey_tw {ρ : Nat → Int32} {k m : Nat} (hm : m ≤ 255) : tw (rObey ρ k (nI m)) k = vObey (nI m) (upd (tw ρ k) 11 (tw ρ k 11 + 1)) := by
  have e6 : nI m >>> ((6 : Int32) &&& 31) = nI m / 64 := by
    rw [pk_shrN (by omega) _ 6 (by decide)]
    exact (pk_div (d := 64) (by omega) (by decide) (by decide)).symm
  have e63 : nI m &&& 63 = rArg (nI m) := by rw [rArg_n hm, pk_andN (by omega) 6 (by decide)]
  have eAdd : ∀ (ρ1 : Nat → Int32), tw (rAdd ρ1 k 11 1) k = upd (tw ρ1 k) 11 (tw ρ1 k 11 + 1) := fun ρ1 => by
    unfold rAdd
    rw [tw_same (by decide), tw_at (by decide)]
  have cm : ∀ (v : Nat → Int32) (i : Nat) (x : Int32), i ≠ 11 → upd (upd v i x) 11 (upd v i x 11 + 1) = upd (upd v 11 (v 11 + 1)) i x := fun v i x hi => by
    rw [upd_ne (Ne.symm hi), updC hi]
  unfold rObey
  rw [eAdd]
  unfold rObey0 vObey
  rw [e6, e63]
  split
  · rw [tw_same (by decide), cm _ _ _ (by decide)]
    congr 1
    unfold iMin
    by_cases c : 28 < rArg (nI m)
    · rw [if_pos c, if_neg (Int32.lt_asymm c)]
    · rw [if_neg c]
      by_cases c2 : rArg (nI m) < 28
      · rw [if_pos c2]
      · rw [if_neg c2]; exact (Int32.le_antisymm (Int32.not_lt.mp c) (Int32.not_lt.mp c2))
  · split
    · rw [tw_same (by decide), cm _ _ _ (by decide)]
    · split
      · rw [tw_same (by decide), tw_same (by decide), cm _ _ _ (by decide), cm _ _ _ (by decide)]
      · rfl

