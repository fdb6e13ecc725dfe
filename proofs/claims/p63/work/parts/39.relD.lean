/-! the class's railway and the reference's row: how many bits; what both tell -/
theorem and_split {x y p q : Nat} (hx : x < 256) (hp : p < 256) : (x + 256 * y) &&& (p + 256 * q) = (x &&& p) + 256 * (y &&& q) := by
  have h1 : ((x + 256 * y) &&& (p + 256 * q)) % 2 ^ 8 = x &&& p := by
    rw [Nat.and_mod_two_pow, show (x + 256 * y) % 2 ^ 8 = x by omega, show (p + 256 * q) % 2 ^ 8 = p by omega]
  have h2 : ((x + 256 * y) &&& (p + 256 * q)) / 2 ^ 8 = y &&& q := by
    rw [Nat.and_div_two_pow, show (x + 256 * y) / 2 ^ 8 = y by omega, show (p + 256 * q) / 2 ^ 8 = q by omega]
  omega
def bf1 (a : Nat) : Nat := a - (a / 2 &&& 85)
def bf2 (a : Nat) : Nat := (a &&& 51) + (a / 4 &&& 51)
def bf3 (a : Nat) : Nat := (a + a / 16) &&& 15
def bfp (a : Nat) : Nat := bf3 (bf2 (bf1 a))
theorem bt1 : ∀ a : Fin 256, ∀ e : Fin 2, (a.1 / 2 + 128 * e.1) &&& 85 = a.1 / 2 &&& 85 ∧ (a.1 / 2 &&& 85) ≤ a.1 := by decide +kernel
theorem bt2 : ∀ a : Fin 256, ∀ e : Fin 4, (a.1 / 4 + 64 * e.1) &&& 51 = a.1 / 4 &&& 51 := by decide +kernel
theorem bt3 : ∀ a : Fin 256, ∀ e : Fin 5, bf2 (bf1 a.1) ≤ 68 ∧ bf2 (bf1 a.1) % 16 ≤ 4 ∧ (bf2 (bf1 a.1) + (bf2 (bf1 a.1) / 16 + 16 * e.1)) &&& 15 = bfp a.1 := by decide +kernel
theorem btp : ∀ a : Fin 256, bfp a.1 = a.1 % 2 + a.1 / 2 % 2 + a.1 / 4 % 2 + a.1 / 8 % 2 + a.1 / 16 % 2 + a.1 / 32 % 2 + a.1 / 64 % 2 + a.1 / 128 % 2 ∧ bfp a.1 ≤ 8 := by decide +kernel
theorem nat_b1 {m a b c : Nat} (ha : a < 256) (hb : b < 256) (hc : c < 256) (hm : m = a + 256 * (b + 256 * c)) : m / 2 &&& 1431655765 ≤ m ∧ m - (m / 2 &&& 1431655765) = bf1 a + 256 * (bf1 b + 256 * bf1 c) := by
  have e : m / 2 &&& 1431655765 = (a / 2 &&& 85) + 256 * ((b / 2 &&& 85) + 256 * (c / 2 &&& 85)) := by
    rw [show m / 2 = (a / 2 + 128 * (b % 2)) + 256 * ((b / 2 + 128 * (c % 2)) + 256 * (c / 2)) by omega, show 1431655765 = 85 + 256 * (85 + 256 * (85 + 256 * 85)) from rfl, and_split (by omega) (by omega), and_split (by omega) (by omega)]
    have e1 := (bt1 ⟨a, ha⟩ ⟨b % 2, by omega⟩).1
    have e2 := (bt1 ⟨b, hb⟩ ⟨c % 2, by omega⟩).1
    have e3 : c / 2 &&& (85 + 256 * 85) = c / 2 &&& 85 := by
      have := and_split (x := c / 2) (y := 0) (p := 85) (q := 85) (by omega) (by omega)
      rw [Nat.mul_zero, Nat.add_zero, Nat.zero_and, Nat.mul_zero, Nat.add_zero] at this
      exact this
    rw [e3]
    show (a / 2 + 128 * (b % 2) &&& 85) + 256 * ((b / 2 + 128 * (c % 2) &&& 85) + 256 * _) = _
    rw [e1, e2]
  have l1 := (bt1 ⟨a, ha⟩ 0).2
  have l2 := (bt1 ⟨b, hb⟩ 0).2
  have l3 := (bt1 ⟨c, hc⟩ 0).2
  have l1 : (a / 2 &&& 85) ≤ a := l1
  have l2 : (b / 2 &&& 85) ≤ b := l2
  have l3 : (c / 2 &&& 85) ≤ c := l3
  rw [e, hm]
  unfold bf1
  omega
theorem bf1_le {a : Nat} (h : a < 256) : bf1 a < 256 := by unfold bf1; omega
theorem nat_b2 {m a b c : Nat} (ha : a < 256) (hb : b < 256) (hc : c < 256) (hm : m = a + 256 * (b + 256 * c)) : (m &&& 858993459) + (m / 4 &&& 858993459) = bf2 a + 256 * (bf2 b + 256 * bf2 c) := by
  have c51 : ∀ v, v < 256 → v &&& (51 + 256 * 51) = v &&& 51 := fun v hv => by
    have := and_split (x := v) (y := 0) (p := 51) (q := 51) hv (by omega)
    rw [Nat.mul_zero, Nat.add_zero, Nat.zero_and, Nat.mul_zero, Nat.add_zero] at this
    exact this
  have e1 : m &&& 858993459 = (a &&& 51) + 256 * ((b &&& 51) + 256 * (c &&& 51)) := by
    rw [hm, show 858993459 = 51 + 256 * (51 + 256 * (51 + 256 * 51)) from rfl, and_split ha (by omega), and_split hb (by omega), c51 c hc]
  have e2 : m / 4 &&& 858993459 = (a / 4 &&& 51) + 256 * ((b / 4 &&& 51) + 256 * (c / 4 &&& 51)) := by
    rw [show m / 4 = (a / 4 + 64 * (b % 4)) + 256 * ((b / 4 + 64 * (c % 4)) + 256 * (c / 4)) by omega, show 858993459 = 51 + 256 * (51 + 256 * (51 + 256 * 51)) from rfl, and_split (by omega) (by omega), and_split (by omega) (by omega), c51 _ (by omega)]
    have f1 := bt2 ⟨a, ha⟩ ⟨b % 4, by omega⟩
    have f2 := bt2 ⟨b, hb⟩ ⟨c % 4, by omega⟩
    show (a / 4 + 64 * (b % 4) &&& 51) + 256 * ((b / 4 + 64 * (c % 4) &&& 51) + 256 * _) = _
    rw [f1, f2]
  rw [e1, e2]
  unfold bf2
  omega
theorem nat_b3' {m x y w A B D : Nat} (hx : x ≤ 68) (hy : y ≤ 68) (hw : w ≤ 68) (hy4 : y % 16 ≤ 4) (hw4 : w % 16 ≤ 4) (hm : m = x + 256 * (y + 256 * w)) (fa : (x + (x / 16 + 16 * (y % 16))) &&& 15 = A) (fb : (y + (y / 16 + 16 * (w % 16))) &&& 15 = B) (fc : (w + (w / 16 + 16 * 0)) &&& 15 = D) : (m + m / 16) &&& 252645135 = A + 256 * (B + 256 * D) := by
  have c15 : ∀ v, v < 256 → v &&& (15 + 256 * 15) = v &&& 15 := fun v hv => by
    have := and_split (x := v) (y := 0) (p := 15) (q := 15) hv (by omega)
    rw [Nat.mul_zero, Nat.add_zero, Nat.zero_and, Nat.mul_zero, Nat.add_zero] at this
    exact this
  rw [show m + m / 16 = (x + (x / 16 + 16 * (y % 16))) + 256 * ((y + (y / 16 + 16 * (w % 16))) + 256 * (w + (w / 16 + 16 * 0))) by omega, show 252645135 = 15 + 256 * (15 + 256 * (15 + 256 * 15)) from rfl, and_split (by omega) (by omega), and_split (by omega) (by omega), c15 _ (by omega), fa, fb, fc]
theorem nat_b3 {m a b c : Nat} (ha : a < 256) (hb : b < 256) (hc : c < 256) (hm : m = bf2 (bf1 a) + 256 * (bf2 (bf1 b) + 256 * bf2 (bf1 c))) : (m + m / 16) &&& 252645135 = bfp a + 256 * (bfp b + 256 * bfp c) := by
  have b1 : bf2 (bf1 b) % 16 ≤ 4 := (bt3 ⟨b, hb⟩ 0).2.1
  have c1 : bf2 (bf1 c) % 16 ≤ 4 := (bt3 ⟨c, hc⟩ 0).2.1
  exact nat_b3' (bt3 ⟨a, ha⟩ 0).1 (bt3 ⟨b, hb⟩ 0).1 (bt3 ⟨c, hc⟩ 0).1 b1 c1 hm (bt3 ⟨a, ha⟩ ⟨bf2 (bf1 b) % 16, by omega⟩).2.2 (bt3 ⟨b, hb⟩ ⟨bf2 (bf1 c) % 16, by omega⟩).2.2 (bt3 ⟨c, hc⟩ 0).2.2
def us (x y : Int32) : Int32 := (x.toUInt32 >>> (y.toUInt32 &&& Int32.toUInt32 31)).toInt32
def bi1 (x : Int32) : Int32 := x - (us x 1 &&& 1431655765)
def bi2 (x : Int32) : Int32 := (x &&& 858993459) + (us x 2 &&& 858993459)
def bi3 (x : Int32) : Int32 := (x + us x 4) &&& 252645135
def bi4 (x : Int32) : Int32 := x + us x 8
def bi5 (x : Int32) : Int32 := x + us x 16
def bcI (x : Int32) : Int32 := bi5 (bi4 (bi3 (bi2 (bi1 x)))) &&& 63
theorem andI (a b : Nat) : nI a &&& nI b = nI (a &&& b) := by
  apply Int32.toBitVec_inj.mp
  show BitVec.ofNat 32 a &&& BitVec.ofNat 32 b = BitVec.ofNat 32 (a &&& b)
  apply BitVec.eq_of_toNat_eq
  rw [BitVec.toNat_and, BitVec.toNat_ofNat, BitVec.toNat_ofNat, BitVec.toNat_ofNat, Nat.and_mod_two_pow]
theorem us_n {m k : Nat} {y : Int32} (h : m < 2 ^ 32) (hs : ((y.toUInt32 &&& Int32.toUInt32 31).toBitVec % 32).toNat = k) : us (nI m) y = nI (m / 2 ^ k) := pk_ushrN h y k hs
theorem bcI_n {m : Nat} (h : m < 2 ^ 24) : bcI (nI m) = nI (bfp (m % 256) + bfp (m / 256 % 256) + bfp (m / 65536)) := by
  have hm : m = m % 256 + 256 * (m / 256 % 256 + 256 * (m / 65536)) := by omega
  have ha : m % 256 < 256 := by omega
  have hb : m / 256 % 256 < 256 := by omega
  have hc : m / 65536 < 256 := by omega
  revert hm ha hb hc
  generalize m % 256 = a
  generalize m / 256 % 256 = b
  generalize m / 65536 = c
  intro hm ha hb hc
  have b1 := bf1_le ha
  have b2 := bf1_le hb
  have b3 := bf1_le hc
  have a1 : bf2 (bf1 a) ≤ 68 := (bt3 ⟨a, ha⟩ 0).1
  have a2 : bf2 (bf1 b) ≤ 68 := (bt3 ⟨b, hb⟩ 0).1
  have a3 : bf2 (bf1 c) ≤ 68 := (bt3 ⟨c, hc⟩ 0).1
  have pa : bfp a ≤ 8 := (btp ⟨a, ha⟩).2
  have pb : bfp b ≤ 8 := (btp ⟨b, hb⟩).2
  have pc : bfp c ≤ 8 := (btp ⟨c, hc⟩).2
  have s1 : bi1 (nI m) = nI (bf1 a + 256 * (bf1 b + 256 * bf1 c)) := by
    obtain ⟨l1, e1⟩ := nat_b1 ha hb hc hm
    unfold bi1
    rw [us_n (k := 1) (by omega) (by decide), show (1431655765 : Int32) = nI 1431655765 from rfl, andI, ← e1]
    exact pk_sub l1
  have s2 : bi2 (nI (bf1 a + 256 * (bf1 b + 256 * bf1 c))) = nI (bf2 (bf1 a) + 256 * (bf2 (bf1 b) + 256 * bf2 (bf1 c))) := by
    unfold bi2
    rw [us_n (k := 2) (by omega) (by decide), show (858993459 : Int32) = nI 858993459 from rfl, andI, andI, nI_add]
    exact congrArg nI (nat_b2 b1 b2 b3 rfl)
  have s3 : bi3 (nI (bf2 (bf1 a) + 256 * (bf2 (bf1 b) + 256 * bf2 (bf1 c)))) = nI (bfp a + 256 * (bfp b + 256 * bfp c)) := by
    unfold bi3
    rw [us_n (k := 4) (by omega) (by decide), show (252645135 : Int32) = nI 252645135 from rfl, nI_add, andI]
    exact congrArg nI (nat_b3 ha hb hc rfl)
  unfold bcI
  rw [s1, s2, s3]
  generalize bfp a = x at pa
  generalize bfp b = y at pb
  generalize bfp c = w at pc
  unfold bi5 bi4
  have d1 : (x + 256 * (y + 256 * w)) / 2 ^ 8 = y + 256 * w := by omega
  have d2 : (x + 256 * (y + 256 * w) + (y + 256 * w)) / 2 ^ 16 = w := by omega
  rw [us_n (k := 8) (by omega) (by decide), nI_add, d1, us_n (k := 16) (by omega) (by decide), nI_add, d2, pk_andN (by omega) 6 (by decide)]
  congr 1
  omega
def bsum (m : Nat) : Nat → Nat
  | 0 => 0
  | n + 1 => bsum m n + m / 2 ^ n % 2
theorem byte_sum {a : Nat} (h : a < 256) : bfp a = bsum a 8 := by
  have h1 : bfp a = _ := (btp ⟨a, h⟩).1
  rw [h1]
  show a % 2 + a / 2 % 2 + a / 4 % 2 + a / 8 % 2 + a / 16 % 2 + a / 32 % 2 + a / 64 % 2 + a / 128 % 2 = 0 + a / 2 ^ 0 % 2 + a / 2 ^ 1 % 2 + a / 2 ^ 2 % 2 + a / 2 ^ 3 % 2 + a / 2 ^ 4 % 2 + a / 2 ^ 5 % 2 + a / 2 ^ 6 % 2 + a / 2 ^ 7 % 2
  rw [Nat.zero_add, show a / 2 ^ 0 = a from Nat.div_one a]
theorem bsum_hi (a b : Nat) (h : a < 2 ^ 8) : ∀ n, bsum (a + 2 ^ 8 * b) (8 + n) = bsum a 8 + bsum b n
  | 0 => by
    have e : ∀ k, k ≤ 8 → bsum (a + 2 ^ 8 * b) k = bsum a k := fun k => by
      induction k with
      | zero => intro _; rfl
      | succ k ih =>
        intro hk
        show bsum (a + 2 ^ 8 * b) k + (a + 2 ^ 8 * b) / 2 ^ k % 2 = bsum a k + a / 2 ^ k % 2
        rw [ih (by omega)]
        congr 1
        have e1 : (2 : Nat) ^ 8 = 2 ^ k * (2 * 2 ^ (7 - k)) := by
          rw [← Nat.pow_succ', ← Nat.pow_add]
          congr 1
          omega
        rw [e1, Nat.mul_assoc, Nat.add_mul_div_left _ _ (Nat.two_pow_pos k), Nat.mul_assoc, Nat.add_mul_mod_self_left]
    exact e 8 (Nat.le_refl 8)
  | n + 1 => by
    show bsum (a + 2 ^ 8 * b) (8 + n) + (a + 2 ^ 8 * b) / 2 ^ (8 + n) % 2 = bsum a 8 + (bsum b n + b / 2 ^ n % 2)
    rw [bsum_hi a b h n, Nat.pow_add, ← Nat.div_div_eq_div_mul, Nat.add_mul_div_left _ _ (Nat.two_pow_pos 8), Nat.div_eq_of_lt h, Nat.zero_add, Nat.add_assoc]
theorem bits_sum {m : Nat} (h : m < 2 ^ 24) : sumN (fun j => bI (m.testBit j)) 24 = nI (bfp (m % 256) + bfp (m / 256 % 256) + bfp (m / 65536)) := by
  have hb : ∀ j, bI (m.testBit j) = nI (m / 2 ^ j % 2) := fun j => by
    rw [Nat.testBit_eq_decide_div_mod_eq]
    rcases Nat.decEq (m / 2 ^ j % 2) 1 with q | q
    · rw [decide_eq_false q, show m / 2 ^ j % 2 = 0 by omega]; rfl
    · rw [decide_eq_true q, q]; rfl
  have hm : m = m % 256 + 2 ^ 8 * (m / 256 % 256 + 2 ^ 8 * (m / 65536)) := by omega
  have hs : bsum m 24 = bfp (m % 256) + bfp (m / 256 % 256) + bfp (m / 65536) := by
    rw [byte_sum (a := m % 256) (by omega), byte_sum (a := m / 256 % 256) (by omega), byte_sum (a := m / 65536) (by omega)]
    have e1 := bsum_hi (m % 256) (m / 256 % 256 + 2 ^ 8 * (m / 65536)) (by omega) 16
    have e2 := bsum_hi (m / 256 % 256) (m / 65536) (by omega) 8
    rw [← hm] at e1
    have e1 : bsum m 24 = _ := e1
    have e2 : bsum (m / 256 % 256 + 2 ^ 8 * (m / 65536)) 16 = _ := e2
    rw [e1, e2, Nat.add_assoc]
  have e : ∀ n, sumN (fun j => bI (m.testBit j)) n = nI (bsum m n) := fun n => by
    induction n with
    | zero => rfl
    | succ n ih => show sumN _ n + bI (m.testBit n) = nI (bsum m n + m / 2 ^ n % 2); rw [ih, hb, nI_add]
  rw [e, hs]

