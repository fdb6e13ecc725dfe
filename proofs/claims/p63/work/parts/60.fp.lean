/-! floats and doubles that are numbers: what a quotient of two ints is -/
theorem fo_t32 : FP.Core.Fmt.tails FP.Core.b32 = 8388608 := by decide +kernel
theorem fo_e32 : FP.Core.Fmt.exps FP.Core.b32 = 256 := by decide +kernel
theorem fo_t64 : FP.Core.Fmt.tails FP.Core.b64 = 4503599627370496 := by decide +kernel
theorem fo_e64 : FP.Core.Fmt.exps FP.Core.b64 = 2048 := by decide +kernel
/-- what is needed of a format -/
def fo_g (f : FP.Core.Fmt) : Prop :=
  1 < f.tails ∧ 2 ^ f.p = 2 * f.tails ∧ (f.qmax - f.qmin).toNat + 2 < f.exps ∧ f.qmin ≤ 0 ∧ 33 ≤ f.qmax ∧ 1 ≤ f.p
theorem fo_g32 : fo_g FP.Core.b32 := ⟨by decide +kernel, by decide +kernel, by decide +kernel, by decide +kernel, by decide +kernel, by decide +kernel⟩
theorem fo_g64 : fo_g FP.Core.b64 := ⟨by decide +kernel, by decide +kernel, by decide +kernel, by decide +kernel, by decide +kernel, by decide +kernel⟩
/-- an encoding that is no NaN; one of a finite number -/
def fo_n (f : FP.Core.Fmt) (n : Nat) : Prop := ∃ (s : Bool) (E T : Nat), n = FP.Core.assemble f s E T ∧ T < f.tails ∧ E < f.exps ∧ (E = f.exps - 1 → T = 0)
def fo_f (f : FP.Core.Fmt) (b : Prop) (n : Nat) : Prop := ∃ (s : Bool) (E T : Nat), n = FP.Core.assemble f s E T ∧ T < f.tails ∧ E < f.exps - 1 ∧ (b → E ≠ 0 ∨ T ≠ 0)
theorem fo_fn {f : FP.Core.Fmt} {b : Prop} {n : Nat} (h : fo_f f b n) : fo_n f n := by
  obtain ⟨s, E, T, h1, h2, h3, -⟩ := h
  exact ⟨s, E, T, h1, h2, by omega, fun e => by omega⟩
theorem fo_T {f : FP.Core.Fmt} {s : Bool} {E T : Nat} (hT : T < f.tails) : FP.Core.fieldT f (FP.Core.assemble f s E T) = T := by
  unfold FP.Core.fieldT FP.Core.assemble
  rw [Nat.mul_add_mod', Nat.mod_eq_of_lt hT]
theorem fo_E {f : FP.Core.Fmt} {s : Bool} {E T : Nat} (hT : T < f.tails) (hE : E < f.exps) : FP.Core.fieldE f (FP.Core.assemble f s E T) = E := by
  unfold FP.Core.fieldE FP.Core.assemble
  rw [Nat.mul_comm (s.toNat * f.exps + E) f.tails, Nat.mul_add_div (by omega), Nat.div_eq_of_lt hT, Nat.add_zero, Nat.mul_add_mod', Nat.mod_eq_of_lt hE]
theorem fo_dec {f : FP.Core.Fmt} {n : Nat} (h : fo_n f n) : FP.Core.decode f n ≠ .nan := by
  obtain ⟨s, E, T, rfl, hT, hE, h0⟩ := h
  unfold FP.Core.decode
  rw [fo_T hT, fo_E hT hE]
  by_cases e : E = f.exps - 1
  · rw [if_pos e, if_pos (h0 e)]
    exact fun c => by cases c
  · rw [if_neg e]
    split
    · exact fun c => by cases c
    · exact fun c => by cases c
theorem fo_decf {f : FP.Core.Fmt} {b : Prop} {n : Nat} (hg : fo_g f) (h : fo_f f b n) : ∃ (s : Bool) (c : Nat) (q : Int), FP.Core.decode f n = .fin s c q ∧ (b → c ≠ 0) := by
  obtain ⟨s, E, T, rfl, hT, hE, h0⟩ := h
  have h1 := hg.1
  unfold FP.Core.decode
  rw [fo_T hT, fo_E hT (by omega), if_neg (by omega)]
  by_cases e : E = 0
  · rw [if_pos e]
    exact ⟨_, _, _, rfl, fun hb => (h0 hb).resolve_left (fun c => c e)⟩
  · rw [if_neg e]
    exact ⟨_, _, _, rfl, fun _ => by omega⟩
theorem fo_enc {f : FP.Core.Fmt} (hg : fo_g f) {s : Bool} {c : Nat} {q : Int} (hc : c < 2 ^ f.p) (hq : q ≤ f.qmax) : fo_f f (c ≠ 0) (FP.Core.encode f (.fin s c q)) := by
  obtain ⟨g1, g2, g3, g4, g5, g6⟩ := hg
  rw [g2] at hc
  show fo_f f (c ≠ 0) (if c < f.tails then FP.Core.assemble f s 0 c else FP.Core.assemble f s ((q - f.qmin).toNat + 1) (c - f.tails))
  by_cases e : c < f.tails
  · rw [if_pos e]
    exact ⟨s, 0, c, rfl, e, by omega, fun h => Or.inr h⟩
  · rw [if_neg e]
    exact ⟨s, _, _, rfl, by omega, by omega, fun _ => Or.inl (by omega)⟩
/-- what rounding gives -/
theorem fo_rr {f : FP.Core.Fmt} (hg : fo_g f) (s : Bool) (A B : Nat) (e : Int) : FP.Core.roundRatio f s A B e = .inf s ∨ ∃ (c : Nat) (q : Int), FP.Core.roundRatio f s A B e = .fin s c q ∧ c < 2 ^ f.p ∧ q ≤ f.qmax := by
  obtain ⟨g1, g2, g3, g4, g5, g6⟩ := hg
  have hb : ∀ (c : Nat) (q : Int), c < 2 ^ f.p → FP.Core.bound f s c q = .inf s ∨ ∃ (c1 : Nat) (q1 : Int), FP.Core.bound f s c q = .fin s c1 q1 ∧ c1 < 2 ^ f.p ∧ q1 ≤ f.qmax := fun c q hc => by
    unfold FP.Core.bound
    by_cases h : q ≤ f.qmax
    · rw [if_pos h]; exact Or.inr ⟨c, q, rfl, hc, h⟩
    · rw [if_neg h]; exact Or.inl rfl
  unfold FP.Core.roundRatio
  by_cases h : A = 0
  · rw [if_pos h]
    exact Or.inr ⟨0, f.qmin, rfl, by omega, by omega⟩
  · rw [if_neg h]
    unfold FP.Core.roundAt FP.Core.settle
    split
    · next h1 => exact hb _ _ h1
    · exact hb _ _ (by omega)
theorem fo_rn {f : FP.Core.Fmt} (hg : fo_g f) (s : Bool) (A B : Nat) (e : Int) : fo_n f (FP.Core.encode f (FP.Core.roundRatio f s A B e)) := by
  rcases fo_rr hg s A B e with h | ⟨c, q, h, h1, h2⟩
  · rw [h]
    have h1 := hg.1
    have h3 := hg.2.2.1
    exact ⟨s, f.exps - 1, 0, rfl, by omega, by omega, fun _ => rfl⟩
  · rw [h]
    exact fo_fn (fo_enc hg h1 h2)
theorem fo_lead {N : Nat} (h : N ≠ 0) : FP.Core.leading N 1 = (N.log2 : Int) := by
  have e1 : Nat.log2 1 = 0 := by decide +kernel
  have h1 := Nat.log2_self_le h
  have e2 : ((N.log2 : Int) - (Nat.log2 1 : Int)) = (N.log2 : Int) := by rw [e1]; omega
  have e3 : ((N.log2 : Int)).toNat = N.log2 := by omega
  have e4 : (-(N.log2 : Int)).toNat = 0 := by omega
  show (if 1 * 2 ^ ((N.log2 : Int) - (Nat.log2 1 : Int)).toNat ≤ N * 2 ^ (-((N.log2 : Int) - (Nat.log2 1 : Int))).toNat then ((N.log2 : Int) - (Nat.log2 1 : Int)) else ((N.log2 : Int) - (Nat.log2 1 : Int)) - 1) = _
  rw [e2, e3, e4, if_pos (by omega)]
theorem fo_near (a b : Nat) : a / b ≤ FP.Core.nearest a b := by
  unfold FP.Core.nearest
  split
  · omega
  · split
    · omega
    · omega
/-- an int as a float -/
theorem fo_int {f : FP.Core.Fmt} (hg : fo_g f) {i : Int} (hi : i.natAbs < 2 ^ 32) : fo_f f (i ≠ 0) (FP.Core.fromInt f i) := by
  obtain ⟨g1, g2, g3, g4, g5, g6⟩ := id hg
  show fo_f f (i ≠ 0) (FP.Core.encode f (FP.Core.roundRatio f (decide (i < 0)) i.natAbs 1 0))
  unfold FP.Core.roundRatio
  by_cases h0 : i.natAbs = 0
  · rw [if_pos h0]
    obtain ⟨s, E, T, h1, h2, h3, -⟩ := fo_enc hg (s := decide (i < 0)) (c := 0) (q := f.qmin) (by omega) (by omega)
    exact ⟨s, E, T, h1, h2, h3, fun h => absurd (Int.natAbs_eq_zero.mp h0) h⟩
  · rw [if_neg h0]
    have hl : i.natAbs.log2 < 32 := (Nat.log2_lt h0).mpr hi
    have hp := Nat.log2_self_le h0
    generalize decide (i < 0) = s
    generalize i.natAbs = N at h0 hl hp ⊢
    have hQ : FP.Core.quantum f N 1 0 ≤ (N.log2 : Int) := by
      unfold FP.Core.quantum
      rw [fo_lead h0]
      omega
    generalize FP.Core.quantum f N 1 0 = q at hQ ⊢
    have hc : FP.Core.nearest (FP.Core.unitsNum N 0 q) (FP.Core.unitsDen 1 0 q) ≠ 0 := by
      have h1 := fo_near (FP.Core.unitsNum N 0 q) (FP.Core.unitsDen 1 0 q)
      have h2 : 0 < FP.Core.unitsNum N 0 q / FP.Core.unitsDen 1 0 q := by
        have h3 : 0 < 2 ^ (q - 0).toNat := Nat.pow_pos (by decide)
        have h4 : 0 < 2 ^ ((0 : Int) - q).toNat := Nat.pow_pos (by decide)
        have h5 : 2 ^ (q - 0).toNat ≤ 2 ^ N.log2 := Nat.pow_le_pow_right (by decide) (by omega)
        unfold FP.Core.unitsNum FP.Core.unitsDen
        refine Nat.div_pos ?_ (by omega)
        have h6 : N * 1 ≤ N * 2 ^ ((0 : Int) - q).toNat := Nat.mul_le_mul_left N h4
        omega
      omega
    unfold FP.Core.roundAt
    generalize FP.Core.nearest (FP.Core.unitsNum N 0 q) (FP.Core.unitsDen 1 0 q) = c at hc ⊢
    unfold FP.Core.settle FP.Core.bound
    by_cases h7 : c < 2 ^ f.p
    · rw [if_pos h7, if_pos (by omega)]
      obtain ⟨s1, E, T, h1, h2, h3, h4⟩ := fo_enc hg (s := s) h7 (show q ≤ f.qmax by omega)
      exact ⟨s1, E, T, h1, h2, h3, fun _ => h4 hc⟩
    · rw [if_neg h7, if_pos (by omega)]
      obtain ⟨s1, E, T, h1, h2, h3, h4⟩ := fo_enc hg (s := s) (c := f.tails) (show f.tails < 2 ^ f.p by omega) (show q + 1 ≤ f.qmax by omega)
      exact ⟨s1, E, T, h1, h2, h3, fun _ => h4 (by omega)⟩
/-- a quotient of two ints, the second not 0, is no NaN -/
theorem fo_div {f : FP.Core.Fmt} (hg : fo_g f) {a b : Nat} {p : Prop} (ha : fo_f f p a) (hb : fo_f f True b) : fo_n f (FP.Core.div f a b) := by
  obtain ⟨s1, c1, q1, h1, -⟩ := fo_decf hg ha
  obtain ⟨s2, c2, q2, h2, h3⟩ := fo_decf hg hb
  unfold FP.Core.div
  rw [h1, h2]
  show fo_n f (FP.Core.encode f (if c2 = 0 then (if c1 = 0 then .nan else .inf (s1 != s2)) else FP.Core.roundRatio f (s1 != s2) c1 c2 (q1 - q2)))
  rw [if_neg (h3 trivial)]
  exact fo_rn hg _ _ _ _
theorem fo_lt64 {n : Nat} (h : fo_n FP.Core.b64 n) : n < 18446744073709551616 ∧ n % 2 ^ 63 ≤ 9218868437227405312 := by
  obtain ⟨s, E, T, rfl, hT, hE, h0⟩ := h
  unfold FP.Core.assemble
  rw [fo_t64] at hT ⊢
  rw [fo_e64] at hE h0 ⊢
  cases s
  · show (0 * 2048 + E) * 4503599627370496 + T < _ ∧ ((0 * 2048 + E) * 4503599627370496 + T) % 2 ^ 63 ≤ _
    omega
  · show (1 * 2048 + E) * 4503599627370496 + T < _ ∧ ((1 * 2048 + E) * 4503599627370496 + T) % 2 ^ 63 ≤ _
    omega
theorem fo_lt32 {n : Nat} (h : fo_n FP.Core.b32 n) : n < 4294967296 ∧ n % 2 ^ 31 ≤ 2139095040 := by
  obtain ⟨s, E, T, rfl, hT, hE, h0⟩ := h
  unfold FP.Core.assemble
  rw [fo_t32] at hT ⊢
  rw [fo_e32] at hE h0 ⊢
  cases s
  · show (0 * 256 + E) * 8388608 + T < _ ∧ ((0 * 256 + E) * 8388608 + T) % 2 ^ 31 ≤ _
    omega
  · show (1 * 256 + E) * 8388608 + T < _ ∧ ((1 * 256 + E) * 8388608 + T) % 2 ^ 31 ≤ _
    omega
/-- bits of a double, a float, that is no NaN -/
def fo_d (r : UInt64) : Prop := fo_n FP.Core.b64 r.toNat
def fo_s (r : UInt32) : Prop := fo_n FP.Core.b32 r.toNat
theorem fo_d_of {n : Nat} (h : fo_n FP.Core.b64 n) : fo_d (UInt64.ofNat n) := by
  unfold fo_d
  rw [UInt64.toNat_ofNat_of_lt' (fo_lt64 h).1]
  exact h
theorem fo_s_of {n : Nat} (h : fo_n FP.Core.b32 n) : fo_s (UInt32.ofNat n) := by
  unfold fo_s
  rw [UInt32.toNat_ofNat_of_lt' (fo_lt32 h).1]
  exact h
theorem fo_n64 {r : UInt64} (h : fo_d r) : vf_n64 r := by
  unfold vf_n64
  rw [UInt64.le_iff_toNat_le, UInt64.toNat_and, show (0x7fffffffffffffff : UInt64).toNat = 2 ^ 63 - 1 from rfl, Nat.and_two_pow_sub_one_eq_mod]
  exact (fo_lt64 h).2
theorem fo_n32 {r : UInt32} (h : fo_s r) : vf_n32 r := by
  unfold vf_n32
  rw [UInt32.le_iff_toNat_le, UInt32.toNat_and, show (0x7fffffff : UInt32).toNat = 2 ^ 31 - 1 from rfl, Nat.and_two_pow_sub_one_eq_mod]
  exact (fo_lt32 h).2
theorem fo_abs (v : Int32) : v.toInt.natAbs < 2 ^ 32 := by
  have h1 := Int32.toInt_lt v
  have h2 := Int32.le_toInt v
  omega
theorem fo_i2d (v : Int32) : fo_f FP.Core.b64 (v ≠ 0) (FP.i2d v).toNat := by
  have h := fo_int fo_g64 (fo_abs v)
  have e : (FP.i2d v).toNat = FP.Core.fromInt FP.Core.b64 v.toInt := UInt64.toNat_ofNat_of_lt' (fo_lt64 (fo_fn h)).1
  rw [e]
  obtain ⟨s, E, T, h1, h2, h3, h4⟩ := h
  exact ⟨s, E, T, h1, h2, h3, fun hv => h4 (fun c => hv (Int32.toInt_inj.mp (c.trans Int32.toInt_zero.symm)))⟩
theorem fo_i2f (v : Int32) : fo_f FP.Core.b32 (v ≠ 0) (FP.i2f v).toNat := by
  have h := fo_int fo_g32 (fo_abs v)
  have e : (FP.i2f v).toNat = FP.Core.fromInt FP.Core.b32 v.toInt := UInt32.toNat_ofNat_of_lt' (fo_lt32 (fo_fn h)).1
  rw [e]
  obtain ⟨s, E, T, h1, h2, h3, h4⟩ := h
  exact ⟨s, E, T, h1, h2, h3, fun hv => h4 (fun c => hv (Int32.toInt_inj.mp (c.trans Int32.toInt_zero.symm)))⟩
theorem fo_ddiv {v w : Int32} (hw : w ≠ 0) : fo_d (FP.ddiv (FP.i2d v) (FP.i2d w)) := by
  refine fo_d_of (fo_div fo_g64 (fo_i2d v) ?_)
  obtain ⟨s, E, T, h1, h2, h3, h4⟩ := fo_i2d w
  exact ⟨s, E, T, h1, h2, h3, fun _ => h4 hw⟩
theorem fo_fdiv {v w : Int32} (hw : w ≠ 0) : fo_s (FP.fdiv (FP.i2f v) (FP.i2f w)) := by
  refine fo_s_of (fo_div fo_g32 (fo_i2f v) ?_)
  obtain ⟨s, E, T, h1, h2, h3, h4⟩ := fo_i2f w
  exact ⟨s, E, T, h1, h2, h3, fun _ => h4 hw⟩
theorem fo_f0 : fo_s FP.fconst0 := ⟨false, 0, 0, by decide +kernel, by decide +kernel, by decide +kernel, fun _ => rfl⟩
theorem fo_f2d {r : UInt32} (h : fo_s r) : fo_d (FP.f2d r) := by
  have h1 : FP.Core.fIsNaN r = false := decide_eq_false (fo_dec h)
  have e : FP.f2d r = UInt64.ofNat (FP.Core.encode FP.Core.b64 (FP.Core.round FP.Core.b64 (FP.Core.decode FP.Core.b32 r.toNat))) := by
    unfold FP.f2d
    rw [h1]
    exact if_neg (fun c => Bool.noConfusion c)
  rw [e]
  refine fo_d_of ?_
  have h2 := fo_dec h
  generalize FP.Core.decode FP.Core.b32 r.toNat = D at h2
  cases D with
  | nan => exact absurd rfl h2
  | inf s => exact ⟨s, 2047, 0, by cases s <;> decide +kernel, by decide +kernel, by decide +kernel, fun _ => rfl⟩
  | fin s c q => exact fo_rn fo_g64 _ _ _ _
/-- a number equals itself -/
theorem fo_cmp {r : UInt64} (h : fo_d r) (op : CmpOp) : Op.cmpValue (FP.dcmp r r) op = 0 := by
  have e : FP.dcmp r r = some .eq := by
    show FP.Core.order (FP.Core.decode FP.Core.b64 r.toNat) (FP.Core.decode FP.Core.b64 r.toNat) = some .eq
    have h2 := fo_dec h
    generalize FP.Core.decode FP.Core.b64 r.toNat = D at h2
    cases D with
    | nan => exact absurd rfl h2
    | inf s => exact congrArg some (by simp [compare, compareOfLessAndEq])
    | fin s c q => exact congrArg some (by simp [compare, compareOfLessAndEq])
  rw [e]
  rfl
