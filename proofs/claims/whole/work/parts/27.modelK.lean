/-! the reference's loading of a railway, running of a script -/
def at0 (z : Nat → Int32) : Nat := (z 22).toBitVec.toNat
theorem at0_eq (z : Nat → Int32) : nI (at0 z) = z 22 := by
  obtain ⟨m, h1, h2⟩ := nI_any (z 22)
  unfold at0
  apply Int32.toBitVec_inj.mp
  show BitVec.ofNat 32 (z 22).toBitVec.toNat = (z 22).toBitVec
  exact BitVec.eq_of_toNat_eq (by rw [BitVec.toNat_ofNat, Nat.mod_eq_of_lt (z 22).toBitVec.isLt])
/-- the reading's begin -/
def pBeg (b : Nat → Int32) (L t : Nat) : Pt := (tS b L 0, tE b L 0, tK b L 0, 0, t)
theorem pBeg_ok (b : Nat → Int32) (L t : Nat) : pOk b L (pBeg b L t) := ⟨Nat.zero_le _, 0, Nat.zero_le _, rfl, rfl, rfl⟩
theorem zP_beg (z : Nat → Int32) (l e s k : Nat) (z1 : Nat → Int32) (hz : z1 = upd (upd (upd (upd z 17 (nI l)) 18 0) 21 0) 24 0) : upd (upd (upd z1 18 (nI e)) 19 (nI s)) 20 (nI k) = zP (upd (upd z 17 (nI l)) 24 0) (s, e, k, 0, at0 z) := by
  subst hz
  funext j
  by_cases h1 : j = 18
  · subst h1; rfl
  by_cases h2 : j = 19
  · subst h2; rfl
  by_cases h3 : j = 20
  · subst h3; rfl
  by_cases h4 : j = 21
  · subst h4; rfl
  by_cases h5 : j = 22
  · subst h5
    show z 22 = nI (at0 z)
    exact (at0_eq z).symm
  by_cases h6 : j = 17
  · subst h6; rfl
  by_cases h7 : j = 24
  · subst h7; rfl
  rw [upd_ne h3, upd_ne h2, upd_ne h1, upd_ne h7, upd_ne h4, upd_ne h1, upd_ne h6, zP_ne (by omega), upd_ne h7, upd_ne h6]
/-- what calls may find later of the object's numbers -/
def pubJ (j : Nat) : Prop := j = 8 ∨ j = 9 ∨ j = 10 ∨ j = 12 ∨ j = 14 ∨ j = 16 ∨ j = 23
def pubZ (z1 z2 : Nat → Int32) : Prop := ∀ j, pubJ j → z1 j = z2 j
theorem pubZ.rf {z : Nat → Int32} : pubZ z z := fun _ _ => rfl
/-- the reading ends: nothing of it is left but the error and its place -/
def zEnd (z : Nat → Int32) (P : Pt) : Nat → Int32 := upd (upd (upd (upd z 9 0) 16 0) 23 (if pR P = 0 then -1 else nI (pA P))) 10 (nI (pR P))
theorem pubZ.end1 {z z0 : Nat → Int32} {P : Pt} {w1 w2 w4 : Int32} (h : z0 = upd (upd (upd z 9 0) 17 w1) 24 w2) (he : w4 = if pR P = 0 then -1 else nI (pA P)) : pubZ (upd (upd (upd (zP z0 P) 16 0) 23 w4) 10 (nI (pR P))) (zEnd z P) := by
  subst he
  subst h
  intro j hj
  rcases hj with e | e | e | e | e | e | e <;> subst e <;> rfl
theorem pubZ.end2 {z z0 : Nat → Int32} {P : Pt} {w1 w2 w3 w4 : Int32} (h : z0 = upd (upd (upd (upd (upd z 9 0) 27 0) 17 w1) 24 w2) 27 w3) (he : w4 = if pR P = 0 then -1 else nI (pA P)) : pubZ (upd (upd (upd (zP z0 P) 16 0) 23 w4) 10 (nI (pR P))) (zEnd z P) := by
  subst he
  subst h
  intro j hj
  rcases hj with e | e | e | e | e | e | e <;> subst e <;> rfl
/-- on while no error and not at the end -/
noncomputable def oTop (f : Zt → Zt) : Nat → Zt → Zt
  | 0, Z => Z
  | n + 1, Z => if pR Z.1 = 0 ∧ ¬ pK Z.1 = 0 then oTop f n (f Z) else Z
theorem oTop_f {f : Zt → Zt} {n : Nat} {Z : Zt} (h : ¬ (pR Z.1 = 0 ∧ ¬ pK Z.1 = 0)) : oTop f n Z = Z := by
  cases n with
  | zero => rfl
  | succ n => exact if_neg h
/-- an order whose numbers are in their ranges -/
def vOrd (O : Nat → Int32) (i : Nat) : Prop := ∃ k a b c, k < 8 ∧ a ≤ 255 ∧ b ≤ 255 ∧ c ≤ 255 ∧ O (4 * i + 0) = nI k ∧ O (4 * i + 1) = nI a ∧ O (4 * i + 2) = nI b ∧ (¬ k = 7 → O (4 * i + 3) = nI c) ∧ (k = 1 ∨ k = 2 ∨ k = 3 → a ≤ 127) ∧ (k = 4 ∨ k = 5 → a ≤ 23) ∧ (k = 6 → 1 ≤ a ∧ a ≤ 60) ∧ (k = 7 → 2 ≤ a ∧ a ≤ 5) ∧ (k = 1 → b ≤ 28) ∧ (k = 2 → b ≤ 15)
def xOp (n s : Nat) (O : Nat → Int32) (i : Nat) (z ρ : Nat → Int32) : Op :=
  if O (4 * i + 0) = 0 then oPut z ρ (rQ ρ) (O (4 * i + 1)) (O (4 * i + 2)) (O (4 * i + 3))
  else if O (4 * i + 0) = 1 then oInt z ρ (rQ ρ) (O (4 * i + 1)) (O (4 * i + 2))
  else if O (4 * i + 0) = 2 then oInt z ρ (rQ ρ) (O (4 * i + 1)) (64 + O (4 * i + 2))
  else if O (4 * i + 0) = 3 then oInt z ρ 0 (O (4 * i + 1)) 128
  else if O (4 * i + 0) = 4 then oShort z ρ s (O (4 * i + 1)) 1
  else if O (4 * i + 0) = 5 then oShort z ρ s (O (4 * i + 1)) 0
  else oWait n s z ρ (O (4 * i + 1))
/-- an operation's number and row don't depend on the object's numbers, and it writes field 11 alone -/
def opZ (f : (Nat → Int32) → Op) : Prop := ∀ z z1, (f z).1 = (f z1).1 ∧ (f z).2.2 = (f z1).2.2 ∧ ∀ j, j ≠ 11 → (f z).2.1 j = z j
theorem oPut_z (ρ : Nat → Int32) (p : Nat) (x c k : Int32) : opZ (fun z => oPut z ρ p x c k) := fun z z1 => by
  show (oPut z ρ p x c k).1 = (oPut z1 ρ p x c k).1 ∧ (oPut z ρ p x c k).2.2 = (oPut z1 ρ p x c k).2.2 ∧ ∀ j, j ≠ 11 → (oPut z ρ p x c k).2.1 j = z j
  unfold oPut
  by_cases h : ρ 6 = 12
  · rw [if_pos h, if_pos h]; exact ⟨rfl, rfl, fun _ _ => rfl⟩
  · rw [if_neg h, if_neg h]; exact ⟨rfl, rfl, fun _ hj => upd_ne hj⟩
theorem oShort_z (ρ : Nat → Int32) (s : Nat) (x v : Int32) : opZ (fun z => oShort z ρ s x v) := fun z z1 => by
  show (oShort z ρ s x v).1 = (oShort z1 ρ s x v).1 ∧ (oShort z ρ s x v).2.2 = (oShort z1 ρ s x v).2.2 ∧ ∀ j, j ≠ 11 → (oShort z ρ s x v).2.1 j = z j
  unfold oShort
  by_cases h : rIsS ρ x = true
  · rw [if_pos h, if_pos h]; exact ⟨rfl, rfl, fun _ hj => upd_ne hj⟩
  · rw [if_neg h, if_neg h]; exact ⟨rfl, rfl, fun _ _ => rfl⟩
theorem oWait_z (n s : Nat) (ρ : Nat → Int32) (x : Int32) : opZ (fun z => oWait n s z ρ x) := fun z z1 => by
  show (oWait n s z ρ x).1 = (oWait n s z1 ρ x).1 ∧ (oWait n s z ρ x).2.2 = (oWait n s z1 ρ x).2.2 ∧ ∀ j, j ≠ 11 → (oWait n s z ρ x).2.1 j = z j
  unfold oWait
  by_cases h : 10000 < ρ 0 + x
  · rw [if_pos h, if_pos h]; exact ⟨rfl, rfl, fun _ _ => rfl⟩
  · rw [if_neg h, if_neg h]; exact ⟨rfl, rfl, fun _ hj => upd_ne hj⟩
theorem xOp_z (n s : Nat) (O : Nat → Int32) (i : Nat) (ρ : Nat → Int32) : opZ (fun z => xOp n s O i z ρ) := fun z z1 => by
  show (xOp n s O i z ρ).1 = (xOp n s O i z1 ρ).1 ∧ (xOp n s O i z ρ).2.2 = (xOp n s O i z1 ρ).2.2 ∧ ∀ j, j ≠ 11 → (xOp n s O i z ρ).2.1 j = z j
  unfold xOp
  by_cases h0 : O (4 * i + 0) = 0
  · rw [if_pos h0, if_pos h0]; exact oPut_z ρ _ _ _ _ z z1
  rw [if_neg h0, if_neg h0]
  by_cases h1 : O (4 * i + 0) = 1
  · rw [if_pos h1, if_pos h1]; exact oPut_z ρ _ _ _ _ z z1
  rw [if_neg h1, if_neg h1]
  by_cases h2 : O (4 * i + 0) = 2
  · rw [if_pos h2, if_pos h2]; exact oPut_z ρ _ _ _ _ z z1
  rw [if_neg h2, if_neg h2]
  by_cases h3 : O (4 * i + 0) = 3
  · rw [if_pos h3, if_pos h3]; exact oPut_z ρ _ _ _ _ z z1
  rw [if_neg h3, if_neg h3]
  by_cases h4 : O (4 * i + 0) = 4
  · rw [if_pos h4, if_pos h4]; exact oShort_z ρ _ _ _ z z1
  rw [if_neg h4, if_neg h4]
  by_cases h5 : O (4 * i + 0) = 5
  · rw [if_pos h5, if_pos h5]; exact oShort_z ρ _ _ _ z z1
  rw [if_neg h5, if_neg h5]
  exact oWait_z n s ρ _ z z1
theorem xOp_28 {n s i : Nat} {O z ρ : Nat → Int32} {x : Int32} (h : z 28 = x) : upd (xOp n s O i z ρ).2.1 28 x = (xOp n s O i z ρ).2.1 := upd_id _ _ _ (((xOp_z n s O i ρ z z).2.2 28 (by decide)).trans h)
theorem oPut_err {z ρ : Nat → Int32} {p : Nat} {x c k : Int32} (h : ¬ (oPut z ρ p x c k).1 = 0) : (oPut z ρ p x c k).2.2 = ρ := by
  unfold oPut at h ⊢
  by_cases c : ρ 6 = 12
  · rw [if_pos c]
  · rw [if_neg c] at h; exact absurd rfl h
theorem oShort_err {z ρ : Nat → Int32} {s : Nat} {x v : Int32} (h : ¬ (oShort z ρ s x v).1 = 0) : (oShort z ρ s x v).2.2 = ρ := by
  unfold oShort at h ⊢
  by_cases c : rIsS ρ x = true
  · rw [if_pos c] at h; exact absurd rfl h
  · rw [if_neg c]
theorem oWait_err {z ρ : Nat → Int32} {n s : Nat} {x : Int32} (h : ¬ (oWait n s z ρ x).1 = 0) : (oWait n s z ρ x).2.2 = ρ := by
  unfold oWait at h ⊢
  by_cases c : 10000 < ρ 0 + x
  · rw [if_pos c]
  · rw [if_neg c] at h; exact absurd rfl h
theorem xOp_err {n s i : Nat} {O z ρ : Nat → Int32} (h : ¬ (xOp n s O i z ρ).1 = 0) : (xOp n s O i z ρ).2.2 = ρ := by
  unfold xOp at h ⊢
  by_cases h0 : O (4 * i + 0) = 0
  · rw [if_pos h0] at h ⊢; exact oPut_err h
  rw [if_neg h0] at h ⊢
  by_cases h1 : O (4 * i + 0) = 1
  · rw [if_pos h1] at h ⊢; exact oPut_err h
  rw [if_neg h1] at h ⊢
  by_cases h2 : O (4 * i + 0) = 2
  · rw [if_pos h2] at h ⊢; exact oPut_err h
  rw [if_neg h2] at h ⊢
  by_cases h3 : O (4 * i + 0) = 3
  · rw [if_pos h3] at h ⊢; exact oPut_err h
  rw [if_neg h3] at h ⊢
  by_cases h4 : O (4 * i + 0) = 4
  · rw [if_pos h4] at h ⊢; exact oShort_err h
  rw [if_neg h4] at h ⊢
  by_cases h5 : O (4 * i + 0) = 5
  · rw [if_pos h5] at h ⊢; exact oShort_err h
  rw [if_neg h5] at h ⊢
  exact oWait_err h
theorem xor_n {a c : Nat} (ha : a ≤ 255) (hc : c ≤ 255) : ∃ m, m ≤ 255 ∧ nI a ^^^ nI c = nI m := by
  have h1 : a ^^^ c < 2 ^ 8 := Nat.xor_lt_two_pow (by omega) (by omega)
  refine ⟨a ^^^ c, by omega, ?_⟩
  apply Int32.toBitVec_inj.mp
  show BitVec.ofNat 32 a ^^^ BitVec.ofNat 32 c = BitVec.ofNat 32 (a ^^^ c)
  exact BitVec.eq_of_toNat_eq (by rw [BitVec.toNat_xor, BitVec.toNat_ofNat, BitVec.toNat_ofNat, BitVec.toNat_ofNat, Nat.mod_eq_of_lt (by omega), Nat.mod_eq_of_lt (by omega), Nat.mod_eq_of_lt (by omega)])
theorem rv_put {z ρ : Nat → Int32} {n s p mx mc mk : Nat} (h : RV ρ n s) (hp : ∀ q, ρ 6 = nI q → q ≤ 12 → p ≤ q) (hx : mx ≤ 255) (hc : mc ≤ 255) (hk : mk ≤ 255) : RV (oPut z ρ p (nI mx) (nI mc) (nI mk)).2.2 n s := by
  obtain ⟨q, hq, e⟩ := h.1.2
  unfold oPut
  split
  · exact h
  · next c => exact h.put e (by rcases Nat.lt_or_ge q 12 with c1 | c1; exact c1; exact absurd (e.trans (by rw [show q = 12 by omega]; rfl)) c) (hp q e hq) hx hc hk
theorem rv_int {z ρ : Nat → Int32} {n s p mx mc : Nat} (h : RV ρ n s) (hp : ∀ q, ρ 6 = nI q → q ≤ 12 → p ≤ q) (hx : mx ≤ 255) (hc : mc ≤ 255) : RV (oInt z ρ p (nI mx) (nI mc)).2.2 n s := by
  obtain ⟨m, h1, h2⟩ := xor_n hx hc
  unfold oInt
  rw [h2]
  exact rv_put h hp hx hc h1
theorem rv_short {z ρ : Nat → Int32} {n s : Nat} {x : Int32} {b : Bool} (h : RV ρ n s) : RV (oShort z ρ s x (bI b)).2.2 n s := by
  unfold oShort
  split
  · next c =>
    obtain ⟨k, hk, hx⟩ := rIn_nI (n := s) (by have := h.1.1.2.2.2.2.1; omega) (by rw [← h.1.1.2.2.1]; exact c)
    subst hx
    have hs := h.1.1.2.2.2.2.1
    show RV (upd ρ (34 + (nI k).toNatClampNeg) (bI b)) n s
    rw [nI_clamp (by omega)]
    exact h.sec (by omega) b
  · exact h
theorem rv_wait {z ρ : Nat → Int32} {n s : Nat} {x : Int32} (h : RV ρ n s) : RV (oWait n s z ρ x).2.2 n s := by
  unfold oWait
  split
  · exact h
  · exact h.rPs _
theorem rQ_hp {ρ : Nat → Int32} : ∀ q, ρ 6 = nI q → q ≤ 12 → rQ ρ ≤ q := fun q e hq => by rw [rQ, e, nI_clamp (by omega)]; exact Nat.le_refl q
theorem pubZ.upd {z1 z2 : Nat → Int32} (h : pubZ z1 z2) (k : Nat) (x : Int32) : pubZ (upd z1 k x) (upd z2 k x) := fun j hj => by
  by_cases e : j = k
  · rw [e, upd_same, upd_same]
  · rw [upd_ne e, upd_ne e]; exact h j hj
theorem rv_xOp {z ρ O : Nat → Int32} {n s i : Nat} (h : RV ρ n s) (hO : vOrd O i) : RV (xOp n s O i z ρ).2.2 n s := by
  obtain ⟨k, a, b, c, hk, ha, hb, hc, e0, e1, e2, e3, h1, -, -, -, h5, h6⟩ := hO
  unfold xOp
  split
  · next c0 => rw [e1, e2, e3 (fun e => absurd (e0.symm.trans c0) (by rw [e]; decide))]; exact rv_put h rQ_hp ha hb hc
  · split
    · rw [e1, e2]; exact rv_int h rQ_hp ha hb
    · split
      · next c2 =>
        have k2 : k = 2 := (nI_eq (by omega) (by decide)).mp (e0.symm.trans c2)
        rw [e1, e2, show (64 : Int32) = nI 64 from rfl, nI_add]
        exact rv_int h rQ_hp ha (by have := h6 k2; omega)
      · split
        · rw [e1]; exact rv_int (mc := 128) h (fun q _ _ => Nat.zero_le q) ha (by decide)
        · split
          · exact rv_short (b := true) h
          · split
            · exact rv_short (b := false) h
            · exact rv_wait h
/-- the orders from i to j hang together: repeats lie one in another at most g deep -/
def segOk (O : Nat → Int32) : Nat → Nat → Nat → Nat → Prop
  | 0, _, i, j => i = j
  | m + 1, g, i, j => i = j ∨ (i < j ∧ vOrd O i ∧ ((¬ O (4 * i + 0) = 7 ∧ segOk O m g (i + 1) j) ∨ (O (4 * i + 0) = 7 ∧ ∃ e, O (4 * i + 2) = nI e ∧ i < e ∧ e ≤ j ∧ 1 ≤ g ∧ segOk O m (g - 1) (i + 1) e ∧ segOk O m g e j)))
/-- a row and how many orders have been done -/
abbrev Rt : Type := (Nat → Int32) × Nat
def xTimes (f : Rt → Bool × Rt) : Nat → Rt → Bool × Rt
  | 0, R => (true, R)
  | t + 1, R => if (f R).1 = true then xTimes f t (f R).2 else ((false : Bool), (f R).2)
def xEnd (O : Nat → Int32) (i : Nat) : Nat := (O (4 * i + 2)).toNatClampNeg
def xZ : Nat → Int32 := fun _ => 0
def xRun (n s : Nat) (O : Nat → Int32) : Nat → Nat → Nat → Rt → Bool × Rt
  | 0, _, _, R => (true, R)
  | m + 1, i, j, R =>
    if j ≤ i then (true, R) else if O (4 * i + 0) = 7 then
      (if (xTimes (xRun n s O m (i + 1) (xEnd O i)) (O (4 * i + 1)).toNatClampNeg R).1 = true then xRun n s O m (xEnd O i) j (xTimes (xRun n s O m (i + 1) (xEnd O i)) (O (4 * i + 1)).toNatClampNeg R).2 else ((false : Bool), (xTimes (xRun n s O m (i + 1) (xEnd O i)) (O (4 * i + 1)).toNatClampNeg R).2))
    else (if (xOp n s O i xZ R.1).1 = 0 then xRun n s O m (i + 1) j ((xOp n s O i xZ R.1).2.2, R.2 + 1) else ((false : Bool), R))
theorem rv_times {f : Rt → Bool × Rt} {n s : Nat} (hf : ∀ R, RV R.1 n s → RV (f R).2.1 n s) : ∀ (t : Nat) (R : Rt), RV R.1 n s → RV (xTimes f t R).2.1 n s
  | 0, _, h => h
  | t + 1, R, h => by
    by_cases c : (f R).1 = true
    · rw [show xTimes f (t + 1) R = xTimes f t (f R).2 from if_pos c]
      exact rv_times hf t _ (hf R h)
    · rw [show xTimes f (t + 1) R = ((false : Bool), (f R).2) from if_neg c]
      exact hf R h
theorem xRun_end {n s : Nat} {O : Nat → Int32} {m i j : Nat} {R : Rt} (h : j ≤ i) : xRun n s O m i j R = (true, R) := by
  cases m with
  | zero => rfl
  | succ m => exact if_pos h
theorem xEnd_eq {O : Nat → Int32} {i e : Nat} (he : O (4 * i + 2) = nI e) (h : e ≤ 20) : xEnd O i = e := by rw [xEnd, he]; exact nI_clamp (by omega)
theorem rv_run {n s : Nat} {O : Nat → Int32} : ∀ (m g i j : Nat) (R : Rt), j ≤ 20 → segOk O m g i j → RV R.1 n s → RV (xRun n s O m i j R).2.1 n s
  | 0, _, _, _, _, _, _, h => h
  | m + 1, g, i, j, R, hj, hs, h => by
    rcases hs with e | ⟨hij, hv, ⟨h7, h2⟩ | ⟨h7, e, he, hie, hej, hg, h2, h3⟩⟩
    · rw [xRun_end (Nat.le_of_eq e.symm)]; exact h
    · have hn : ¬ j ≤ i := by omega
      rw [show xRun n s O (m + 1) i j R = _ from (if_neg hn).trans (if_neg h7)]
      split
      · exact rv_run m g (i + 1) j _ hj h2 (rv_xOp h hv)
      · exact h
    · have hn : ¬ j ≤ i := by omega
      rw [show xRun n s O (m + 1) i j R = _ from (if_neg hn).trans (if_pos h7), xEnd_eq he (by omega)]
      have h4 := rv_times (fun R hR => rv_run m (g - 1) (i + 1) e R (by omega) h2 hR) (O (4 * i + 1)).toNatClampNeg R h
      split
      · exact rv_run m g e j _ hj h3 h4
      · exact h4
def AreSpec (G : Gl) (a : Nat) (r : Nat → Nat) (O : Nat → Int32) (n s g k : Nat) : Prop := ∀ (κ : Kx) (d : Nat) (Q : Option Value → Hp → Prop) (X : String → Hp → Prop) (cs ss : Nat) (σ : Hp) (z : Nat → Int32) (A : Nat → Nat → Int32) (η : Nat → Int32) (R : Rt) (m i j : Nat) (x y : Int32), Ok G κ mX13_areDone (d + k + 9) Q X → MV G σ a r (upd z 28 (nI R.2)) (updA A 25 O) 0 R.1 η → RV R.1 n s → segOk O m g i j → j ≤ 20 → x = nI i → y = nI j → (∀ (σ1 : Hp) (z1 η1 : Nat → Int32), (∀ q, q ≠ 11 → q ≠ 28 → z1 q = z q) → MV G σ1 a r (upd z1 28 (nI (xRun n s O m i j R).2.2)) (updA A 25 O) 0 (xRun n s O m i j R).2.1 η1 → MF a r σ σ1 → Q (some (.int (bI (xRun n s O m i j R).1))) σ1) → AW G κ cs ss 0 [lR a, lI x, lI y, none, none, none] [] σ
section ModelBuf2
variable {G : Gl} {κ : Kx} {d : Nat} {Q : Option Value → Hp → Prop} {X : String → Hp → Prop} {cs ss : Nat} {σ : Hp} {a : Nat} {r : Nat → Nat} {z : Nat → Int32} {A : Nat → Nat → Int32} {rw : Nat} {ρ η : Nat → Int32} {L : Nat} {P : Pt} {b : Nat → Int32}
theorem sb_readRailway (hΓ : Ok G κ mX13_readRailway (d + 6) Q X) (h : MV G σ a r (zP z P) A rw ρ η) (hb : A 15 = b) (hL : z 17 = nI L) (hL5 : L ≤ 500) (hP : pOk b L P) (hq : ∀ σ1 : Hp, MV G σ1 a r (zP z (lF b L P).1) A rw (lF b L P).2.1 η → MF a r σ σ1 → Q none σ1) : AW G κ cs ss 0 [lR a, none, none] [] σ := by
  subst hb
  exact sp_readRailway hΓ h hL hL5 hP hq
end ModelBuf2
section ModelRun
variable {G : Gl} {κ : Kx} {d : Nat} {Q : Option Value → Hp → Prop} {X : String → Hp → Prop} {cs ss : Nat} {σ : Hp} {a : Nat} {r : Nat → Nat} {z : Nat → Int32} {A : Nat → Nat → Int32} {rw : Nat} {ρ η : Nat → Int32} {L : Nat} {P : Pt} {b O : Nat → Int32} {n s : Nat}
theorem sp_isLength (hΓ : Ok G κ mX13_isLength (d + 1) Q X) (h : MV G σ a r z A rw ρ η) {x : Int32} (hq : Q (some (.int (bI (rIn x 0 (z 16))))) σ) : AW G κ cs ss 0 [lR a, lI x] [] σ := by
  refine sX13_isLength_0 hΓ rfl ?_
  refine sX13_isLength_1 hΓ ?_
  refine sX13_isLength_2 hΓ rfl ?_
  refine sX13_isLength_3 hΓ h.o rfl ?_
  refine sX13_isLength_6 hΓ 0 0 (Nat.le_of_ble_eq_true rfl) (fun κ_6 hΓ_6 => sp_inRange hΓ_6 ?_)
  show AW G κ _ _ 9 _ _ _
  exact sX13_isLength_9 hΓ (bI_01 _) hq
theorem sp_startText (hΓ : Ok G κ mX13_startText (d + 3) Q X) (h : MV G σ a r z A rw ρ η) (hb : A 15 = b) {x : Int32} (hx : x = nI L) (hL5 : L ≤ 500) (hq : ∀ σ1 : Hp, MV G σ1 a r (zP (upd (upd z 17 (nI L)) 24 0) (pBeg b L (at0 z))) A rw ρ η → MF a r σ σ1 → Q none σ1) : AW G κ cs ss 0 [lR a, lI x] [] σ := by
  subst hx
  subst hb
  refine sX13_startText_0 hΓ rfl ?_
  refine sX13_startText_1 hΓ rfl ?_
  refine sX13_startText_2 hΓ h.o  (Nat.le_of_ble_eq_true rfl) (mv_z h (upd z 17 (nI L)) rfl (fun σ1 h1 f1 => ?_))
  refine sX13_startText_5 hΓ rfl ?_
  refine sX13_startText_6 hΓ ?_
  refine sX13_startText_7 hΓ h1.o  (Nat.le_of_ble_eq_true rfl) (mv_z h1 (upd (upd z 17 (nI L)) 18 0) rfl (fun σ2 h2 f2 => ?_))
  refine sX13_startText_10 hΓ rfl ?_
  refine sX13_startText_11 hΓ ?_
  refine sX13_startText_12 hΓ h2.o  (Nat.le_of_ble_eq_true rfl) (mv_z h2 (upd (upd (upd z 17 (nI L)) 18 0) 21 0) rfl (fun σ3 h3 f3 => ?_))
  refine sX13_startText_15 hΓ rfl ?_
  refine sX13_startText_16 hΓ ?_
  refine sX13_startText_17 hΓ h3.o  (Nat.le_of_ble_eq_true rfl) (mv_z h3 (upd (upd (upd (upd z 17 (nI L)) 18 0) 21 0) 24 0) rfl (fun σ4 h4 f4 => ?_))
  refine sX13_startText_20 hΓ rfl ?_
  refine sX13_startText_21 hΓ 0 0 (Nat.le_of_ble_eq_true rfl) h4.o (fun κ_21 hΓ_21 => sp_scan hΓ_21 h4 (L := L) (p := 0) rfl hL5 rfl (Nat.zero_le _) (fun σ5 h5 f5 => ?_))
  show AW G κ _ _ 24 _ _ _
  exact sX13_startText_24 hΓ (hq _ (by rw [zP_beg z L _ _ _ _ rfl] at h5; exact h5) ((((f1.tr f2).tr f3).tr f4).tr f5))
theorem sp_finish (hΓ : Ok G κ mX13_finish (d + 0) Q X) (h : MV G σ a r (zP z P) A rw ρ η) (hR : pR P ≤ 4) (hq : ∀ σ1 : Hp, MV G σ1 a r (upd (upd (zP z P) 16 0) 23 (if pR P = 0 then -1 else nI (pA P))) A rw ρ η → MF a r σ σ1 → Q (some (.int (nI (pR P)))) σ1) : AW G κ cs ss 0 [lR a] [] σ := by
  refine sX13_finish_0 hΓ rfl ?_
  refine sX13_finish_1 hΓ ?_
  refine sX13_finish_2 hΓ h.o  (Nat.le_of_ble_eq_true rfl) (mv_z h (upd (zP z P) 16 0) rfl (fun σ1 h1 f1 => ?_))
  refine sX13_finish_5 hΓ rfl ?_
  refine sX13_finish_6 hΓ rfl ?_
  refine sX13_finish_7 hΓ h1.o rfl ?_
  refine sX13_finish_10 hΓ (fun c10 => ?_) (fun c10 => ?_)
  · rw [if_neg (show ¬ pR P = 0 from nR_n (z := z) c10)] at hq
    refine sX13_finish_17 hΓ rfl ?_
    refine sX13_finish_18 hΓ h1.o rfl ?_
    refine sX13_finish_21 hΓ h1.o  (Nat.le_of_ble_eq_true rfl) (mv_z h1 (upd (upd (zP z P) 16 0) 23 (nI (pA P))) rfl (fun σ2 h2 f2 => ?_))
    refine sX13_finish_24 hΓ rfl ?_
    refine sX13_finish_25 hΓ h2.o rfl ?_
    exact sX13_finish_28 hΓ (hq _ h2 (f1.tr f2))
  · rw [if_pos (show pR P = 0 from nR_0 (z := z) hR c10)] at hq
    refine sX13_finish_13 hΓ ?_
    refine sX13_finish_14 hΓ ?_
    refine sX13_finish_21 hΓ h1.o  (Nat.le_of_ble_eq_true rfl) (mv_z h1 (upd (upd (zP z P) 16 0) 23 (-1)) rfl (fun σ3 h3 f3 => ?_))
    refine sX13_finish_24 hΓ rfl ?_
    refine sX13_finish_25 hΓ h3.o rfl ?_
    exact sX13_finish_28 hΓ (hq _ h3 (f1.tr f3))
theorem sp_isFaulty (hΓ : Ok G κ mX13_isFaulty (d + 1) Q X) (h : MV G σ a r (zP z P) A rw ρ η) (hR : pR P ≤ 4) (hq : ∀ σ1 : Hp, MV G σ1 a r (upd (upd (upd (zP z P) 16 0) 23 (if pR P = 0 then -1 else nI (pA P))) 10 (nI (pR P))) A rw ρ η → MF a r σ σ1 → Q (some (.int (bI (!(pR P == 0))))) σ1) : AW G κ cs ss 0 [lR a] [] σ := by
  refine sX13_isFaulty_0 hΓ rfl ?_
  refine sX13_isFaulty_1 hΓ rfl ?_
  refine sX13_isFaulty_2 hΓ 0 0 (Nat.le_of_ble_eq_true rfl) h.o (fun κ_2 hΓ_2 => sp_finish hΓ_2 h hR (fun σ1 h1 f1 => ?_))
  show AW G κ _ _ 5 _ _ _
  refine sX13_isFaulty_5 hΓ h1.o  (Nat.le_of_ble_eq_true rfl) (mv_z h1 (upd (upd (upd (zP z P) 16 0) 23 (if pR P = 0 then -1 else nI (pA P))) 10 (nI (pR P))) rfl (fun σ2 h2 f2 => ?_))
  refine sX13_isFaulty_8 hΓ rfl ?_
  refine sX13_isFaulty_9 hΓ h2.o rfl ?_
  refine sX13_isFaulty_12 hΓ (fun c12 => ?_) (fun c12 => ?_)
  · rw [show (pR P == 0) = true from beq_iff_eq.mpr (nI_z (by omega) (show nI (pR P) = 0 from c12))] at hq
    refine sX13_isFaulty_19 hΓ ?_
    exact sX13_isFaulty_20 hΓ (by first | exact Or.inl rfl | exact Or.inr rfl) (hq _ h2 (f1.tr f2))
  · rw [show (pR P == 0) = false from beq_eq_false_iff_ne.mpr (fun e => c12 (show nI (pR P) = 0 by rw [e]; rfl))] at hq
    refine sX13_isFaulty_15 hΓ ?_
    refine sX13_isFaulty_16 hΓ ?_
    exact sX13_isFaulty_20 hΓ (by first | exact Or.inl rfl | exact Or.inr rfl) (hq _ h2 (f1.tr f2))
variable {B : Nat → Nat → Int32}
/-- how a load ends -/
noncomputable def ldY (B : Nat → Nat → Int32) (z : Nat → Int32) (L : Nat) : Yt := lF (B 15) L (pBeg (B 15) L (at0 z))
def ldZ (z : Nat → Int32) (P : Pt) : Nat → Int32 := if pR P = 0 then upd (upd (zEnd z P) 8 0) 12 0 else zEnd z P
def ldB (B : Nat → Nat → Int32) (Y : Yt) : Nat → Nat → Int32 := if pR Y.1 = 0 then updA B 0 Y.2.1 else B
theorem lF_ok {b : Nat → Int32} {L : Nat} {P : Pt} (h : pOk b L P) : pOk b L (lF b L P).1 := by
  have h1 : ∀ (s m : Nat) (Y : Pt × (Nat → Int32)), pOk b L Y.1 → pOk b L (qSecs b L s m Y).1 := by
    intro s m
    induction m with
    | zero => intro Y hY; exact hY
    | succ m ih =>
      intro Y hY
      by_cases c : (pWrd b Y.1 1 || pWrd b Y.1 2) = true
      · rw [show qSecs b L s (m + 1) Y = qSecs b L s m (qOne b L s (if pWrd b Y.1 1 = true then 10 else 34) Y) from if_pos c]
        exact ih _ (qSec_ok hY)
      · rw [qSecs_f (Bool.eq_false_iff.mpr c)]; exact hY
  have h2 : ∀ (s m : Nat) (Y : Yt), pOk b L Y.1 → pOk b L (qTrs b L s m Y).1 := by
    intro s m
    induction m with
    | zero => intro Y hY; exact hY
    | succ m ih =>
      intro Y hY
      by_cases c : pR Y.1 = 0 ∧ pK Y.1 ≠ 0
      · rw [show qTrs b L s (m + 1) Y = qTrs b L s m (qTr b L s Y) from if_pos c]
        exact ih _ (qF_ok hY)
      · rw [qTrs_f c]; exact hY
  exact h2 _ _ _ (qF_ok (h1 _ _ _ (lD_ok h)))
theorem rIn_le {x : Int32} {n : Nat} (hn : n < 2 ^ 30) (h : rIn x 0 (nI n) = true) : ∃ k, k ≤ n ∧ x = nI k := by
  obtain ⟨h1, h2⟩ := rIn_t h
  obtain ⟨j, hj, hx⟩ := nI_of2 (nI_toInt (by omega)) (Int32.not_lt.mpr h1) h2
  exact ⟨j, hj, hx⟩
theorem rp_loadRailway (hΓ : Ok G κ mX13_loadRailway (d + 7) Q X) (h : MP G σ a r z B) {l : Nat} (hl : z 16 = nI l) (hl5 : l ≤ 500) {x : Int32} (hq0 : rIn x 0 (z 16) = false → ∀ σ1 : Hp, MP G σ1 a r (upd z 9 1) B → MF a r σ σ1 → Q (some (.int 0)) σ1) (hq1 : ∀ l0, l0 ≤ l → x = nI l0 → ∀ (σ1 : Hp) (z1 : Nat → Int32), pubZ z1 (ldZ z (ldY B z l0).1) → MP G σ1 a r z1 (ldB B (ldY B z l0)) → MF a r σ σ1 → Q (some (.int (if pR (ldY B z l0).1 = 0 then (ldY B z l0).2.1 3 else -1))) σ1) : AW G κ cs ss 0 [lR a, lI x] [] σ := by
  obtain ⟨A, h, hB⟩ := h
  have h15 : A 15 = B 15 := hB 15 (Or.inr (Or.inr (Or.inr (Or.inl rfl))))
  refine sX13_loadRailway_0 hΓ rfl ?_
  refine sX13_loadRailway_1 hΓ rfl ?_
  refine sX13_loadRailway_2 hΓ rfl ?_
  refine sX13_loadRailway_3 hΓ 0 0 (Nat.le_of_ble_eq_true rfl) h.o (fun κ_3 hΓ_3 => sp_isLength hΓ_3 h ?_)
  show AW G κ _ _ 6 _ _ _
  refine sX13_loadRailway_6 hΓ 0 0 (Nat.le_of_ble_eq_true rfl) h.o (fun κ_6 hΓ_6 => sp_lacks hΓ_6 h rfl (fun σ1 h1 f1 => ?_))
  show AW G κ _ _ 9 _ _ _
  refine sX13_loadRailway_9 hΓ (fun c9 => ?_) (fun c9 => ?_)
  · have c := bN_0 c9
    rw [c] at h1
    change MV G σ1 a r (upd z 9 0) A 0 (B 0) (A 6) at h1
    rw [hl] at c
    obtain ⟨l0, hl0, hx⟩ := rIn_le (n := l) (by omega) c
    have hq := hq1 l0 hl0 hx
    refine sX13_loadRailway_14 hΓ rfl ?_
    refine sX13_loadRailway_15 hΓ rfl ?_
    refine sX13_loadRailway_16 hΓ 0 0 (Nat.le_of_ble_eq_true rfl) h1.o (fun κ_16 hΓ_16 => sp_startText hΓ_16 (z := upd z 9 0) h1 (b := B 15) h15 hx (by omega) (fun σ2 h2 f2 => ?_))
    show AW G κ _ _ 19 _ _ _
    refine sX13_loadRailway_19 hΓ rfl ?_
    refine sX13_loadRailway_20 hΓ rfl ?_
    refine sX13_loadRailway_21 hΓ h2.o rfl ?_
    refine sX13_loadRailway_24 hΓ h2.o  (Nat.le_of_ble_eq_true rfl) (mv_rw h2 1 (Or.inr rfl) rfl (fun σ3 h3 f3 => ?_))
    refine sX13_loadRailway_27 hΓ rfl ?_
    refine sX13_loadRailway_28 hΓ 0 0 (Nat.le_of_ble_eq_true rfl) h3.o (fun κ_28 hΓ_28 => sb_readRailway hΓ_28 (z := upd (upd (upd z 9 0) 17 (nI l0)) 24 0) h3 (b := B 15) h15 (L := l0) rfl (by omega) (pBeg_ok _ _ _) (fun σ4 h4 f4 => ?_))
    show AW G κ _ _ 31 _ _ _
    refine sX13_loadRailway_31 hΓ rfl ?_
    refine sX13_loadRailway_32 hΓ rfl ?_
    refine sX13_loadRailway_33 hΓ h4.o rfl ?_
    refine sX13_loadRailway_36 hΓ h4.o  (Nat.le_of_ble_eq_true rfl) (mv_rw h4 0 (Or.inl rfl) rfl (fun σ5 h5 f5 => ?_))
    refine sX13_loadRailway_39 hΓ rfl ?_
    refine sX13_loadRailway_40 hΓ 0 0 (Nat.le_of_ble_eq_true rfl) h5.o (fun κ_40 hΓ_40 => sp_isFaulty hΓ_40 h5 (lF_ok (pBeg_ok _ _ _)).1 (fun σ6 h6 f6 => ?_))
    show AW G κ _ _ 43 _ _ _
    refine sX13_loadRailway_43 hΓ (fun c43 => ?_) (fun c43 => ?_)
    · have e : pR (ldY B z l0).1 = 0 := beq_iff_eq.mp (bN_0 c43)
      rw [ldZ, if_pos e, ldB, if_pos e, if_pos e] at hq
      refine sX13_loadRailway_48 hΓ rfl ?_
      refine sX13_loadRailway_49 hΓ h6.o rfl ?_
      refine sX13_loadRailway_52 hΓ ?_
      refine sX13_loadRailway_53 hΓ rfl ?_
      refine sX13_loadRailway_54 hΓ h6.o rfl ?_
      refine sX13_loadRailway_57 hΓ ?_
      refine sX13_loadRailway_58 hΓ 0 0 (Nat.le_of_ble_eq_true rfl) (fun κ_58 hΓ_58 => sp_copy hΓ_58 (h6.arr 1 (Or.inl (by decide)) (by decide) (by decide)) h6.row (i := 0) (j := 0) rfl rfl (by decide) (by decide) (by decide) (by decide) (f' := (ldY B z l0).2.1) (fun k hk => cpy0 hk) (mv_row h6 (fun σ7 h7 f7 => ?_)))
      show AW G κ _ _ 61 _ _ _
      refine sX13_loadRailway_61 hΓ rfl ?_
      refine sX13_loadRailway_62 hΓ ?_
      refine sX13_loadRailway_63 hΓ h7.o  (Nat.le_of_ble_eq_true rfl) (mv_z h7 (upd (upd (upd (upd (zP (upd (upd (upd z 9 0) 17 (nI l0)) 24 0) (ldY B z l0).1) 16 0) 23 (if pR (ldY B z l0).1 = 0 then -1 else nI (pA (ldY B z l0).1))) 10 (nI (pR (ldY B z l0).1))) 8 0) rfl (fun σ8 h8 f8 => ?_))
      refine sX13_loadRailway_66 hΓ rfl ?_
      refine sX13_loadRailway_67 hΓ ?_
      refine sX13_loadRailway_68 hΓ h8.o (Or.inl rfl) (Nat.le_of_ble_eq_true rfl) (mv_z h8 (upd (upd (upd (upd (upd (zP (upd (upd (upd z 9 0) 17 (nI l0)) 24 0) (ldY B z l0).1) 16 0) 23 (if pR (ldY B z l0).1 = 0 then -1 else nI (pA (ldY B z l0).1))) 10 (nI (pR (ldY B z l0).1))) 8 0) 12 0) rfl (fun σ9 h9 f9 => ?_))
      refine sX13_loadRailway_71 hΓ rfl ?_
      refine sX13_loadRailway_72 hΓ h9.o rfl ?_
      refine sX13_loadRailway_75 hΓ ?_
      refine sX13_loadRailway_76 hΓ h9.row (j := 3) rfl (by decide) (by decide) ?_
      exact sX13_loadRailway_77 hΓ (hq _ _ (((pubZ.end1 rfl rfl).upd 8 0).upd 12 0) (MP.mk h9 (updA_same _ _ _) (key0 (keyU (keyU hB (by unfold keyP; omega)) (by unfold keyP; omega)) _)) ((((((((f1.tr f2).tr f3).tr f4).tr f5).tr f6).tr f7).tr f8).tr f9))
    · have e : ¬ pR (ldY B z l0).1 = 0 := beq_eq_false_iff_ne.mp (bN_n c43)
      rw [ldZ, if_neg e, ldB, if_neg e, if_neg e] at hq
      refine sX13_loadRailway_46 hΓ ?_
      exact sX13_loadRailway_47 hΓ (hq _ _ (pubZ.end1 rfl rfl) (MP.mk h6 rfl (keyU (keyU hB (by unfold keyP; omega)) (by unfold keyP; omega))) (((((f1.tr f2).tr f3).tr f4).tr f5).tr f6))
  · have c := bN_n c9
    rw [c] at h1
    refine sX13_loadRailway_12 hΓ ?_
    exact sX13_loadRailway_13 hΓ (hq0 c _ (MP.mk h1 rfl hB) f1)
theorem sp_does (hΓ : Ok G κ mX13_does (d + 8) Q X) (h : MV G σ a r z (updA A 25 O) 0 ρ η) {x : Int32} {i : Nat} (hx : x = nI (4 * i)) (hi : i < 20) (hO : vOrd O i) (hV : RV ρ n s) (hq : ∀ (σ1 : Hp) (η1 : Nat → Int32), MV G σ1 a r (xOp n s O i z ρ).2.1 (updA A 25 O) 0 (xOp n s O i z ρ).2.2 η1 → MF a r σ σ1 → Q (some (.int (xOp n s O i z ρ).1)) σ1) : AW G κ cs ss 0 [lR a, lI x, none, none] [] σ := by
  obtain ⟨k, m1, m2, m3, hk, hm1, hm2, hm3, e0, e1, e2, e3, h1, h2, h3, h4, h5, h6⟩ := hO
  have hW := hV.1.1
  obtain ⟨q, hq12, hQ⟩ := hV.1.2
  have hrq : rQ ρ = q := by rw [rQ, hQ]; exact nI_clamp (by omega)
  refine sX13_does_0 hΓ rfl ?_
  refine sX13_does_1 hΓ h.o rfl ?_
  refine sX13_does_4 hΓ rfl ?_
  refine sX13_does_5 hΓ ?_
  refine sX13_does_6 hΓ ?_
  refine sX13_does_7 hΓ h.ord (j := 4 * i + 1) (by rw [hx]; exact nI_add (4 * i) 1) (by omega) (by decide) ?_
  refine sX13_does_8 hΓ ?_
  refine sX13_does_9 hΓ rfl ?_
  refine sX13_does_10 hΓ h.o rfl ?_
  refine sX13_does_13 hΓ rfl ?_
  refine sX13_does_14 hΓ ?_
  refine sX13_does_15 hΓ ?_
  refine sX13_does_16 hΓ h.ord (j := 4 * i + 2) (by rw [hx]; exact nI_add (4 * i) 2) (by omega) (by decide) ?_
  refine sX13_does_17 hΓ ?_
  refine sX13_does_18 hΓ rfl ?_
  refine sX13_does_19 hΓ h.o rfl ?_
  refine sX13_does_22 hΓ rfl ?_
  refine sX13_does_23 hΓ h.ord (j := 4 * i + 0) hx (by omega) (by decide) ?_
  refine sX13_does_24 hΓ (fun c24 => ?_) (fun c24 => ?_) (fun c24 => ?_) (fun c24 => ?_) (fun c24 => ?_) (fun c24 => ?_) (fun c24_0 c24_1 c24_2 c24_3 c24_4 c24_5 => ?_)
  · have eO : xOp n s O i z ρ = oPut z ρ q (O (4 * i + 1)) (O (4 * i + 2)) (O (4 * i + 3)) := by rw [← hrq]; exact if_pos c24
    rw [eO] at hq
    refine sX13_does_64 hΓ rfl ?_
    refine sX13_does_65 hΓ rfl ?_
    refine sX13_does_66 hΓ h.o rfl ?_
    refine sX13_does_69 hΓ ?_
    refine sX13_does_71 hΓ h.row (j := 6) rfl (by decide) (by decide) ?_
    refine sX13_does_72 hΓ rfl ?_
    refine sX13_does_73 hΓ rfl ?_
    refine sX13_does_74 hΓ rfl ?_
    refine sX13_does_75 hΓ h.o rfl ?_
    refine sX13_does_78 hΓ rfl ?_
    refine sX13_does_79 hΓ ?_
    refine sX13_does_80 hΓ ?_
    refine sX13_does_81 hΓ h.ord (j := 4 * i + 3) (by rw [hx]; exact nI_add (4 * i) 3) (by omega) (by decide) ?_
    refine sX13_does_82 hΓ 0 0 (Nat.le_of_ble_eq_true rfl) h.o (fun κ_82 hΓ_82 => sp_doPacket hΓ_82 h hQ hQ hq12 (Nat.le_refl q) (fun σ1 h1 f1 => ?_))
    show AW G κ _ _ 85 _ _ _
    exact sX13_does_85 hΓ (hq _ _ h1 f1)
  · have eO : xOp n s O i z ρ = oInt z ρ q (O (4 * i + 1)) (O (4 * i + 2)) := by rw [← hrq]; exact (if_neg (by rw [c24]; decide)).trans <| if_pos c24
    rw [eO] at hq
    refine sX13_does_86 hΓ rfl ?_
    refine sX13_does_87 hΓ rfl ?_
    refine sX13_does_88 hΓ rfl ?_
    refine sX13_does_89 hΓ 0 0 (Nat.le_of_ble_eq_true rfl) h.o (fun κ_89 hΓ_89 => sp_doSpeed hΓ_89 h hQ hq12 (fun σ1 h1 f1 => ?_))
    show AW G κ _ _ 92 _ _ _
    exact sX13_does_92 hΓ (hq _ _ h1 f1)
  · have eO : xOp n s O i z ρ = oInt z ρ q (O (4 * i + 1)) (64 + O (4 * i + 2)) := by rw [← hrq]; exact (if_neg (by rw [c24]; decide)).trans <| (if_neg (by rw [c24]; decide)).trans <| if_pos c24
    rw [eO] at hq
    refine sX13_does_93 hΓ rfl ?_
    refine sX13_does_94 hΓ rfl ?_
    refine sX13_does_95 hΓ rfl ?_
    refine sX13_does_96 hΓ 0 0 (Nat.le_of_ble_eq_true rfl) h.o (fun κ_96 hΓ_96 => sp_doLamp hΓ_96 h hQ hq12 (fun σ1 h1 f1 => ?_))
    show AW G κ _ _ 99 _ _ _
    exact sX13_does_99 hΓ (hq _ _ h1 f1)
  · have eO : xOp n s O i z ρ = oInt z ρ 0 (O (4 * i + 1)) 128 := (if_neg (by rw [c24]; decide)).trans <| (if_neg (by rw [c24]; decide)).trans <| (if_neg (by rw [c24]; decide)).trans <| if_pos c24
    rw [eO] at hq
    refine sX13_does_100 hΓ rfl ?_
    refine sX13_does_101 hΓ rfl ?_
    refine sX13_does_102 hΓ 0 0 (Nat.le_of_ble_eq_true rfl) h.o (fun κ_102 hΓ_102 => sp_doStop hΓ_102 h hQ hq12 (fun σ1 h1 f1 => ?_))
    show AW G κ _ _ 105 _ _ _
    exact sX13_does_105 hΓ (hq _ _ h1 f1)
  · have eO : xOp n s O i z ρ = oShort z ρ s (O (4 * i + 1)) 1 := (if_neg (by rw [c24]; decide)).trans <| (if_neg (by rw [c24]; decide)).trans <| (if_neg (by rw [c24]; decide)).trans <| (if_neg (by rw [c24]; decide)).trans <| if_pos c24
    rw [eO] at hq
    refine sX13_does_106 hΓ rfl ?_
    refine sX13_does_107 hΓ rfl ?_
    refine sX13_does_108 hΓ ?_
    refine sX13_does_109 hΓ 0 0 (Nat.le_of_ble_eq_true rfl) h.o (fun κ_109 hΓ_109 => sp_doShort hΓ_109 h hW (fun σ1 h1 f1 => ?_))
    show AW G κ _ _ 112 _ _ _
    exact sX13_does_112 hΓ (hq _ _ h1 f1)
  · have eO : xOp n s O i z ρ = oShort z ρ s (O (4 * i + 1)) 0 := (if_neg (by rw [c24]; decide)).trans <| (if_neg (by rw [c24]; decide)).trans <| (if_neg (by rw [c24]; decide)).trans <| (if_neg (by rw [c24]; decide)).trans <| (if_neg (by rw [c24]; decide)).trans <| if_pos c24
    rw [eO] at hq
    refine sX13_does_113 hΓ rfl ?_
    refine sX13_does_114 hΓ rfl ?_
    refine sX13_does_115 hΓ ?_
    refine sX13_does_116 hΓ 0 0 (Nat.le_of_ble_eq_true rfl) h.o (fun κ_116 hΓ_116 => sp_doShort hΓ_116 h hW (fun σ1 h1 f1 => ?_))
    show AW G κ _ _ 119 _ _ _
    exact sX13_does_119 hΓ (hq _ _ h1 f1)
  · have eO : xOp n s O i z ρ = oWait n s z ρ (O (4 * i + 1)) := (if_neg c24_0).trans <| (if_neg c24_1).trans <| (if_neg c24_2).trans <| (if_neg c24_3).trans <| (if_neg c24_4).trans <| if_neg c24_5
    rw [eO] at hq
    refine sX13_does_120 hΓ rfl ?_
    refine sX13_does_121 hΓ rfl ?_
    refine sX13_does_122 hΓ 0 0 (Nat.le_of_ble_eq_true rfl) h.o (fun κ_122 hΓ_122 => sp_doWait hΓ_122 h e1 (by omega) hV.1 (fun σ1 η1 h1 f1 => ?_))
    show AW G κ _ _ 125 _ _ _
    exact sX13_does_125 hΓ (hq _ _ h1 f1)
theorem sp_isRepeated {k g m i e t : Nat} (hΓ : Ok G κ mX13_isRepeated (d + k + 10) Q X) {R : Rt} (h : MV G σ a r (upd z 28 (nI R.2)) (updA A 25 O) 0 R.1 η) (hV : RV R.1 n s) (ih0 : AreSpec G a r O n s g k) (hseg : segOk O m g (i + 1) e) (he20 : e ≤ 20) (hi : i < 20) (ht : O (4 * i + 1) = nI t) (ht5 : t ≤ 5) (he : O (4 * i + 2) = nI e) {x : Int32} (hx : x = nI i) (hq : ∀ (σ1 : Hp) (z1 η1 : Nat → Int32), (∀ q, q ≠ 11 → q ≠ 28 → z1 q = z q) → MV G σ1 a r (upd z1 28 (nI (xTimes (xRun n s O m (i + 1) e) t R).2.2)) (updA A 25 O) 0 (xTimes (xRun n s O m (i + 1) e) t R).2.1 η1 → MF a r σ σ1 → Q (some (.int (bI (xTimes (xRun n s O m (i + 1) e) t R).1))) σ1) : AW G κ cs ss 0 [lR a, lI x, none] [] σ := by
  suffices loop : ∀ (t1 i1 : Nat) (v : Int32) (σ2 : Hp) (z2 η2 : Nat → Int32) (R2 : Rt), i1 + t1 = t → v = nI i1 → (∀ q, q ≠ 11 → q ≠ 28 → z2 q = z q) → MV G σ2 a r (upd z2 28 (nI R2.2)) (updA A 25 O) 0 R2.1 η2 → MF a r σ σ2 → RV R2.1 n s → xTimes (xRun n s O m (i + 1) e) t1 R2 = xTimes (xRun n s O m (i + 1) e) t R → AW G κ cs ss 2 [lR a, lI x, lI v] [] σ2 by
    refine sX13_isRepeated_0 hΓ ?_
    refine sX13_isRepeated_1 hΓ ?_
    exact loop t 0 _ σ z η R (Nat.zero_add t) rfl (fun _ _ _ => rfl) h MF.rf hV rfl
  intro t1
  induction t1 with
  | zero =>
    intro i1 v σ2 z2 η2 R2 hi hv hz h2 f2 hV2 eT
    rw [← eT] at hq
    refine sX13_isRepeated_2 hΓ rfl ?_
    refine sX13_isRepeated_3 hΓ rfl ?_
    refine sX13_isRepeated_4 hΓ h2.o rfl ?_
    refine sX13_isRepeated_7 hΓ ?_
    refine sX13_isRepeated_8 hΓ rfl ?_
    refine sX13_isRepeated_9 hΓ ?_
    refine sX13_isRepeated_10 hΓ ?_
    refine sX13_isRepeated_11 hΓ ?_
    refine sX13_isRepeated_12 hΓ h2.ord (j := 4 * i + 1) (by rw [hx]; exact (congrArg (fun t => t + 1) (pk_mul 4 i)).trans (nI_add (4 * i) 1)) (by omega) (by decide) ?_
    refine sX13_isRepeated_13 hΓ (fun c13 => ?_) (fun c13 => absurd (by rw [ht]; exact lp_out hv rfl (by omega) (by omega)) c13)
    refine sX13_isRepeated_44 hΓ ?_
    exact sX13_isRepeated_45 hΓ (Or.inr rfl) (hq _ _ _ hz h2 f2)
  | succ t1 ih =>
    intro i1 v σ2 z2 η2 R2 hi hv hz h2 f2 hV2 eT
    refine sX13_isRepeated_2 hΓ rfl ?_
    refine sX13_isRepeated_3 hΓ rfl ?_
    refine sX13_isRepeated_4 hΓ h2.o rfl ?_
    refine sX13_isRepeated_7 hΓ ?_
    refine sX13_isRepeated_8 hΓ rfl ?_
    refine sX13_isRepeated_9 hΓ ?_
    refine sX13_isRepeated_10 hΓ ?_
    refine sX13_isRepeated_11 hΓ ?_
    refine sX13_isRepeated_12 hΓ h2.ord (j := 4 * i + 1) (by rw [hx]; exact (congrArg (fun t => t + 1) (pk_mul 4 i)).trans (nI_add (4 * i) 1)) (by omega) (by decide) ?_
    refine sX13_isRepeated_13 hΓ (fun c13 => absurd c13 (by rw [ht]; exact lp_in hv rfl (by omega) (by omega))) (fun c13 => ?_)
    refine sX13_isRepeated_16 hΓ rfl ?_
    refine sX13_isRepeated_17 hΓ rfl ?_
    refine sX13_isRepeated_18 hΓ ?_
    refine sX13_isRepeated_19 hΓ ?_
    refine sX13_isRepeated_20 hΓ rfl ?_
    refine sX13_isRepeated_21 hΓ h2.o rfl ?_
    refine sX13_isRepeated_24 hΓ ?_
    refine sX13_isRepeated_25 hΓ rfl ?_
    refine sX13_isRepeated_26 hΓ ?_
    refine sX13_isRepeated_27 hΓ ?_
    refine sX13_isRepeated_28 hΓ ?_
    refine sX13_isRepeated_29 hΓ h2.ord (j := 4 * i + 2) (by rw [hx]; exact (congrArg (fun t => t + 2) (pk_mul 4 i)).trans (nI_add (4 * i) 2)) (by omega) (by decide) ?_
    refine sX13_isRepeated_30 hΓ 0 0 (Nat.le_of_ble_eq_true rfl) h2.o (fun κ_30 hΓ_30 => ih0 _ d _ _ _ _ _ z2 A η2 R2 m (i + 1) e _ _ hΓ_30 h2 hV2 hseg he20 (by rw [hx]; exact nI_1 i) he (fun σ9 z9 η9 hz9 h9 f9 => ?_))
    show AW G κ _ _ 33 _ _ _
    refine sX13_isRepeated_33 hΓ (fun c33 => ?_) (fun c33 => ?_)
    · have e1 := bI_n0 c33
      have eS : xTimes (xRun n s O m (i + 1) e) (t1 + 1) R2 = xTimes (xRun n s O m (i + 1) e) t1 (xRun n s O m (i + 1) e R2).2 := if_pos e1
      refine sX13_isRepeated_38 hΓ rfl ?_
      refine sX13_isRepeated_41 hΓ ?_
      exact ih (i1 + 1) _ _ _ _ _ (by omega) (lp_1 hv) (fun q hq1 hq2 => (hz9 q hq1 hq2).trans (hz q hq1 hq2)) h9 (f2.tr f9) (rv_run m g (i + 1) e _ he20 hseg hV2) (eS.symm.trans eT)
    · have e1 := bI_0 c33
      have eS : xTimes (xRun n s O m (i + 1) e) (t1 + 1) R2 = ((false : Bool), (xRun n s O m (i + 1) e R2).2) := if_neg (by rw [e1]; exact Bool.false_ne_true)
      rw [← eT, eS] at hq
      refine sX13_isRepeated_36 hΓ ?_
      exact sX13_isRepeated_37 hΓ (Or.inl rfl) (hq _ _ _ (fun q hq1 hq2 => (hz9 q hq1 hq2).trans (hz q hq1 hq2)) h9 (f2.tr f9))
theorem sp_areDone {k g m i j : Nat} (hΓ : Ok G κ mX13_areDone (d + k + 11) Q X) {R : Rt} (h : MV G σ a r (upd z 28 (nI R.2)) (updA A 25 O) 0 R.1 η) (hV : RV R.1 n s) (hrep : 1 ≤ g → AreSpec G a r O n s (g - 1) k ∧ True) (hseg : segOk O m g i j) (hj : j ≤ 20) {x y : Int32} (hx : x = nI i) (hy : y = nI j) (hq : ∀ (σ1 : Hp) (z1 η1 : Nat → Int32), (∀ q, q ≠ 11 → q ≠ 28 → z1 q = z q) → MV G σ1 a r (upd z1 28 (nI (xRun n s O m i j R).2.2)) (updA A 25 O) 0 (xRun n s O m i j R).2.1 η1 → MF a r σ σ1 → Q (some (.int (bI (xRun n s O m i j R).1))) σ1) : AW G κ cs ss 0 [lR a, lI x, lI y, none, none, none] [] σ := by
  suffices loop : ∀ (m i : Nat) (R : Rt) (σ2 : Hp) (z2 η2 : Nat → Int32) (v : Int32) (o4 o5 : Option LV), (∀ q, q ≠ 11 → q ≠ 28 → z2 q = z q) → MV G σ2 a r (upd z2 28 (nI R.2)) (updA A 25 O) 0 R.1 η2 → MF a r σ σ2 → RV R.1 n s → segOk O m g i j → v = nI i → (∀ (σ1 : Hp) (z1 η1 : Nat → Int32), (∀ q, q ≠ 11 → q ≠ 28 → z1 q = z q) → MV G σ1 a r (upd z1 28 (nI (xRun n s O m i j R).2.2)) (updA A 25 O) 0 (xRun n s O m i j R).2.1 η1 → MF a r σ σ1 → Q (some (.int (bI (xRun n s O m i j R).1))) σ1) → AW G κ cs ss 2 [lR a, lI x, lI y, lI v, o4, o5] [] σ2 by
    refine sX13_areDone_0 hΓ rfl ?_
    refine sX13_areDone_1 hΓ ?_
    exact loop m i R σ z η x _ _ (fun _ _ _ => rfl) h MF.rf hV hseg hx hq
  intro m
  induction m with
  | zero =>
    intro i R σ2 z2 η2 v o4 o5 hz h2 f2 hV2 hs hv hq
    have hs : i = j := hs
    refine sX13_areDone_2 hΓ rfl ?_
    refine sX13_areDone_3 hΓ rfl ?_
    refine sX13_areDone_4 hΓ (fun c4 => ?_) (fun c4 => absurd (by rw [hv, hy]; exact nI_le (by omega) (by omega)) c4)
    refine sX13_areDone_101 hΓ ?_
    exact sX13_areDone_102 hΓ (Or.inr rfl) (hq _ _ _ hz h2 f2)
  | succ m ih =>
    intro i R σ2 z2 η2 v o4 o5 hz h2 f2 hV2 hs hv hq
    rcases hs with e | ⟨hij, hvo, hs⟩
    · rw [xRun_end (Nat.le_of_eq e.symm)] at hq
      refine sX13_areDone_2 hΓ rfl ?_
      refine sX13_areDone_3 hΓ rfl ?_
      refine sX13_areDone_4 hΓ (fun c4 => ?_) (fun c4 => absurd (by rw [hv, hy]; exact nI_le (by omega) (by omega)) c4)
      refine sX13_areDone_101 hΓ ?_
      exact sX13_areDone_102 hΓ (Or.inr rfl) (hq _ _ _ hz h2 f2)
    have hn : ¬ j ≤ i := by omega
    have e4 : (4 : Int32) * v = nI (4 * i) := by rw [hv]; exact pk_mul 4 i
    rcases hs with ⟨h7, hs1⟩ | ⟨h7, e, he, hie, hej, hg, hs1, hs2⟩
    · have eX : xRun n s O (m + 1) i j R = if (xOp n s O i xZ R.1).1 = 0 then xRun n s O m (i + 1) j ((xOp n s O i xZ R.1).2.2, R.2 + 1) else ((false : Bool), R) := (if_neg hn).trans (if_neg h7)
      have y1 : (xOp n s O i (upd z2 28 (nI R.2)) R.1).1 = (xOp n s O i xZ R.1).1 := (xOp_z n s O i R.1 _ _).1
      have y2 : (xOp n s O i (upd z2 28 (nI R.2)) R.1).2.2 = (xOp n s O i xZ R.1).2.2 := (xOp_z n s O i R.1 _ _).2.1
      have y3 : ∀ q, q ≠ 11 → (xOp n s O i (upd z2 28 (nI R.2)) R.1).2.1 q = (upd z2 28 (nI R.2)) q := (xOp_z n s O i R.1 (upd z2 28 (nI R.2)) xZ).2.2
      have y28 : (xOp n s O i (upd z2 28 (nI R.2)) R.1).2.1 28 = nI R.2 := (y3 28 (by decide)).trans (upd_same _ _ _)
      have yz : ∀ q, q ≠ 11 → q ≠ 28 → (xOp n s O i (upd z2 28 (nI R.2)) R.1).2.1 q = z q := fun q h11 h28 => (y3 q h11).trans ((upd_ne h28).trans (hz q h11 h28))
      refine sX13_areDone_2 hΓ rfl ?_
      refine sX13_areDone_3 hΓ rfl ?_
      refine sX13_areDone_4 hΓ (fun c4 => absurd (show y ≤ v from c4) (by rw [hv, hy]; exact nI_ge hij (by omega))) (fun c4 => ?_)
      refine sX13_areDone_7 hΓ ?_
      refine sX13_areDone_8 hΓ rfl ?_
      refine sX13_areDone_9 hΓ ?_
      refine sX13_areDone_10 hΓ ?_
      refine sX13_areDone_12 hΓ rfl ?_
      refine sX13_areDone_13 hΓ h2.o rfl ?_
      refine sX13_areDone_16 hΓ rfl ?_
      refine sX13_areDone_18 hΓ h2.ord (j := 4 * i + 0) e4 (by omega) (by decide) ?_
      refine sX13_areDone_19 hΓ ?_
      refine sX13_areDone_21 hΓ (fun c21 => ?_) (fun c21 => absurd c21 h7)
      refine sX13_areDone_28 hΓ ?_
      refine sX13_areDone_29 hΓ ?_
      refine sX13_areDone_31 hΓ rfl ?_
      refine sX13_areDone_33 hΓ (fun c33 => ?_) (fun c33 => absurd rfl c33)
      refine sX13_areDone_47 hΓ rfl ?_
      refine sX13_areDone_48 hΓ rfl ?_
      refine sX13_areDone_50 hΓ 0 0 (Nat.le_of_ble_eq_true rfl) h2.o (fun κ_50 hΓ_50 => sp_does hΓ_50 h2 e4 (by omega) hvo hV2 (fun σ21 η21 h21 f21 => ?_))
      show AW G κ _ _ 53 _ _ _
      refine sX13_areDone_53 hΓ (fun c53 => ?_) (fun c53 => ?_)
      · have c0 : (xOp n s O i xZ R.1).1 = 0 := y1.symm.trans c53
        rw [eX, if_pos c0] at hq
        refine sX13_areDone_58 hΓ rfl ?_
        refine sX13_areDone_59 hΓ ?_
        refine sX13_areDone_60 hΓ h21.o rfl ?_
        refine sX13_areDone_63 hΓ rfl ?_
        refine sX13_areDone_65 hΓ (fun c65 => ?_) (fun c65 => absurd rfl c65)
        refine sX13_areDone_72 hΓ ?_
        refine sX13_areDone_73 hΓ ?_
        refine sX13_areDone_74 hΓ h21.o  (Nat.le_of_ble_eq_true rfl) (mv_z h21 (upd (xOp n s O i (upd z2 28 (nI R.2)) R.1).2.1 28 ((xOp n s O i (upd z2 28 (nI R.2)) R.1).2.1 28 + 1)) rfl (fun σ22 h22 f22 => ?_))
        refine sX13_areDone_77 hΓ rfl ?_
        refine sX13_areDone_79 hΓ (fun c79 => ?_) (fun c79 => absurd rfl c79)
        refine sX13_areDone_94 hΓ rfl ?_
        refine sX13_areDone_95 hΓ ?_
        refine sX13_areDone_96 hΓ ?_
        refine sX13_areDone_97 hΓ ?_
        refine sX13_areDone_98 hΓ ?_
        exact ih (i + 1) ((xOp n s O i xZ R.1).2.2, R.2 + 1) _ _ _ _ _ _ yz (by rw [y28, nI_1, y2] at h22; exact h22) ((f2.tr f21).tr f22) (rv_xOp hV2 hvo) hs1 (lp_1 hv) hq
      · have c0 : ¬ (xOp n s O i xZ R.1).1 = 0 := fun e => c53 (y1.trans e)
        rw [eX, if_neg c0] at hq
        refine sX13_areDone_56 hΓ ?_
        exact sX13_areDone_57 hΓ (Or.inl rfl) (hq _ (xOp n s O i (upd z2 28 (nI R.2)) R.1).2.1 _ yz (by rw [upd_id _ 28 _ y28]; rw [xOp_err (fun e => c53 e)] at h21; exact h21) (f2.tr f21))
    · have eE := xEnd_eq he (show e ≤ 20 by omega)
      obtain ⟨k9, m1, m2, m3, hk9, hm1, hm2, hm3, e0, e1, -, -, -, -, -, h75, -, -⟩ := hvo
      have k7 : k9 = 7 := (nI_eq (by omega) (by decide)).mp (e0.symm.trans h7)
      have ht5 := h75 k7
      have et : (O (4 * i + 1)).toNatClampNeg = m1 := by rw [e1]; exact nI_clamp (by omega)
      have eX : xRun n s O (m + 1) i j R = if (xTimes (xRun n s O m (i + 1) e) m1 R).1 = true then xRun n s O m e j (xTimes (xRun n s O m (i + 1) e) m1 R).2 else ((false : Bool), (xTimes (xRun n s O m (i + 1) e) m1 R).2) := by
        rw [← eE, ← et]
        exact (if_neg hn).trans (if_pos h7)
      obtain ⟨ih0, hΓ'⟩ := hrep hg
      refine sX13_areDone_2 hΓ rfl ?_
      refine sX13_areDone_3 hΓ rfl ?_
      refine sX13_areDone_4 hΓ (fun c4 => absurd (show y ≤ v from c4) (by rw [hv, hy]; exact nI_ge hij (by omega))) (fun c4 => ?_)
      refine sX13_areDone_7 hΓ ?_
      refine sX13_areDone_8 hΓ rfl ?_
      refine sX13_areDone_9 hΓ ?_
      refine sX13_areDone_10 hΓ ?_
      refine sX13_areDone_12 hΓ rfl ?_
      refine sX13_areDone_13 hΓ h2.o rfl ?_
      refine sX13_areDone_16 hΓ rfl ?_
      refine sX13_areDone_18 hΓ h2.ord (j := 4 * i + 0) e4 (by omega) (by decide) ?_
      refine sX13_areDone_19 hΓ ?_
      refine sX13_areDone_21 hΓ (fun c21 => absurd h7 c21) (fun c21 => ?_)
      refine sX13_areDone_24 hΓ ?_
      refine sX13_areDone_25 hΓ ?_
      refine sX13_areDone_29 hΓ ?_
      refine sX13_areDone_31 hΓ rfl ?_
      refine sX13_areDone_33 hΓ (fun c33 => absurd c33 (by decide)) (fun c33 => ?_)
      refine sX13_areDone_36 hΓ rfl ?_
      refine sX13_areDone_37 hΓ rfl ?_
      refine sX13_areDone_38 hΓ 0 0 (Nat.le_of_ble_eq_true rfl) h2.o (fun κ_38 hΓ_38 => sp_isRepeated hΓ_38 h2 hV2 ih0 hs1 (by omega) (by omega) e1 ht5.2 he hv (fun σ9 z9 η9 hz9 h9 f9 => ?_))
      show AW G κ _ _ 41 _ _ _
      refine sX13_areDone_41 hΓ (fun c41 => ?_) (fun c41 => ?_)
      · have c0 := bI_n0 c41
        rw [eX, if_pos c0] at hq
        refine sX13_areDone_58 hΓ rfl ?_
        refine sX13_areDone_59 hΓ ?_
        refine sX13_areDone_60 hΓ h9.o rfl ?_
        refine sX13_areDone_63 hΓ rfl ?_
        refine sX13_areDone_65 hΓ (fun c65 => absurd c65 (by decide)) (fun c65 => ?_)
        refine sX13_areDone_68 hΓ ?_
        refine sX13_areDone_69 hΓ ?_
        refine sX13_areDone_73 hΓ ?_
        refine sX13_areDone_74 hΓ h9.o  (Nat.le_of_ble_eq_true rfl) (mv_z h9 (upd (upd z9 28 (nI (xTimes (xRun n s O m (i + 1) e) m1 R).2.2)) 28 (nI (xTimes (xRun n s O m (i + 1) e) m1 R).2.2 + 0)) rfl (fun σ42 h42 f42 => ?_))
        refine sX13_areDone_77 hΓ rfl ?_
        refine sX13_areDone_79 hΓ (fun c79 => absurd c79 (by decide)) (fun c79 => ?_)
        refine sX13_areDone_82 hΓ rfl ?_
        refine sX13_areDone_83 hΓ h42.o rfl ?_
        refine sX13_areDone_86 hΓ rfl ?_
        refine sX13_areDone_88 hΓ ?_
        refine sX13_areDone_89 hΓ ?_
        refine sX13_areDone_90 hΓ h42.ord (j := 4 * i + 2) ((congrArg (fun t => t + 2) e4).trans (nI_add (4 * i) 2)) (by omega) (by decide) ?_
        refine sX13_areDone_91 hΓ ?_
        refine sX13_areDone_97 hΓ ?_
        refine sX13_areDone_98 hΓ ?_
        exact ih e (xTimes (xRun n s O m (i + 1) e) m1 R).2 _ z9 _ _ _ _ (fun q h11 h28 => (hz9 q h11 h28).trans (hz q h11 h28)) (by rw [updI_updI, Int32.add_zero] at h42; exact h42) ((f2.tr f9).tr f42) (rv_times (fun R hR => rv_run m (g - 1) (i + 1) e R (by omega) hs1 hR) m1 R hV2) hs2 he hq
      · have c0 := bI_0 c41
        rw [eX, if_neg (by rw [c0]; exact Bool.false_ne_true)] at hq
        refine sX13_areDone_44 hΓ ?_
        refine sX13_areDone_56 hΓ ?_
        exact sX13_areDone_57 hΓ (Or.inl rfl) (hq _ _ _ (fun q h11 h28 => (hz9 q h11 h28).trans (hz q h11 h28)) h9 (f2.tr f9))
theorem sp_are {a : Nat} {r : Nat → Nat} {O : Nat → Int32} {n s : Nat} : ∀ g, AreSpec G a r O n s g (2 * g + 2)
  | 0 => fun κ d Q X cs ss σ z A η R m i j x y hΓ h hV hs hj hx hy hq =>
    sp_areDone (k := 0) (g := 0) hΓ h hV (fun e => absurd e (by decide)) hs hj hx hy hq
  | g + 1 => fun κ d Q X cs ss σ z A η R m i j x y hΓ h hV hs hj hx hy hq => by
    have h1 : AreSpec G a r O n s g (2 * g + 2) := sp_are g
    rw [show d + (2 * (g + 1) + 2) + 9 = d + (2 * g + 2) + 11 by omega] at hΓ
    exact sp_areDone (k := 2 * g + 2) (g := g + 1) hΓ h hV (fun _ => ⟨h1, trivial⟩) hs hj hx hy hq
end ModelRun
