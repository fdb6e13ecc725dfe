/-! the ranges of a row's numbers -/
def bdT (w : Nat) : Nat := if w = 1 then 5 else if w = 2 then 9 else if w = 5 then 28 else if w = 6 then 28 else if w = 7 then 15 else if w = 8 then 15 else 2 ^ 32
def bd (j : Nat) : Nat := if j = 0 then 10000 else if j < 10 then 2 ^ 32 else if j < 58 then 1 else if j < 148 then bdT ((j - 58) % 15) else 255
theorem bd_t {k w : Nat} (hk : k < 6) (hw : w < 15) : bd (58 + 15 * k + w) = bdT w := by
  unfold bd
  rw [if_neg (by omega), if_neg (by omega), if_neg (by omega), if_pos (by omega), show (58 + 15 * k + w - 58) % 15 = w by omega]
theorem bd_p {j : Nat} (h : 148 ≤ j) : bd j = 255 := by
  unfold bd
  rw [if_neg (by omega), if_neg (by omega), if_neg (by omega), if_neg (by omega)]
theorem bd_s {j : Nat} (h : 10 ≤ j) (h2 : j < 58) : bd j = 1 := by
  unfold bd
  rw [if_neg (by omega), if_neg (by omega), if_pos h2]
theorem bd_h {j : Nat} (h : 1 ≤ j) (h2 : j < 10) : bd j = 2 ^ 32 := by
  unfold bd
  rw [if_neg (by omega), if_pos h2]
def okV (j : Nat) (x : Int32) : Prop := ∃ m, m ≤ bd j ∧ x = nI m
theorem nI_any (x : Int32) : ∃ m, m ≤ 2 ^ 32 ∧ x = nI m := ⟨x.toBitVec.toNat, by have := x.toBitVec.isLt; omega, by
  apply Int32.toBitVec_inj.mp
  show x.toBitVec = BitVec.ofNat 32 x.toBitVec.toNat
  exact BitVec.eq_of_toNat_eq (by rw [BitVec.toNat_ofNat, Nat.mod_eq_of_lt x.toBitVec.isLt])⟩
theorem okV_u {j : Nat} {x : Int32} (h : bd j = 2 ^ 32) : okV j x := by
  obtain ⟨m, h1, h2⟩ := nI_any x
  exact ⟨m, by omega, h2⟩
theorem okV_n {j m : Nat} (h : m ≤ bd j) : okV j (nI m) := ⟨m, h, rfl⟩
theorem okV_0 (j : Nat) : okV j 0 := ⟨0, Nat.zero_le _, rfl⟩
def RB (ρ : Nat → Int32) : Prop := ∀ j, okV j (ρ j)
theorem RB.put {ρ : Nat → Int32} (h : RB ρ) {i : Nat} {v : Int32} (hv : okV i v) : RB (upd ρ i v) := fun j => by
  by_cases e : j = i
  · rw [e, upd_same]; exact hv
  · rw [upd_ne e]; exact h j
theorem RB.cpy {ρ : Nat → Int32} (h : RB ρ) {i j n : Nat} (hi : 148 ≤ i) (hj : 148 ≤ j) : RB (va_cpy ρ ρ i j n) := fun x => by
  by_cases c : j ≤ x ∧ x < j + n
  · rw [pk_cpy_in c.1 c.2]
    obtain ⟨m, h1, h2⟩ := h (i + (x - j))
    rw [bd_p (by omega)] at h1
    exact ⟨m, by rw [bd_p (by omega)]; exact h1, h2⟩
  · rw [pk_cpy_out (by omega)]
    exact h x
theorem RB.t {ρ : Nat → Int32} (h : RB ρ) {k w : Nat} (hk : k < 6) (hw : w < 15) {M : Nat} (hM : bdT w = M) : ∃ m, m ≤ M ∧ ρ (58 + 15 * k + w) = nI m := by
  obtain ⟨m, h1, h2⟩ := h (58 + 15 * k + w)
  rw [bd_t hk hw, hM] at h1
  exact ⟨m, h1, h2⟩
theorem RB.putT {ρ : Nat → Int32} (h : RB ρ) {k w m : Nat} {v : Int32} (hk : k < 6) (hw : w < 15) {M : Nat} (hM : bdT w = M) (hv : v = nI m) (hm : m ≤ M) : RB (upd ρ (58 + 15 * k + w) v) := h.put ⟨m, by rw [bd_t hk hw, hM]; exact hm, hv⟩
theorem RB.free {ρ : Nat → Int32} (h : RB ρ) {k w : Nat} {v : Int32} (hk : k < 6) (hw : w < 15) (hM : bdT w = 2 ^ 32) : RB (upd ρ (58 + 15 * k + w) v) := h.put (okV_u (by rw [bd_t hk hw, hM]))
theorem RB.head {ρ : Nat → Int32} (h : RB ρ) {i : Nat} {v : Int32} (h1 : 1 ≤ i) (h2 : i < 10) : RB (upd ρ i v) := h.put (okV_u (bd_h h1 h2))
theorem rArg_n {m : Nat} (hm : m ≤ 255) : rArg (nI m) = nI (m % 64) := pk_rem (d := 64) (by omega) (by decide) (by decide)
theorem iMin_n {a b : Nat} (ha : a < 2 ^ 31) (hb : b < 2 ^ 31) : iMin (nI a) (nI b) = nI (if a < b then a else b) := by
  unfold iMin
  by_cases c : a < b
  · rw [if_pos c, if_pos (nI_lt c hb)]
  · rw [if_neg c, if_neg (nI_nlt (by omega) ha)]
theorem iMax_n {a b : Nat} (ha : a < 2 ^ 31) (hb : b < 2 ^ 31) : iMax (nI a) (nI b) = nI (if b < a then a else b) := by
  unfold iMax
  by_cases c : b < a
  · rw [if_pos c, if_pos (nI_lt c ha)]
  · rw [if_neg c, if_neg (nI_nlt (by omega) hb)]
theorem RB.add {ρ : Nat → Int32} (h : RB ρ) {k w : Nat} {v : Int32} (hk : k < 6) (hw : w < 15) (hM : bdT w = 2 ^ 32) : RB (rAdd ρ k w v) := h.free hk hw hM
theorem RB.obey {ρ : Nat → Int32} (h : RB ρ) {k m : Nat} (hk : k < 6) (hm : m ≤ 255) : RB (rObey ρ k (nI m)) := by
  refine RB.add (w := 11) ?_ hk (by decide) rfl
  unfold rObey0
  rw [rArg_n hm]
  split
  · exact h.putT (w := 6) (M := 28) hk (by decide) rfl (iMin_n (a := 28) (by decide) (by omega)) (by split <;> omega)
  · split
    · exact h.putT (w := 8) (M := 15) hk (by decide) rfl (pk_rem (a := m % 64) (d := 16) (by omega) (by decide) (by decide)) (by omega)
    · split
      · exact (h.putT (w := 5) (M := 28) (v := 0) (m := 0) hk (by decide) rfl rfl (by decide)).putT (w := 6) (M := 28) (v := 0) (m := 0) hk (by decide) rfl rfl (by decide)
      · exact h
theorem RB.recv {ρ : Nat → Int32} (h : RB ρ) {k : Nat} (hk : k < 6) : RB (rRecv ρ k) := by
  unfold rRecv
  split
  · exact h.add (w := 13) hk (by decide) rfl
  · split
    · obtain ⟨m, h1, h2⟩ := h 149
      rw [h2]
      exact h.obey hk h1
    · exact h.add (w := 12) hk (by decide) rfl
theorem rb_iter {f : (Nat → Int32) → Nat → (Nat → Int32)} {n s : Nat} (hf : ∀ (ρ : Nat → Int32) (k : Nat), k < n → RW ρ n s → RB ρ → RB (f ρ k)) (hw : ∀ (ρ : Nat → Int32) (k : Nat), RW ρ n s → RW (f ρ k) n s) {ρ : Nat → Int32} (h1 : RW ρ n s) (h2 : RB ρ) : ∀ i, i ≤ n → RW (iter f ρ i) n s ∧ RB (iter f ρ i)
  | 0, _ => ⟨h1, h2⟩
  | i + 1, hi => by
    obtain ⟨h3, h4⟩ := rb_iter hf hw h1 h2 i (by omega)
    exact ⟨hw _ _ h3, hf _ _ (by omega) h3 h4⟩
theorem rb_send {ρ η : Nat → Int32} {n s : Nat} (h1 : RW ρ n s) (h2 : RB ρ) : ∀ i, i ≤ n → RB (rSend (ρ, η) i).1
  | 0, _ => h2
  | i + 1, hi => by
    have h3 := rb_send (η := η) h1 h2 i (by omega)
    show RB (rRecvIf (rSend (ρ, η) i) i).1
    unfold rRecvIf
    split
    · exact h3.recv (by have := h1.2.1; omega)
    · exact h3
theorem RB.listen {ρ η : Nat → Int32} (h : RB ρ) {k : Nat} (hk : k < 6) : RB (rListen ρ η k) := by
  unfold rListen
  generalize (if η k = 1 then (0 : Int32) else ρ (58 + 15 * k + 9) + 1) = u
  split
  · exact (h.free (w := 9) hk (by decide) rfl).putT (w := 6) (M := 28) (v := 0) (m := 0) hk (by decide) rfl rfl (by decide)
  · exact h.free (w := 9) hk (by decide) rfl
theorem newSpeed_n {p : Int32} {m t c v : Nat} (hm : m ≤ 28) (ht : t ≤ 28) (hc : c ≤ 5) (hv : 0 < v) (hv9 : v ≤ 9) : ∃ u, u ≤ 28 ∧ rNewSpeed p (nI m) (nI t) (nI c) (nI v) = nI u := by
  unfold rNewSpeed
  split
  · by_cases c5 : 5 ≤ m
    · rw [show nI m - 5 = nI (m - 5) from pk_sub (b := 5) c5, show (0 : Int32) = nI 0 from rfl, iMax_n (by decide) (by omega)]
      exact ⟨_, by split <;> omega, rfl⟩
    · have hneg : nI m - 5 < 0 := pk_sneg (b := 5) (by decide) (by omega)
      exact ⟨0, by decide, iMax_t hneg⟩
  · split
    · rw [nI_add, iMin_n (by omega) (by omega)]
      exact ⟨_, by split <;> omega, rfl⟩
    · split
      · next c1 =>
        have hm0 : 0 < m := by have := (nI_ltI (a := t) (b := m) (by omega) (by omega)).mp c1; omega
        obtain ⟨m1, h1, h2⟩ := rBraked_nI (m := m) (d := v) (by omega) hm0 hv (by omega)
        rw [h2, iMax_n (by omega) (by omega)]
        exact ⟨_, by split <;> omega, rfl⟩
      · exact ⟨m, hm, rfl⟩
theorem RB.speed {ρ : Nat → Int32} {n s : Nat} (h : RB ρ) (hW : RW ρ n s) {k : Nat} (hk : k < n) : RB (rSpeed ρ k) := by
  have hk6 : k < 6 := by have := hW.2.1; omega
  unfold rSpeed
  obtain ⟨m, h1, h2⟩ := h.t hk6 (w := 5) (by decide) rfl
  obtain ⟨t, h3, h4⟩ := h.t hk6 (w := 6) (by decide) rfl
  obtain ⟨c, h5, h6⟩ := h.t hk6 (w := 1) (by decide) rfl
  obtain ⟨v, h7, h8⟩ := h.t hk6 (w := 2) (by decide) rfl
  have hv : 0 < v := by
    rcases Nat.eq_zero_or_pos v with e | e
    · exact absurd (h8.trans (by rw [e]; rfl)) (hW.2.2.2.2.2.2 k hk)
    · exact e
  obtain ⟨u, h9, h10⟩ := newSpeed_n (p := ρ 4) h1 h3 h5 hv h7
  rw [h2, h4, h6, h8, h10]
  exact h.putT (w := 5) (M := 28) hk6 (by decide) rfl rfl h9
theorem dim_n {b d : Nat} (hb : b ≤ 15) (hd : d ≤ 15) : ∃ u, u ≤ 15 ∧ nI b + rDimS (nI d - nI b) = nI u := by
  have : ∀ b d : Fin 16, ∃ u : Fin 16, nI b.1 + rDimS (nI d.1 - nI b.1) = nI u.1 := by decide
  obtain ⟨u, hu⟩ := this ⟨b, by omega⟩ ⟨d, by omega⟩
  exact ⟨u.1, by omega, hu⟩
theorem RB.dim {ρ : Nat → Int32} (h : RB ρ) {k : Nat} (hk : k < 6) : RB (rDim ρ k) := by
  unfold rDim
  obtain ⟨b, h1, h2⟩ := h.t hk (w := 7) (by decide) rfl
  obtain ⟨d, h3, h4⟩ := h.t hk (w := 8) (by decide) rfl
  split
  · obtain ⟨u, h5, h6⟩ := dim_n h1 h3
    rw [h2, h4, h6]
    exact h.putT (w := 7) (M := 15) hk (by decide) rfl rfl h5
  · exact h.putT (w := 7) (M := 15) (m := 0) hk (by decide) rfl rfl (by decide)
theorem RB.move {ρ : Nat → Int32} (h : RB ρ) {n s k : Nat} (hk : k < 6) : RB (rMove n s ρ k) := by
  unfold rMove
  split
  · exact h.free (w := 4) hk (by decide) rfl
  · split
    · exact RB.add (w := 10) (((h.free (w := 4) hk (by decide) rfl).free (w := 3) hk (by decide) rfl).free (w := 4) hk (by decide) rfl) hk (by decide) rfl
    · exact RB.add (w := 14) (((h.free (w := 4) hk (by decide) rfl).free (w := 4) hk (by decide) rfl).putT (w := 5) (M := 28) (m := 0) hk (by decide) rfl rfl (by decide)) hk (by decide) rfl
theorem RB.watch {ρ : Nat → Int32} (h : RB ρ) {n : Nat} : RB (rWatch ρ n) := by
  unfold rWatch
  split
  · exact h.head (by decide) (by decide)
  · split
    · exact (h.head (by decide) (by decide)).head (by decide) (by decide)
    · exact h
theorem RB.shift {ρ : Nat → Int32} (h : RB ρ) {q : Nat} : RB (rShift ρ q) := by
  unfold rShift
  exact RB.head ((h.head (by decide) (by decide)).cpy (by decide) (by decide)) (by decide) (by decide)
/-- a row whose numbers all are in their ranges: n trains, s sections -/
def RV (ρ : Nat → Int32) (n s : Nat) : Prop := RQ ρ n s ∧ 1 ≤ n ∧ RB ρ
theorem rT_eq (n s : Nat) (ρ : Nat → Int32) : rT n s ρ = if ρ 0 = 10000 then ρ else upd (rTickM n s (rTick0 ρ (zeroH (fun _ => 0) n) n)) 0 (rTickM n s (rTick0 ρ (zeroH (fun _ => 0) n) n) 0 + 1) := by
  unfold rT rTick
  split <;> rfl
theorem rTickM_0 {p : (Nat → Int32) × (Nat → Int32)} {n s : Nat} (hn : n ≤ 6) : rTickM n s p 0 = p.1 0 := by
  unfold rTickM
  have e1 : ∀ (ρ : Nat → Int32) (m : Nat), rWatch ρ m 0 = ρ 0 := fun ρ m => by
    unfold rWatch
    split
    · exact upd_ne (by decide)
    · split
      · rw [upd_ne (by decide), upd_ne (by decide)]
      · rfl
  rw [e1, iter_out (fun ρ k hk => rMove_out hk (Or.inl (by decide))) n hn, iter_out (fun ρ k hk => rDrive_out hk (Or.inl (by decide))) n hn]
theorem rTick0_0 {ρ η : Nat → Int32} {n s : Nat} (h : RW ρ n s) : (rTick0 ρ η n).1 0 = ρ 0 := by
  unfold rTick0
  split
  · show rShift (rSend (ρ, η) n).1 (rQ ρ - 1) 0 = ρ 0
    rw [rShift_lo (by decide) (by decide) (by decide)]
    exact (rSend_ok h n (Nat.le_refl n)).2 0 (Or.inl (by decide))
  · rfl
theorem RV.rT {ρ : Nat → Int32} {n s : Nat} (h : RV ρ n s) : RV (rT n s ρ) n s := by
  obtain ⟨hQ, hn, hB⟩ := h
  refine ⟨hQ.rT, hn, ?_⟩
  rw [rT_eq]
  split
  · exact hB
  · next c =>
    have hW := hQ.1
    have hn6 := hW.2.1
    have hB0 : RB (rTick0 ρ (zeroH (fun _ => 0) n) n).1 := by
      unfold rTick0
      split
      · exact (rb_send hW hB n (Nat.le_refl n)).shift
      · exact hB
    have hW0 := hW.tick0 (η := zeroH (fun _ => 0) n)
    have h1 := rb_iter (f := rDrive (rTick0 ρ (zeroH (fun _ => 0) n) n).2) (fun ρ k hk hW hB => RB.dim (RB.speed (RB.listen hB (by omega)) hW.listen hk) (by omega)) (fun ρ k hW => hW.drive) hW0 hB0 n (Nat.le_refl n)
    have h2 := rb_iter (f := rMove n s) (fun ρ k hk hW hB => RB.move hB (by omega)) (fun ρ k hW => hW.move) h1.1 h1.2 n (Nat.le_refl n)
    have h3 : RB (rTickM n s (rTick0 ρ (zeroH (fun _ => 0) n) n)) := RB.watch h2.2
    refine h3.put ?_
    rw [rTickM_0 hn6, rTick0_0 hW]
    obtain ⟨m, hm, e⟩ := hB 0
    have hm1 : m ≤ 10000 := hm
    rw [e, nI_1]
    refine okV_n ?_
    show m + 1 ≤ 10000
    rcases Nat.lt_or_ge m 10000 with c1 | c1
    · exact c1
    · exact absurd (e.trans (by rw [show m = 10000 by omega]; rfl)) c
theorem RV.rPs {ρ : Nat → Int32} {n s : Nat} (h : RV ρ n s) : ∀ t, RV (rPs n s ρ t) n s
  | 0 => h
  | t + 1 => (RV.rPs h t).rT
theorem RQ.put {ρ : Nat → Int32} {n s : Nat} (h : RQ ρ n s) {i : Nat} {v : Int32} (h1 : i ≠ 1) (h3 : i ≠ 3) (h6 : i ≠ 6) (ht : ∀ k, k < 6 → i ≠ 58 + 15 * k + 3 ∧ i ≠ 58 + 15 * k + 2) : RQ (upd ρ i v) n s := ⟨h.1.put h1 h3 ht, by obtain ⟨q, a, b⟩ := h.2; exact ⟨q, a, by rw [upd_ne (Ne.symm h6)]; exact b⟩⟩
theorem RQ.len {ρ : Nat → Int32} {n s q : Nat} (h : RQ ρ n s) (hq : q ≤ 12) : RQ (upd ρ 6 (nI q)) n s := ⟨h.1.put (by decide) (by decide) (fun k hk => by omega), q, hq, upd_same _ _ _⟩
theorem RW.cpy {ρ : Nat → Int32} {n s i j m : Nat} (h : RW ρ n s) (hj : 148 ≤ j) : RW (va_cpy ρ ρ i j m) n s := by
  obtain ⟨a1, a2, a3, a4, a5, a6, a7⟩ := h
  refine ⟨by rw [pk_cpy_out (Or.inl (by omega))]; exact a1, a2, by rw [pk_cpy_out (Or.inl (by omega))]; exact a3, a4, a5, fun k hk => ?_, fun k hk => ?_⟩
  · rw [pk_cpy_out (Or.inl (by omega))]; exact a6 k hk
  · rw [pk_cpy_out (Or.inl (by omega))]; exact a7 k hk
/-- a packet is put into the queue -/
theorem RV.put {ρ : Nat → Int32} {n s p q mx mc mk : Nat} (h : RV ρ n s) (hQ : ρ 6 = nI q) (hq : q < 12) (hp : p ≤ q) (hx : mx ≤ 255) (hc : mc ≤ 255) (hk : mk ≤ 255) : RV (rPut ρ p (nI mx) (nI mc) (nI mk)) n s := by
  obtain ⟨hR, hn, hB⟩ := h
  have e : rQ ρ = q := by rw [rQ, hQ]; exact nI_clamp (by omega)
  unfold rPut rPut0
  rw [e, hQ, nI_1]
  have hb : ∀ j, 148 ≤ j → ∀ m, m ≤ 255 → okV j (nI m) := fun j hj m hm => ⟨m, by rw [bd_p hj]; exact hm, rfl⟩
  refine ⟨⟨?_, q + 1, hq, ?_⟩, hn, ?_⟩
  · refine RW.put (RW.put (RW.put (RW.put (RW.put (hR.1.cpy (by omega)) (by omega) (by omega) (fun k hk => by omega)) (by omega) (by omega) (fun k hk => by omega)) (by omega) (by omega) (fun k hk => by omega)) (by decide) (by decide) (fun k hk => by omega)) (by decide) (by decide) (fun k hk => by omega)
  · rw [upd_ne (by decide), upd_same]
  · exact RB.head (RB.head (((RB.put (hB.cpy (by omega) (by omega)) (hb _ (by omega) _ hx)).put (hb _ (by omega) _ hc)).put (hb _ (by omega) _ hk)) (by decide) (by decide)) (by decide) (by decide)
theorem RV.sec {ρ : Nat → Int32} {n s k : Nat} (h : RV ρ n s) (hk : k < 24) (b : Bool) : RV (upd ρ (34 + k) (bI b)) n s := ⟨h.1.put (by omega) (by omega) (by omega) (fun j hj => by omega), h.2.1, h.2.2.put (by
  refine ⟨if b = true then 1 else 0, ?_, by cases b <;> rfl⟩
  rw [bd_s (by omega) (by omega)]
  split <;> decide)⟩
theorem RV.clear {ρ : Nat → Int32} {n s : Nat} {x : Int32} (h : RV ρ n s) : RV (upd (upd ρ 9 x) 6 0) n s := ⟨(h.1.put (i := 9) (by decide) (by decide) (by decide) (fun k hk => by omega)).len (q := 0) (by decide), h.2.1, (h.2.2.head (by decide) (by decide)).head (by decide) (by decide)⟩
theorem RV.addr {ρ : Nat → Int32} {n s k : Nat} {x : Int32} (h : RV ρ n s) (hk : k < 6) : RV (upd ρ (58 + 15 * k + 0) x) n s := ⟨h.1.put (by omega) (by omega) (by omega) (fun j hj => by omega), h.2.1, h.2.2.free (w := 0) hk (by decide) rfl⟩
/-- a row is known below its length alone -/
theorem RW.eq {ρ ρ1 : Nat → Int32} {n s : Nat} (h : RW ρ n s) (he : ∀ j, j < 184 → ρ1 j = ρ j) : RW ρ1 n s := by
  obtain ⟨a1, a2, a3, a4, a5, a6, a7⟩ := h
  refine ⟨by rw [he _ (by decide)]; exact a1, a2, by rw [he _ (by decide)]; exact a3, a4, a5, fun k hk => ?_, fun k hk => ?_⟩
  · rw [he _ (by omega)]; exact a6 k hk
  · rw [he _ (by omega)]; exact a7 k hk

