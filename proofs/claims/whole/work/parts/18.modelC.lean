/-! the reference's tick, whole -/
theorem RW.add {ρ : Nat → Int32} {n s k w : Nat} {v : Int32} (h : RW ρ n s) (hw : w < 15) (h3 : w ≠ 3) (h2 : w ≠ 2) : RW (rAdd ρ k w v) n s := h.seg hw h3 h2
theorem RW.obey0 {ρ : Nat → Int32} {n s k : Nat} {c : Int32} (h : RW ρ n s) : RW (rObey0 ρ k c) n s := by
  unfold rObey0
  split
  · exact h.seg (w := 6) (by decide) (by decide) (by decide)
  · split
    · exact h.seg (w := 8) (by decide) (by decide) (by decide)
    · split
      · exact (h.seg (w := 5) (by decide) (by decide) (by decide)).seg (w := 6) (by decide) (by decide) (by decide)
      · exact h
theorem RW.recv {ρ : Nat → Int32} {n s k : Nat} (h : RW ρ n s) : RW (rRecv ρ k) n s := by
  unfold rRecv
  split
  · exact h.add (by decide) (by decide) (by decide)
  · split
    · exact h.obey0.add (by decide) (by decide) (by decide)
    · exact h.add (by decide) (by decide) (by decide)
theorem rRecv_out {ρ : Nat → Int32} {k x : Nat} (hk : k < 6) (hx : x < 58 ∨ 148 ≤ x) : rRecv ρ k x = ρ x := by
  have o : ∀ (f : Nat → Int32) (w : Nat) (v : Int32), w < 15 → upd f (58 + 15 * k + w) v x = f x := fun f w v hw => upd_ne (by omega)
  unfold rRecv rObey rObey0 rAdd
  split
  · rw [o _ _ _ (by decide)]
  · split
    · rw [o _ _ _ (by decide)]
      split
      · rw [o _ _ _ (by decide)]
      · split
        · rw [o _ _ _ (by decide)]
        · split
          · rw [o _ _ _ (by decide), o _ _ _ (by decide)]
          · rfl
    · rw [o _ _ _ (by decide)]
theorem RW.recvIf {p : (Nat → Int32) × (Nat → Int32)} {n s k : Nat} (h : RW p.1 n s) : RW (rRecvIf p k).1 n s := by
  unfold rRecvIf
  split
  · exact h.recv
  · exact h
theorem rRecvIf_out {p : (Nat → Int32) × (Nat → Int32)} {k x : Nat} (hk : k < 6) (hx : x < 58 ∨ 148 ≤ x) : (rRecvIf p k).1 x = p.1 x := by
  unfold rRecvIf
  split
  · exact rRecv_out hk hx
  · rfl
theorem rSend_ok {ρ η : Nat → Int32} {n s : Nat} (h : RW ρ n s) : ∀ i, i ≤ n → RW (rSend (ρ, η) i).1 n s ∧ ∀ x, (x < 58 ∨ 148 ≤ x) → (rSend (ρ, η) i).1 x = ρ x
  | 0, _ => ⟨h, fun _ _ => rfl⟩
  | i + 1, hi => by
    obtain ⟨h1, h2⟩ := rSend_ok h i (by omega)
    have hn6 := h.2.1
    exact ⟨h1.recvIf, fun x hx => (rRecvIf_out (by omega) hx).trans (h2 x hx)⟩
def zeroH (η : Nat → Int32) (n : Nat) : Nat → Int32 := iter (fun e k => upd e k 0) η n
def rDrive (η ρ : Nat → Int32) (k : Nat) : Nat → Int32 := rDim (rSpeed (rListen ρ η k) k) k
def rQ (ρ : Nat → Int32) : Nat := (ρ 6).toNatClampNeg
def rSends (ρ : Nat → Int32) : Prop := ρ 4 = 0 ∧ ¬ ρ 6 = 0
def rSentR (ρ η : Nat → Int32) (n : Nat) : Nat → Int32 := rShift (rSend (ρ, η) n).1 (rQ ρ - 1)
theorem RW.listen {ρ η : Nat → Int32} {n s k : Nat} (h : RW ρ n s) : RW (rListen ρ η k) n s := by
  unfold rListen
  generalize (if η k = 1 then 0 else ρ (58 + 15 * k + 9) + 1) = v
  split
  · exact (h.seg (w := 9) (by decide) (by decide) (by decide)).seg (w := 6) (by decide) (by decide) (by decide)
  · exact h.seg (w := 9) (by decide) (by decide) (by decide)
theorem RW.speed {ρ : Nat → Int32} {n s k : Nat} (h : RW ρ n s) : RW (rSpeed ρ k) n s := h.seg (by decide) (by decide) (by decide)
theorem RW.dim {ρ : Nat → Int32} {n s k : Nat} (h : RW ρ n s) : RW (rDim ρ k) n s := h.seg (by decide) (by decide) (by decide)
theorem RW.drive {ρ η : Nat → Int32} {n s k : Nat} (h : RW ρ n s) : RW (rDrive η ρ k) n s := h.listen.speed.dim
theorem RW.sec {ρ : Nat → Int32} {n s k j : Nat} (h : RW ρ n s) (hj : j < s) : RW (upd ρ (58 + 15 * k + 3) (nI j)) n s := by
  obtain ⟨a1, a2, a3, a4, a5, a6, a7⟩ := h
  refine ⟨by rw [upd_ne (by omega)]; exact a1, a2, by rw [upd_ne (by omega)]; exact a3, a4, a5, fun i hi => ?_, fun i hi => ?_⟩
  · by_cases e : i = k
    · subst e
      exact ⟨j, hj, upd_same _ _ _⟩
    · rw [upd_ne (by omega)]; exact a6 i hi
  · rw [upd_ne (by omega)]; exact a7 i hi
theorem RW.move {ρ : Nat → Int32} {n s k : Nat} (h : RW ρ n s) : RW (rMove n s ρ k) n s := by
  have h4 := h.2.2.2.1
  unfold rMove rAdd
  split
  · exact h.seg (by decide) (by decide) (by decide)
  · split
    · exact (((h.seg (by decide) (by decide) (by decide)).sec (Nat.mod_lt _ (by omega))).seg (by decide) (by decide) (by decide)).seg (by decide) (by decide) (by decide)
    · exact (((h.seg (by decide) (by decide) (by decide)).seg (by decide) (by decide) (by decide)).seg (by decide) (by decide) (by decide)).seg (by decide) (by decide) (by decide)
theorem RW.shift {ρ : Nat → Int32} {n s q : Nat} (h : RW ρ n s) : RW (rShift ρ q) n s := by
  have o : ∀ x, x < 148 → x ≠ 6 → x ≠ 8 → rShift ρ q x = ρ x := by
    intro x h1 h2 h3
    unfold rShift
    rw [upd_ne h3, pk_cpy_out (Or.inl h1), upd_ne h2]
  obtain ⟨a1, a2, a3, a4, a5, a6, a7⟩ := h
  exact ⟨(o 3 (by decide) (by decide) (by decide)).trans a1, a2, (o 1 (by decide) (by decide) (by decide)).trans a3, a4, a5, fun k hk => by rw [o _ (by omega) (by omega) (by omega)]; exact a6 k hk, fun k hk => by rw [o _ (by omega) (by omega) (by omega)]; exact a7 k hk⟩
theorem RW.watch {ρ : Nat → Int32} {n s m : Nat} (h : RW ρ n s) : RW (rWatch ρ m) n s := by
  unfold rWatch
  split
  · exact h.put (by decide) (by decide) (fun k hk => by omega)
  · split
    · exact (h.put (by decide) (by decide) (fun k hk => by omega)).put (by decide) (by decide) (fun k hk => by omega)
    · exact h
theorem RW.iter {f : (Nat → Int32) → Nat → (Nat → Int32)} {n s : Nat} (hf : ∀ ρ k, RW ρ n s → RW (f ρ k) n s) {ρ : Nat → Int32} (h : RW ρ n s) : ∀ i, RW (iter f ρ i) n s
  | 0 => h
  | i + 1 => hf _ _ (RW.iter hf h i)
def rTick0 (ρ η : Nat → Int32) (n : Nat) : (Nat → Int32) × (Nat → Int32) := if ρ 4 = 0 ∧ ¬ ρ 6 = 0 then (rSentR ρ η n, (rSend (ρ, η) n).2) else (ρ, η)
def rTickM (n s : Nat) (p : (Nat → Int32) × (Nat → Int32)) : Nat → Int32 := rWatch (iter (rMove n s) (iter (rDrive p.2) p.1 n) n) n
def rTick (n s : Nat) (p : (Nat → Int32) × (Nat → Int32)) : (Nat → Int32) × (Nat → Int32) :=
  if p.1 0 = 10000 then p else (upd (rTickM n s (rTick0 p.1 (zeroH p.2 n) n)) 0 (rTickM n s (rTick0 p.1 (zeroH p.2 n) n) 0 + 1), (rTick0 p.1 (zeroH p.2 n) n).2)
def rSentN (ρ : Nat → Int32) : Int32 := if ρ 0 = 10000 then 0 else if ρ 4 = 0 ∧ ¬ ρ 6 = 0 then 1 else 0
section ModelPass
variable {G : Gl} {κ : Kx} {d : Nat} {Q : Option Value → Hp → Prop} {X : String → Hp → Prop} {cs ss : Nat} {σ : Hp} {a : Nat} {r : Nat → Nat} {z : Nat → Int32} {A : Nat → Nat → Int32} {rw : Nat} {ρ η : Nat → Int32}
theorem sp_isShorted (hΓ : Ok G κ mX13_isShorted (d + 1) Q X) (h : MV G σ a r z A rw ρ η) {n s : Nat} (hR : RW ρ n s) (hq : Q (some (.int (bI (rShorted ρ n)))) σ) : AW G κ cs ss 0 [lR a, none] [] σ := by
  have hn := hR.1
  have hn6 := hR.2.1
  have hs24 := hR.2.2.2.2.1
  suffices loop : ∀ (m i : Nat) (x : Int32), i + m = n → x = nI i → (∀ j, j < i → (ρ (34 + rSec ρ j) == 1) = false) → AW G κ cs ss 2 [lR a, lI x] [] σ by
    refine sX13_isShorted_0 hΓ ?_
    refine sX13_isShorted_1 hΓ ?_
    exact loop n 0 _ (Nat.zero_add n) rfl (fun j hj => absurd hj (Nat.not_lt_zero j))
  intro m
  induction m with
  | zero =>
    intro i x hi hx hp
    refine sX13_isShorted_2 hΓ rfl ?_
    refine sX13_isShorted_3 hΓ rfl ?_
    refine sX13_isShorted_4 hΓ h.o rfl ?_
    refine sX13_isShorted_7 hΓ ?_
    refine sX13_isShorted_8 hΓ h.row (j := 3) rfl (by decide) (by decide) ?_
    refine sX13_isShorted_9 hΓ (fun c9 => ?_) (fun c9 => absurd (lp_out hx hn (by omega) (by omega)) c9)
    refine sX13_isShorted_38 hΓ ?_
    exact sX13_isShorted_39 hΓ (Or.inl rfl) (by rw [rShorted, fsB_none _ (fun j hj => hp j (by omega))] at hq; exact hq)
  | succ m ih =>
    intro i x hi hx hp
    obtain ⟨j, hjs, hj⟩ := hR.2.2.2.2.2.1 i (by omega)
    have hsj : rSec ρ i = j := by rw [rSec, hj]; exact nI_clamp (by omega)
    refine sX13_isShorted_2 hΓ rfl ?_
    refine sX13_isShorted_3 hΓ rfl ?_
    refine sX13_isShorted_4 hΓ h.o rfl ?_
    refine sX13_isShorted_7 hΓ ?_
    refine sX13_isShorted_8 hΓ h.row (j := 3) rfl (by decide) (by decide) ?_
    refine sX13_isShorted_9 hΓ (fun c9 => absurd c9 (lp_in hx hn (by omega) (by omega))) (fun c9 => ?_)
    refine sX13_isShorted_12 hΓ rfl ?_
    refine sX13_isShorted_13 hΓ h.o rfl ?_
    refine sX13_isShorted_16 hΓ ?_
    refine sX13_isShorted_18 hΓ rfl ?_
    refine sX13_isShorted_19 hΓ rfl ?_
    refine sX13_isShorted_20 hΓ ?_
    refine sX13_isShorted_21 hΓ 0 0 (Nat.le_of_ble_eq_true rfl) h.o (fun κ_21 hΓ_21 => sp_of hΓ_21 h (w := 3) hx rfl (by omega) (by decide) ?_)
    show AW G κ _ _ 24 _ _ _
    refine sX13_isShorted_24 hΓ ?_
    refine sX13_isShorted_25 hΓ h.row (ixS (k := 34) rfl hj) (by omega) (by decide) ?_
    refine sX13_isShorted_26 hΓ ?_
    refine sX13_isShorted_27 hΓ (fun c27 => ?_) (fun c27 => ?_)
    · rw [← hsj] at c27
      refine sX13_isShorted_32 hΓ rfl ?_
      refine sX13_isShorted_35 hΓ ?_
      exact ih (i + 1) _ (by omega) (lp_1 hx) (fun j hj => (Nat.lt_succ_iff_lt_or_eq.mp hj).elim (hp j) (fun e => by rw [e]; exact beq_eq_false_iff_ne.mpr c27))
    · rw [← hsj] at c27
      refine sX13_isShorted_30 hΓ ?_
      exact sX13_isShorted_31 hΓ (Or.inr rfl) (by rw [rShorted, fsB_some (i := i) _ (by rw [c27]; rfl) hp (by omega)] at hq; exact hq)
theorem sp_watchPower (hΓ : Ok G κ mX13_watchPower (d + 3) Q X) (h : MV G σ a r z A rw ρ η) {n s : Nat} (hR : RW ρ n s) (hq : ∀ σ1 : Hp, MV G σ1 a r z A rw (rWatch ρ n) η → MF a r σ σ1 → Q none σ1) : AW G κ cs ss 0 [lR a] [] σ := by
  refine sX13_watchPower_0 hΓ rfl ?_
  refine sX13_watchPower_1 hΓ 0 0 (Nat.le_of_ble_eq_true rfl) h.o (fun κ_1 hΓ_1 => sp_hasPower hΓ_1 h (fun p0 => ?_) (fun p0 => ?_) )
  · show AW G κ _ _ 4 _ _ _
    refine sX13_watchPower_4 hΓ (fun c => ?_) (fun c => absurd c (by decide))
    refine sX13_watchPower_20 hΓ rfl ?_
    refine sX13_watchPower_21 hΓ 0 0 (Nat.le_of_ble_eq_true rfl) h.o (fun κ_21 hΓ_21 => sp_isShorted hΓ_21 h hR ?_)
    show AW G κ _ _ 24 _ _ _
    refine sX13_watchPower_24 hΓ (fun c24 => ?_) (fun c24 => ?_)
    · have c := bI_0 c24
      exact sX13_watchPower_49 hΓ (hq _ (by first | (rw [rWatch, if_neg (not_not_intro p0), if_pos c]; exact h) | (rw [rWatch, if_neg (not_not_intro p0), if_neg (by rw [c]; exact Bool.false_ne_true)]; exact h)) MF.rf)
    · have c := bI_n0 c24
      refine sX13_watchPower_27 hΓ rfl ?_
      refine sX13_watchPower_28 hΓ h.o rfl ?_
      refine sX13_watchPower_31 hΓ ?_
      refine sX13_watchPower_32 hΓ rfl ?_
      refine sX13_watchPower_33 hΓ h.o rfl ?_
      refine sX13_watchPower_36 hΓ ?_
      refine sX13_watchPower_37 hΓ h.row (j := 2) rfl (by decide) (by decide) ?_
      refine sX13_watchPower_38 hΓ h.row (j := 4) rfl (by decide) (by decide) (mv_row h (fun σ1 h1 f1 => ?_))
      refine sX13_watchPower_39 hΓ rfl ?_
      refine sX13_watchPower_40 hΓ h1.o rfl ?_
      refine sX13_watchPower_43 hΓ ?_
      refine sX13_watchPower_44 hΓ ?_
      refine sX13_watchPower_45 hΓ h1.row (j := 5) rfl (by decide) (by decide) ?_
      refine sX13_watchPower_46 hΓ ?_
      refine sX13_watchPower_47 hΓ ?_
      refine sX13_watchPower_48 hΓ h1.row (j := 5) rfl (by decide) (by decide) (mv_row h1 (fun σ2 h2 f2 => ?_))
      exact sX13_watchPower_49 hΓ (hq _ (by first | (rw [rWatch, if_neg (not_not_intro p0), if_pos c]; exact h2) | (rw [rWatch, if_neg (not_not_intro p0), if_neg (by rw [c]; exact Bool.false_ne_true)]; exact h2)) (f1.tr f2))
  · show AW G κ _ _ 4 _ _ _
    refine sX13_watchPower_4 hΓ (fun c => absurd rfl c) (fun c => ?_)
    refine sX13_watchPower_7 hΓ rfl ?_
    refine sX13_watchPower_8 hΓ h.o rfl ?_
    refine sX13_watchPower_11 hΓ ?_
    refine sX13_watchPower_12 hΓ ?_
    refine sX13_watchPower_13 hΓ h.row (j := 4) rfl (by decide) (by decide) ?_
    refine sX13_watchPower_14 hΓ ?_
    refine sX13_watchPower_15 hΓ ?_
    refine sX13_watchPower_16 hΓ h.row (j := 4) rfl (by decide) (by decide) (mv_row h (fun σ1 h1 f1 => ?_))
    refine sX13_watchPower_17 hΓ ?_
    exact sX13_watchPower_49 hΓ (hq _ (by rw [rWatch, if_pos p0]; exact h1) f1)
theorem sp_send (hΓ : Ok G κ mX13_send (d + 4) Q X) (h : MV G σ a r z A rw ρ η) {n s q : Nat} (hR : RW ρ n s) (hQ : ρ 6 = nI q) (hq12 : q ≤ 12) (hq : ∀ σ1 : Hp, MV G σ1 a r z A rw (rTick0 ρ η n).1 (rTick0 ρ η n).2 → MF a r σ σ1 → Q (some (.int (if ρ 4 = 0 ∧ ¬ ρ 6 = 0 then 1 else 0))) σ1) : AW G κ cs ss 0 [lR a, none] [] σ := by
  have hn6 := hR.2.1
  suffices fin : ρ 4 = 0 → ¬ ρ 6 = 0 → AW G κ cs ss 19 [lR a, none] [] σ by
    refine sX13_send_0 hΓ rfl ?_
    refine sX13_send_1 hΓ 0 0 (Nat.le_of_ble_eq_true rfl) h.o (fun κ_1 hΓ_1 => sp_hasPower hΓ_1 h (fun p0 => ?_) (fun p0 => ?_) )
    · show AW G κ _ _ 4 _ _ _
      refine sX13_send_4 hΓ (fun c => absurd c (by decide)) (fun c => ?_)
      refine sX13_send_7 hΓ rfl ?_
      refine sX13_send_8 hΓ h.o rfl ?_
      refine sX13_send_11 hΓ ?_
      refine sX13_send_13 hΓ h.row (j := 6) rfl (by decide) (by decide) ?_
      refine sX13_send_14 hΓ (fun c14 => ?_) (fun c14 => ?_)
      · exact fin p0 c14
      · refine sX13_send_17 hΓ ?_
        exact sX13_send_18 hΓ (by have hq := hq σ; rw [rTick0, if_neg (fun e => e.2 c14), if_neg (fun e => e.2 c14)] at hq; exact hq h MF.rf)
    · show AW G κ _ _ 4 _ _ _
      refine sX13_send_4 hΓ (fun c => ?_) (fun c => absurd rfl c)
      refine sX13_send_17 hΓ ?_
      exact sX13_send_18 hΓ (by have hq := hq σ; rw [rTick0, if_neg (fun e => p0 e.1), if_neg (fun e => p0 e.1)] at hq; exact hq h MF.rf)
  intro p0 p6
  have hq0 : 0 < q := Nat.pos_of_ne_zero (fun e => p6 (by rw [hQ, e]; rfl))
  suffices fin : ∀ (σ2 : Hp) (x : Int32), MV G σ2 a r z A rw (rSend (ρ, η) n).1 (rSend (ρ, η) n).2 → MF a r σ σ2 → AW G κ cs ss 51 [lR a, lI x] [] σ2 by
    suffices loop : ∀ (m i : Nat) (x : Int32) (σ2 : Hp), i + m = n → x = nI i → MV G σ2 a r z A rw (rSend (ρ, η) i).1 (rSend (ρ, η) i).2 → MF a r σ σ2 → AW G κ cs ss 21 [lR a, lI x] [] σ2 by
      refine sX13_send_19 hΓ ?_
      refine sX13_send_20 hΓ ?_
      exact loop n 0 _ σ (Nat.zero_add n) rfl h MF.rf
    intro m
    induction m with
    | zero =>
      intro i x σ2 hi hx h f
      have hn : (rSend (ρ, η) i).1 3 = nI n := ((rSend_ok hR i (by omega)).2 3 (by omega)).trans hR.1
      refine sX13_send_21 hΓ rfl ?_
      refine sX13_send_22 hΓ rfl ?_
      refine sX13_send_23 hΓ h.o rfl ?_
      refine sX13_send_26 hΓ ?_
      refine sX13_send_27 hΓ h.row (j := 3) rfl (by decide) (by decide) ?_
      refine sX13_send_28 hΓ (fun c28 => ?_) (fun c28 => absurd (lp_out hx hn (by omega) (by omega)) c28)
      exact fin _ _ (by rw [show n = i by omega]; exact h) f
    | succ m ih =>
      intro i x σ2 hi hx h f
      have hok := rSend_ok (η := η) hR i (by omega)
      have hn : (rSend (ρ, η) i).1 3 = nI n := (hok.2 3 (by omega)).trans hR.1
      refine sX13_send_21 hΓ rfl ?_
      refine sX13_send_22 hΓ rfl ?_
      refine sX13_send_23 hΓ h.o rfl ?_
      refine sX13_send_26 hΓ ?_
      refine sX13_send_27 hΓ h.row (j := 3) rfl (by decide) (by decide) ?_
      refine sX13_send_28 hΓ (fun c28 => absurd c28 (lp_in hx hn (by omega) (by omega))) (fun c28 => ?_)
      refine sX13_send_31 hΓ rfl ?_
      refine sX13_send_32 hΓ ?_
      refine sX13_send_33 hΓ rfl ?_
      refine sX13_send_34 hΓ 0 0 (Nat.le_of_ble_eq_true rfl) h.o (fun κ_34 hΓ_34 => sp_isFor hΓ_34 h (p := 0) rfl (by decide) hx (by omega) ?_)
      show AW G κ _ _ 37 _ _ _
      refine sX13_send_37 hΓ (fun c37 => ?_) (fun c37 => ?_)
      · have c := bI_0 c37
        have e : rSend (ρ, η) (i + 1) = rSend (ρ, η) i := if_neg (fun e9 => Bool.false_ne_true (c.symm.trans e9))
        refine sX13_send_45 hΓ rfl ?_
        refine sX13_send_48 hΓ ?_
        exact ih (i + 1) _ _ (by omega) (lp_1 hx) (by rw [e]; exact h) f
      · have c := bI_n0 c37
        have e : rSend (ρ, η) (i + 1) = (rRecv (rSend (ρ, η) i).1 i, rRecvH (rSend (ρ, η) i).1 (rSend (ρ, η) i).2 i) := if_pos c
        refine sX13_send_40 hΓ rfl ?_
        refine sX13_send_41 hΓ rfl ?_
        refine sX13_send_42 hΓ 0 0 (Nat.le_of_ble_eq_true rfl) h.o (fun κ_42 hΓ_42 => sp_receive hΓ_42 h hx (by omega) hok.1 (fun σ21 h21 f21 => ?_))
        show AW G κ _ _ 45 _ _ _
        refine sX13_send_45 hΓ rfl ?_
        refine sX13_send_48 hΓ ?_
        exact ih (i + 1) _ _ (by omega) (lp_1 hx) (by rw [e]; exact h21) (f.tr f21)
  intro σ2 x h f
  have hok := rSend_ok (η := η) hR n (Nat.le_refl n)
  have h6 : (rSend (ρ, η) n).1 6 = nI q := (hok.2 6 (by omega)).trans hQ
  have e6 : (rSend (ρ, η) n).1 6 - 1 = nI (q - 1) := by rw [h6]; exact pk_sub (b := 1) (by omega)
  have eq1 : rQ ρ = q := by rw [rQ, hQ]; exact nI_clamp (by omega)
  refine sX13_send_51 hΓ rfl ?_
  refine sX13_send_52 hΓ h.o rfl ?_
  refine sX13_send_55 hΓ ?_
  refine sX13_send_57 hΓ ?_
  refine sX13_send_58 hΓ h.row (j := 6) rfl (by decide) (by decide) ?_
  refine sX13_send_59 hΓ ?_
  refine sX13_send_60 hΓ ?_
  refine sX13_send_61 hΓ h.row (j := 6) rfl (by decide) (by decide) (mv_row h (fun σ41 h41 f41 => ?_))
  refine sX13_send_62 hΓ rfl ?_
  refine sX13_send_63 hΓ h41.o rfl ?_
  refine sX13_send_66 hΓ ?_
  refine sX13_send_69 hΓ rfl ?_
  refine sX13_send_70 hΓ h41.o rfl ?_
  refine sX13_send_73 hΓ ?_
  refine sX13_send_76 hΓ ?_
  refine sX13_send_77 hΓ rfl ?_
  refine sX13_send_78 hΓ h41.o rfl ?_
  refine sX13_send_81 hΓ ?_
  refine sX13_send_83 hΓ h41.row (j := 6) rfl (by decide) (by decide) ?_
  refine sX13_send_84 hΓ ?_
  refine sX13_send_85 hΓ (Nat.le_of_ble_eq_true rfl) h41.row h41.row (i := 151) (j := 148) (n := 3 * (q - 1)) rfl rfl (by rw [upd_same, e6]; exact pk_mul 3 (q - 1)) (by omega) (by omega) (by decide) (by decide) (mv_row h41 (fun σ42 h42 f42 => ?_))
  refine sX13_send_88 hΓ rfl ?_
  refine sX13_send_89 hΓ h42.o rfl ?_
  refine sX13_send_92 hΓ ?_
  refine sX13_send_94 hΓ ?_
  refine sX13_send_95 hΓ h42.row (j := 8) rfl (by decide) (by decide) ?_
  refine sX13_send_96 hΓ ?_
  refine sX13_send_97 hΓ ?_
  refine sX13_send_98 hΓ h42.row (j := 8) rfl (by decide) (by decide) (mv_row h42 (fun σ43 h43 f43 => ?_))
  refine sX13_send_99 hΓ ?_
  exact sX13_send_100 hΓ (by have hq := hq _ (by rw [rTick0, if_pos ⟨p0, p6⟩, rSentR, rShift, eq1, ← e6]; exact h43) (((f.tr f41).tr f42).tr f43); rw [if_pos ⟨p0, p6⟩] at hq; exact hq)
end ModelPass
