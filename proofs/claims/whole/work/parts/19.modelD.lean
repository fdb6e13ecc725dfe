theorem RW.tick0 {ρ η : Nat → Int32} {n s : Nat} (h : RW ρ n s) : RW (rTick0 ρ η n).1 n s := by
  unfold rTick0
  split
  · exact (rSend_ok h n (Nat.le_refl n)).1.shift
  · exact h
theorem rDrive_out {η ρ : Nat → Int32} {k x : Nat} (hk : k < 6) (hx : x < 58 ∨ 148 ≤ x) : rDrive η ρ k x = ρ x := by
  have o : ∀ (f : Nat → Int32) (w : Nat) (v : Int32), w < 15 → upd f (58 + 15 * k + w) v x = f x := fun f w v hw => upd_ne (by omega)
  unfold rDrive rDim rSpeed
  rw [o _ _ _ (by decide), o _ _ _ (by decide)]
  unfold rListen
  generalize (if η k = 1 then 0 else ρ (58 + 15 * k + 9) + 1) = v
  split
  · rw [o _ _ _ (by decide), o _ _ _ (by decide)]
  · rw [o _ _ _ (by decide)]
theorem rw_drives {η ρ : Nat → Int32} {n s : Nat} (h : RW ρ n s) : ∀ i, RW (iter (rDrive η) ρ i) n s
  | 0 => h
  | i + 1 => (rw_drives h i).drive
theorem rw_moves {ρ : Nat → Int32} {n s : Nat} (h : RW ρ n s) : ∀ i, RW (iter (rMove n s) ρ i) n s
  | 0 => h
  | i + 1 => (rw_moves h i).move
theorem rMove_out {ρ : Nat → Int32} {n s k x : Nat} (hk : k < 6) (hx : x < 58 ∨ 148 ≤ x) : rMove n s ρ k x = ρ x := by
  have o : ∀ (f : Nat → Int32) (w : Nat) (v : Int32), w < 15 → upd f (58 + 15 * k + w) v x = f x := fun f w v hw => upd_ne (by omega)
  unfold rMove rAdd
  split
  · rw [o _ _ _ (by decide)]
  · split
    · rw [o _ _ _ (by decide), o _ _ _ (by decide), o _ _ _ (by decide), o _ _ _ (by decide)]
    · rw [o _ _ _ (by decide), o _ _ _ (by decide), o _ _ _ (by decide), o _ _ _ (by decide)]
theorem iter_out {f : (Nat → Int32) → Nat → (Nat → Int32)} {x : Nat} (hf : ∀ ρ k, k < 6 → f ρ k x = ρ x) {ρ : Nat → Int32} : ∀ i, i ≤ 6 → iter f ρ i x = ρ x
  | 0, _ => rfl
  | i + 1, h => (hf _ i (by omega)).trans (iter_out hf i (by omega))
theorem rShift_lo {ρ : Nat → Int32} {q x : Nat} (h1 : x < 148) (h2 : x ≠ 6) (h3 : x ≠ 8) : rShift ρ q x = ρ x := by
  unfold rShift
  rw [upd_ne h3, pk_cpy_out (Or.inl h1), upd_ne h2]
theorem rShift_6 {ρ : Nat → Int32} {q : Nat} : rShift ρ q 6 = nI q := by
  unfold rShift
  rw [upd_ne (by decide), pk_cpy_out (Or.inl (by decide)), upd_same]
/-- .. and the queue's length is in its range -/
def RQ (ρ : Nat → Int32) (n s : Nat) : Prop := RW ρ n s ∧ ∃ q, q ≤ 12 ∧ ρ 6 = nI q
theorem rTickM_6 {p : (Nat → Int32) × (Nat → Int32)} {n s : Nat} (hn : n ≤ 6) : rTickM n s p 6 = p.1 6 := by
  have h1 : iter (rMove n s) (iter (rDrive p.2) p.1 n) n 6 = p.1 6 := (iter_out (fun _ _ hk => rMove_out hk (Or.inl (by decide))) n hn).trans (iter_out (fun _ _ hk => rDrive_out hk (Or.inl (by decide))) n hn)
  unfold rTickM rWatch
  split
  · rw [upd_ne (by decide)]; exact h1
  · split
    · rw [upd_ne (by decide), upd_ne (by decide)]; exact h1
    · exact h1
theorem RW.tickM {p : (Nat → Int32) × (Nat → Int32)} {n s : Nat} (h : RW p.1 n s) : RW (rTickM n s p) n s := (rw_moves (rw_drives h n) n).watch
theorem RQ.tick {p : (Nat → Int32) × (Nat → Int32)} {n s : Nat} (h : RQ p.1 n s) : RQ (rTick n s p).1 n s := by
  obtain ⟨h1, q, h2, h3⟩ := h
  unfold rTick
  split
  · exact ⟨h1, q, h2, h3⟩
  · refine ⟨(h1.tick0.tickM).put (by decide) (by decide) (fun k hk => by omega), ?_⟩
    have e : (rTick0 p.1 (zeroH p.2 n) n).1 6 = p.1 6 ∨ ∃ q1, q1 ≤ 12 ∧ (rTick0 p.1 (zeroH p.2 n) n).1 6 = nI q1 := by
      unfold rTick0
      split
      · refine Or.inr ⟨rQ p.1 - 1, ?_, rShift_6 (ρ := (rSend (p.1, zeroH p.2 n) n).1)⟩
        rw [rQ, h3, nI_clamp (by omega)]
        omega
      · exact Or.inl rfl
    show ∃ q, q ≤ 12 ∧ upd (rTickM n s (rTick0 p.1 (zeroH p.2 n) n)) 0 (rTickM n s (rTick0 p.1 (zeroH p.2 n) n) 0 + 1) 6 = nI q
    rw [upd_ne (by decide), rTickM_6 h1.2.1]
    rcases e with e | ⟨q1, e1, e2⟩
    · exact ⟨q, h2, e.trans h3⟩
    · exact ⟨q1, e1, e2⟩
def rPass (n s : Nat) (p : (Nat → Int32) × (Nat → Int32)) (t : Nat) : (Nat → Int32) × (Nat → Int32) := iter (fun p _ => rTick n s p) p t
def rPassN (n s : Nat) (p : (Nat → Int32) × (Nat → Int32)) : Nat → Int32
  | 0 => 0
  | t + 1 => rPassN n s p t + rSentN (rPass n s p t).1
theorem RQ.pass {p : (Nat → Int32) × (Nat → Int32)} {n s : Nat} (h : RQ p.1 n s) : ∀ t, RQ (rPass n s p t).1 n s
  | 0 => h
  | t + 1 => (RQ.pass h t).tick
section ModelPass2
variable {G : Gl} {κ : Kx} {d : Nat} {Q : Option Value → Hp → Prop} {X : String → Hp → Prop} {cs ss : Nat} {σ : Hp} {a : Nat} {r : Nat → Nat} {z : Nat → Int32} {A : Nat → Nat → Int32} {rw : Nat} {ρ η : Nat → Int32}
theorem sp_passTick (hΓ : Ok G κ mX13_passTick (d + 5) Q X) (h : MV G σ a r z A rw ρ η) {n s q : Nat} (hR : RW ρ n s) (hQ : ρ 6 = nI q) (hq12 : q ≤ 12) (hq : ∀ σ1 : Hp, MV G σ1 a r z A rw (rTick n s (ρ, η)).1 (rTick n s (ρ, η)).2 → MF a r σ σ1 → Q (some (.int (rSentN ρ))) σ1) : AW G κ cs ss 0 [lR a, none, none] [] σ := by
  have hn := hR.1
  have hn6 := hR.2.1
  suffices fin : ¬ ρ 0 = 10000 → AW G κ cs ss 14 [lR a, none, none] [] σ by
    refine sX13_passTick_0 hΓ rfl ?_
    refine sX13_passTick_1 hΓ h.o rfl ?_
    refine sX13_passTick_4 hΓ ?_
    refine sX13_passTick_5 hΓ h.row (j := 0) rfl (by decide) (by decide) ?_
    refine sX13_passTick_6 hΓ ?_
    refine sX13_passTick_9 hΓ (fun c9 => ?_) (fun c9 => ?_)
    · exact fin c9
    · refine sX13_passTick_12 hΓ ?_
      exact sX13_passTick_13 hΓ (by have hq := hq σ; rw [rTick, if_pos c9, rSentN, if_pos c9] at hq; exact hq h MF.rf)
  intro ht
  have eT : rTick n s (ρ, η) = _ := if_neg ht
  have eN : rSentN ρ = _ := if_neg ht
  suffices fin : ∀ (σ2 : Hp) (x : Int32), MV G σ2 a r z A rw ρ (zeroH η n) → MF a r σ σ2 → AW G κ cs ss 39 [lR a, lI x, none] [] σ2 by
    suffices loop : ∀ (m i : Nat) (x : Int32) (σ2 : Hp), i + m = n → x = nI i → MV G σ2 a r z A rw ρ (zeroH η i) → MF a r σ σ2 → AW G κ cs ss 16 [lR a, lI x, none] [] σ2 by
      refine sX13_passTick_14 hΓ ?_
      refine sX13_passTick_15 hΓ ?_
      exact loop n 0 _ σ (Nat.zero_add n) rfl h MF.rf
    intro m
    induction m with
    | zero =>
      intro i x σ2 hi hx h f
      refine sX13_passTick_16 hΓ rfl ?_
      refine sX13_passTick_17 hΓ rfl ?_
      refine sX13_passTick_18 hΓ h.o rfl ?_
      refine sX13_passTick_21 hΓ ?_
      refine sX13_passTick_22 hΓ h.row (j := 3) rfl (by decide) (by decide) ?_
      refine sX13_passTick_23 hΓ (fun c23 => ?_) (fun c23 => absurd (lp_out hx hn (by omega) (by omega)) c23)
      exact fin _ _ (by rw [show n = i by omega]; exact h) f
    | succ m ih =>
      intro i x σ2 hi hx h f
      refine sX13_passTick_16 hΓ rfl ?_
      refine sX13_passTick_17 hΓ rfl ?_
      refine sX13_passTick_18 hΓ h.o rfl ?_
      refine sX13_passTick_21 hΓ ?_
      refine sX13_passTick_22 hΓ h.row (j := 3) rfl (by decide) (by decide) ?_
      refine sX13_passTick_23 hΓ (fun c23 => absurd c23 (lp_in hx hn (by omega) (by omega))) (fun c23 => ?_)
      refine sX13_passTick_26 hΓ rfl ?_
      refine sX13_passTick_27 hΓ h.o rfl ?_
      refine sX13_passTick_30 hΓ rfl ?_
      refine sX13_passTick_31 hΓ ?_
      refine sX13_passTick_32 hΓ h.heard hx (by omega) (by decide) (mv_heard h (fun σ21 h21 f21 => ?_))
      refine sX13_passTick_33 hΓ rfl ?_
      refine sX13_passTick_36 hΓ ?_
      exact ih (i + 1) _ _ (by omega) (lp_1 hx) h21 (f.tr f21)
  intro σ2 x h f
  have hR0 : RW (rTick0 ρ (zeroH η n) n).1 n s := hR.tick0
  obtain ⟨p, hp⟩ : ∃ p, p = rTick0 ρ (zeroH η n) n := ⟨_, rfl⟩
  suffices fin : ∀ (σ3 : Hp), MV G σ3 a r z A rw p.1 p.2 → MF a r σ σ3 → ∀ y : Int32, y = rSentN ρ → AW G κ cs ss 44 [lR a, lI y, none] [] σ3 by
    refine sX13_passTick_39 hΓ rfl ?_
    refine sX13_passTick_40 hΓ 0 0 (Nat.le_of_ble_eq_true rfl) h.o (fun κ_40 hΓ_40 => sp_send hΓ_40 h hR hQ hq12 (fun σ41 h41 f41 => ?_))
    show AW G κ _ _ 43 _ _ _
    refine sX13_passTick_43 hΓ ?_
    exact fin _ (by rw [hp]; exact h41) (f.tr f41) _ eN.symm
  intro σ3 h f y hy
  rw [← hp] at hR0
  suffices fin : ∀ (σ4 : Hp) (x : Int32), MV G σ4 a r z A rw (iter (rDrive p.2) p.1 n) p.2 → MF a r σ σ4 → AW G κ cs ss 77 [lR a, lI y, lI x] [] σ4 by
    suffices loop : ∀ (m i : Nat) (x : Int32) (σ4 : Hp), i + m = n → x = nI i → MV G σ4 a r z A rw (iter (rDrive p.2) p.1 i) p.2 → MF a r σ σ4 → AW G κ cs ss 46 [lR a, lI y, lI x] [] σ4 by
      refine sX13_passTick_44 hΓ ?_
      refine sX13_passTick_45 hΓ ?_
      exact loop n 0 _ σ3 (Nat.zero_add n) rfl h f
    intro m
    induction m with
    | zero =>
      intro i x σ4 hi hx h f
      have hn := (rw_drives (η := p.2) hR0 i).1
      refine sX13_passTick_46 hΓ rfl ?_
      refine sX13_passTick_47 hΓ rfl ?_
      refine sX13_passTick_48 hΓ h.o rfl ?_
      refine sX13_passTick_51 hΓ ?_
      refine sX13_passTick_52 hΓ h.row (j := 3) rfl (by decide) (by decide) ?_
      refine sX13_passTick_53 hΓ (fun c53 => ?_) (fun c53 => absurd (lp_out hx hn (by omega) (by omega)) c53)
      exact fin _ _ (by rw [show n = i by omega]; exact h) f
    | succ m ih =>
      intro i x σ4 hi hx h f
      have hRi := rw_drives (η := p.2) hR0 i
      have hn := hRi.1
      refine sX13_passTick_46 hΓ rfl ?_
      refine sX13_passTick_47 hΓ rfl ?_
      refine sX13_passTick_48 hΓ h.o rfl ?_
      refine sX13_passTick_51 hΓ ?_
      refine sX13_passTick_52 hΓ h.row (j := 3) rfl (by decide) (by decide) ?_
      refine sX13_passTick_53 hΓ (fun c53 => absurd c53 (lp_in hx hn (by omega) (by omega))) (fun c53 => ?_)
      refine sX13_passTick_56 hΓ rfl ?_
      refine sX13_passTick_57 hΓ rfl ?_
      refine sX13_passTick_58 hΓ 0 0 (Nat.le_of_ble_eq_true rfl) h.o (fun κ_58 hΓ_58 => sp_listen hΓ_58 h hx (by omega) (fun σ61 h61 f61 => ?_))
      show AW G κ _ _ 61 _ _ _
      refine sX13_passTick_61 hΓ rfl ?_
      refine sX13_passTick_62 hΓ rfl ?_
      refine sX13_passTick_63 hΓ 0 0 (Nat.le_of_ble_eq_true rfl) h61.o (fun κ_63 hΓ_63 => sp_changeSpeed hΓ_63 h61 hx (by omega) ((RW.listen (η := p.2) (k := i) hRi).2.2.2.2.2.2 i (by omega)) (fun σ62 h62 f62 => ?_))
      show AW G κ _ _ 66 _ _ _
      refine sX13_passTick_66 hΓ rfl ?_
      refine sX13_passTick_67 hΓ rfl ?_
      refine sX13_passTick_68 hΓ 0 0 (Nat.le_of_ble_eq_true rfl) h62.o (fun κ_68 hΓ_68 => sp_dim hΓ_68 h62 hx (by omega) (fun σ63 h63 f63 => ?_))
      show AW G κ _ _ 71 _ _ _
      refine sX13_passTick_71 hΓ rfl ?_
      refine sX13_passTick_74 hΓ ?_
      exact ih (i + 1) _ _ (by omega) (lp_1 hx) h63 (((f.tr f61).tr f62).tr f63)
  intro σ4 x h f
  have hR1 : RW (iter (rDrive p.2) p.1 n) n s := rw_drives hR0 n
  suffices fin : ∀ (σ5 : Hp) (x : Int32), MV G σ5 a r z A rw (iter (rMove n s) (iter (rDrive p.2) p.1 n) n) p.2 → MF a r σ σ5 → AW G κ cs ss 100 [lR a, lI y, lI x] [] σ5 by
    suffices loop : ∀ (m i : Nat) (x : Int32) (σ5 : Hp), i + m = n → x = nI i → MV G σ5 a r z A rw (iter (rMove n s) (iter (rDrive p.2) p.1 n) i) p.2 → MF a r σ σ5 → AW G κ cs ss 79 [lR a, lI y, lI x] [] σ5 by
      refine sX13_passTick_77 hΓ ?_
      refine sX13_passTick_78 hΓ ?_
      exact loop n 0 _ σ4 (Nat.zero_add n) rfl h f
    intro m
    induction m with
    | zero =>
      intro i x σ5 hi hx h f
      have hn := (rw_moves hR1 i).1
      refine sX13_passTick_79 hΓ rfl ?_
      refine sX13_passTick_80 hΓ rfl ?_
      refine sX13_passTick_81 hΓ h.o rfl ?_
      refine sX13_passTick_84 hΓ ?_
      refine sX13_passTick_85 hΓ h.row (j := 3) rfl (by decide) (by decide) ?_
      refine sX13_passTick_86 hΓ (fun c86 => ?_) (fun c86 => absurd (lp_out hx hn (by omega) (by omega)) c86)
      exact fin _ _ (by rw [show iter (rMove n s) (iter (rDrive p.2) p.1 n) n = iter (rMove n s) (iter (rDrive p.2) p.1 n) i by rw [show i = n by omega]]; exact h) f
    | succ m ih =>
      intro i x σ5 hi hx h f
      have hRi := rw_moves hR1 i
      have hn := hRi.1
      refine sX13_passTick_79 hΓ rfl ?_
      refine sX13_passTick_80 hΓ rfl ?_
      refine sX13_passTick_81 hΓ h.o rfl ?_
      refine sX13_passTick_84 hΓ ?_
      refine sX13_passTick_85 hΓ h.row (j := 3) rfl (by decide) (by decide) ?_
      refine sX13_passTick_86 hΓ (fun c86 => absurd c86 (lp_in hx hn (by omega) (by omega))) (fun c86 => ?_)
      refine sX13_passTick_89 hΓ rfl ?_
      refine sX13_passTick_90 hΓ rfl ?_
      refine sX13_passTick_91 hΓ 0 0 (Nat.le_of_ble_eq_true rfl) h.o (fun κ_91 hΓ_91 => sp_moveTrain hΓ_91 h hx (by omega) hRi (fun σ81 h81 f81 => ?_))
      show AW G κ _ _ 94 _ _ _
      refine sX13_passTick_94 hΓ rfl ?_
      refine sX13_passTick_97 hΓ ?_
      exact ih (i + 1) _ _ (by omega) (lp_1 hx) h81 (f.tr f81)
  intro σ5 x h f
  have hR2 : RW (iter (rMove n s) (iter (rDrive p.2) p.1 n) n) n s := rw_moves hR1 n
  refine sX13_passTick_100 hΓ rfl ?_
  refine sX13_passTick_101 hΓ 0 0 (Nat.le_of_ble_eq_true rfl) h.o (fun κ_101 hΓ_101 => sp_watchPower hΓ_101 h hR2 (fun σ91 h91 f91 => ?_))
  show AW G κ _ _ 104 _ _ _
  refine sX13_passTick_104 hΓ rfl ?_
  refine sX13_passTick_105 hΓ h91.o rfl ?_
  refine sX13_passTick_108 hΓ ?_
  refine sX13_passTick_109 hΓ ?_
  refine sX13_passTick_110 hΓ h91.row (j := 0) rfl (by decide) (by decide) ?_
  refine sX13_passTick_111 hΓ ?_
  refine sX13_passTick_112 hΓ ?_
  refine sX13_passTick_113 hΓ h91.row (j := 0) rfl (by decide) (by decide) (mv_row h91 (fun σ92 h92 f92 => ?_))
  refine sX13_passTick_114 hΓ rfl ?_
  exact sX13_passTick_115 hΓ (by have hq := hq _ (by rw [eT, ← hp]; exact h92) ((f.tr f91).tr f92); rw [hy]; exact hq)
theorem sp_pass (hΓ : Ok G κ mX13_pass (d + 6) Q X) (h : MV G σ a r z A rw ρ η) {n s t : Nat} {y : Int32} (hy : y = nI t) (ht : t < 1000000) (hR : RQ ρ n s) (hq : ∀ σ1 : Hp, MV G σ1 a r z A rw (rPass n s (ρ, η) t).1 (rPass n s (ρ, η) t).2 → MF a r σ σ1 → Q (some (.int (rPassN n s (ρ, η) t))) σ1) : AW G κ cs ss 0 [lR a, lI y, none, none] [] σ := by
  suffices loop : ∀ (m i : Nat) (x : Int32) (u : Int32) (σ2 : Hp), i + m = t → x = nI i → MV G σ2 a r z A rw (rPass n s (ρ, η) i).1 (rPass n s (ρ, η) i).2 → MF a r σ σ2 → u = rPassN n s (ρ, η) i → AW G κ cs ss 4 [lR a, lI y, lI u, lI x] [] σ2 by
    refine sX13_pass_0 hΓ ?_
    refine sX13_pass_1 hΓ ?_
    refine sX13_pass_2 hΓ ?_
    refine sX13_pass_3 hΓ ?_
    exact loop t 0 _ _ σ (Nat.zero_add t) rfl h MF.rf rfl
  intro m
  induction m with
  | zero =>
    intro i x u σ2 hi hx h f hu
    refine sX13_pass_4 hΓ rfl ?_
    refine sX13_pass_5 hΓ rfl ?_
    refine sX13_pass_6 hΓ (fun c6 => ?_) (fun c6 => absurd (lp_out hx hy (by omega) (by omega)) c6)
    refine sX13_pass_22 hΓ rfl ?_
    exact sX13_pass_23 hΓ (by have hq := hq σ2 (by rw [show t = i by omega]; exact h) f; rw [show t = i by omega, ← hu] at hq; exact hq)
  | succ m ih =>
    intro i x u σ2 hi hx h f hu
    obtain ⟨hRi, q, hq12, hQ⟩ := hR.pass (p := (ρ, η)) i
    refine sX13_pass_4 hΓ rfl ?_
    refine sX13_pass_5 hΓ rfl ?_
    refine sX13_pass_6 hΓ (fun c6 => absurd c6 (lp_in hx hy (by omega) (by omega))) (fun c6 => ?_)
    refine sX13_pass_9 hΓ rfl ?_
    refine sX13_pass_10 hΓ rfl ?_
    refine sX13_pass_11 hΓ 0 0 (Nat.le_of_ble_eq_true rfl) h.o (fun κ_11 hΓ_11 => sp_passTick hΓ_11 h hRi hQ hq12 (fun σ21 h21 f21 => ?_))
    show AW G κ _ _ 14 _ _ _
    refine sX13_pass_14 hΓ ?_
    refine sX13_pass_15 hΓ ?_
    refine sX13_pass_16 hΓ rfl ?_
    refine sX13_pass_19 hΓ ?_
    exact ih (i + 1) _ _ _ (by omega) (lp_1 hx) h21 (f.tr f21) (by rw [hu]; rfl)
end ModelPass2
