/-! what the class tells, over the law's state -/
/-- a row may be taken for another that is the same below 184 -/
theorem bk_cg {ρ ρ1 : Nat → Int32} {b : Nat} {x : Int32} (h : bk ρ b x) (hb : b + 24 ≤ 184) (e : ∀ j, j < 184 → ρ1 j = ρ j) : bk ρ1 b x := bk_eq h (fun j hj => e (b + j) (by omega))
theorem CR.cg {ρ ρ1 : Nat → Int32} {n s : Nat} {C : Ct} (h : CR ρ n s C) (hn : n ≤ 6) (hq : rQ ρ ≤ 12) (e : ∀ j, j < 184 → ρ1 j = ρ j) : CR ρ1 n s C := by
  obtain ⟨⟨a0, a1, a2, a4, a5, a6, a7, a8, a9⟩, ⟨b1, b2⟩, h3, h4, h5⟩ := h
  have eq : rQ ρ1 = rQ ρ := by unfold rQ; rw [e 6 (by decide)]
  refine ⟨⟨(e 0 (by decide)).trans a0, (e 1 (by decide)).trans a1, (e 2 (by decide)).trans a2, (e 4 (by decide)).trans a4, (e 5 (by decide)).trans a5, (e 6 (by decide)).trans a6, (e 7 (by decide)).trans a7, (e 8 (by decide)).trans a8, (e 9 (by decide)).trans a9⟩, ⟨bk_cg b1 (by decide) e, bk_cg b2 (by decide) e⟩, fun j h1 h2 => ?_, fun k hk => ?_, fun i hi => ?_⟩
  · rw [e _ (by omega), e _ (by omega)]; exact h3 j h1 h2
  · rw [h4 k hk]; exact (tw_eq fun w hw => e _ (by omega)).symm
  · rw [eq] at hi
    rw [e _ (by omega), e _ (by omega), e _ (by omega)]; exact h5 i hi
theorem LwS.row {G : Gl} {σ : Hp} {c A : Nat → Nat} {x am : Nat} {z : Nat → Int32} {B : Nat → Nat → Int32} {F : Hp} {ρ1 ρ : Nat → Int32} {n1 s1 : Nat} (hS : LwS G σ c x am A z (updA B 0 ρ1) F) (hV1 : RV ρ n1 s1) (hρ : ∀ j, j < 184 → ρ j = ρ1 j) : LwS G σ c x am A z (updA B 0 ρ) F := by
  obtain ⟨⟨n, s, C, n2, C2, Nh, Ch, u, b, l, cd, og, hs, out, ol, h1, ⟨⟨hV, hC⟩, hR⟩⟩, hF⟩ := hS
  have e00 : updA B 0 ρ1 0 = ρ1 := if_pos rfl
  have e01 : updA B 0 ρ 0 = ρ := if_pos rfl
  rw [e00] at hV hC
  have en : n1 = n := (nI_eq (by have := hV1.1.1.2.1; omega) (by have := hV.1.1.2.1; omega)).mp (hV1.1.1.1.symm.trans ((hρ 3 (by decide)).trans hV.1.1.1))
  have es : s1 = s := (nI_eq (by have := hV1.1.1.2.2.2.2.1; omega) (by have := hV.1.1.2.2.2.2.1; omega)).mp (hV1.1.1.2.2.1.symm.trans ((hρ 1 (by decide)).trans hV.1.1.2.2.1))
  subst en; subst es
  obtain ⟨q, hq, e6⟩ := hV.1.2
  refine ⟨⟨n1, s1, C, n2, C2, Nh, Ch, u, b, l, cd, og, hs, out, ol, h1, ⟨by rw [e01]; exact hV1, by rw [e01]; exact hC.cg hV.1.1.2.1 (by rw [rQ_lt e6 hq]; exact hq) hρ⟩, hR⟩, hF⟩
section Tell
variable {G : Gl} {κ : Kx} {d : Nat} {Q : Option Value → Hp → Prop} {X : String → Hp → Prop} {cs ss pc : Nat} {σ σ1 : Hp} {c c1 A : Nat → Nat} {x am n s k : Nat} {z z1 : Nat → Int32} {B B1 : Nat → Nat → Int32} {F F1 : Hp}
theorem LwS.tell (hS : LwS G σ c x am A z B F) (hV : RV (B 0) n s) : ∃ (C : Ct) (hs ol : Int32) (t q p : Nat) (tr : Nat → Nat), σ x = some (.inr (10, tdV A hs ol)) ∧ RG G σ (A 0) t q p tr n C.1 C.2.1 C.2.2.1 C.2.2.2 ∧ CR (B 0) n s C := by
  obtain ⟨⟨n1, s1, C, n2, C2, Nh, Ch, u, b, l, cd, og, hs, out, ol, h1, h2⟩, -⟩ := hS
  obtain ⟨⟨hV1, hC⟩, -⟩ := id h2
  have en : n1 = n := (nI_eq (by have := hV1.1.1.2.1; omega) (by have := hV.1.1.2.1; omega)).mp (hV1.1.1.1.symm.trans hV.1.1.1)
  have es : s1 = s := (nI_eq (by have := hV1.1.1.2.2.2.2.1; omega) (by have := hV.1.1.2.2.2.2.1; omega)).mp (hV1.1.1.2.2.1.symm.trans hV.1.1.2.2.1)
  subst en; subst es
  obtain ⟨t, q, p, tr, g, -⟩ := h1.m
  exact ⟨C, hs, ol, t, q, p, tr, h1.o, g, hC⟩
theorem LwS.o (hS : LwS G σ c x am A z B F) : ∃ fs, σ x = some (.inr (10, fs)) := by
  obtain ⟨⟨n1, s1, C, n2, C2, Nh, Ch, u, b, l, cd, og, hs, out, ol, h1, h2⟩, -⟩ := hS
  exact ⟨_, h1.o⟩
/-- the class with the row's numbers -/
theorem LwS.full (hS : LwS G σ c x am A z B F) (hV : RV (B 0) n s) : ∃ (C : Ct) (n2 : Nat) (C2 : Ct) (Nh : Nat → Nat) (Ch : Nat → Ct) (u : Int32) (b : Nat → Int32) (l cd og hs : Int32) (out : Nat → Int32) (ol : Int32), TD G σ c x A am n C n2 C2 Nh Ch u b l cd og hs out ol ∧ TR z B n s C n2 C2 Nh Ch u b l cd og hs out ol := by
  obtain ⟨⟨n1, s1, C, n2, C2, Nh, Ch, u, b, l, cd, og, hs, out, ol, h1, h2⟩, -⟩ := hS
  obtain ⟨⟨hV1, hC⟩, -⟩ := id h2
  have en : n1 = n := (nI_eq (by have := hV1.1.1.2.1; omega) (by have := hV.1.1.2.1; omega)).mp (hV1.1.1.1.symm.trans hV.1.1.1)
  have es : s1 = s := (nI_eq (by have := hV1.1.1.2.2.2.2.1; omega) (by have := hV.1.1.2.2.2.2.1; omega)).mp (hV1.1.1.2.2.1.symm.trans hV.1.1.2.2.1)
  subst en; subst es
  exact ⟨C, n2, C2, Nh, Ch, u, b, l, cd, og, hs, out, ol, h1, h2⟩
theorem in_n {k m : Nat} (h : k < m) (hm : m < 2 ^ 31) : rIn (nI k) 0 (nI m - 1) = true := by
  unfold rIn
  rw [show nI m - 1 = nI (m - 1) from pk_sub (b := 1) (by omega), Bool.and_eq_true]
  exact ⟨decide_eq_true (nI_pos' (by omega)), decide_eq_true (nI_le (by omega) (by omega))⟩
theorem isT_n (hV : RV (B 0) n s) (hk : k < n) : rIsT (B 0) (nI k) = true := by
  show rIn (nI k) 0 (B 0 3 - 1) = true
  rw [hV.1.1.1]
  exact in_n hk (by have := hV.1.1.2.1; omega)
theorem isS_n (hV : RV (B 0) n s) (hk : k < s) : rIsS (B 0) (nI k) = true := by
  show rIn (nI k) 0 (B 0 1 - 1) = true
  rw [hV.1.1.2.2.1]
  exact in_n hk (by have := hV.1.1.2.2.2.2.1; omega)
theorem isP_n {q : Nat} (h6 : B 0 6 = nI q) (hq : q ≤ 12) (hk : k < q) : rIsP (B 0) (nI k) = true := by
  show rIn (nI k) 0 (B 0 6 - 1) = true
  rw [h6]
  exact in_n hk (by omega)
theorem ct_tick (hΓ : Ok G κ mX12_tick (d + 0) Q X) (hS : LwS G σ c x am A z B F) (hV : RV (B 0) n s) (hq : Q (some (.int (B 0 0))) σ) : AW G κ cs ss 0 [lR x] [] σ := by
  obtain ⟨C, hs, ol, t, q, p, tr, h1, h2, h4⟩ := hS.tell hV
  exact tt_tick (d := d) hΓ h1 h2 hV h4 hq
theorem ct_sectionCount (hΓ : Ok G κ mX12_sectionCount (d + 0) Q X) (hS : LwS G σ c x am A z B F) (hV : RV (B 0) n s) (hq : Q (some (.int (B 0 1))) σ) : AW G κ cs ss 0 [lR x] [] σ := by
  obtain ⟨C, hs, ol, t, q, p, tr, h1, h2, h4⟩ := hS.tell hV
  exact tt_sectionCount (d := d) hΓ h1 h2 hV h4 hq
theorem ct_remainingCutoff (hΓ : Ok G κ mX12_remainingCutoff (d + 0) Q X) (hS : LwS G σ c x am A z B F) (hV : RV (B 0) n s) (hq : Q (some (.int (B 0 4))) σ) : AW G κ cs ss 0 [lR x] [] σ := by
  obtain ⟨C, hs, ol, t, q, p, tr, h1, h2, h4⟩ := hS.tell hV
  exact tt_remainingCutoff (d := d) hΓ h1 h2 hV h4 hq
theorem ct_cutoffs (hΓ : Ok G κ mX12_cutoffs (d + 0) Q X) (hS : LwS G σ c x am A z B F) (hV : RV (B 0) n s) (hq : Q (some (.int (B 0 5))) σ) : AW G κ cs ss 0 [lR x] [] σ := by
  obtain ⟨C, hs, ol, t, q, p, tr, h1, h2, h4⟩ := hS.tell hV
  exact tt_cutoffs (d := d) hΓ h1 h2 hV h4 hq
theorem ct_trainCount (hΓ : Ok G κ mX12_trainCount (d + 0) Q X) (hS : LwS G σ c x am A z B F) (hV : RV (B 0) n s) (hq : Q (some (.int (B 0 3))) σ) : AW G κ cs ss 0 [lR x] [] σ := by
  obtain ⟨C, hs, ol, t, q, p, tr, h1, h2, h4⟩ := hS.tell hV
  exact tt_trainCount (d := d) hΓ h1 h2 hV h4 hq
theorem ct_queueLength (hΓ : Ok G κ mX12_queueLength (d + 0) Q X) (hS : LwS G σ c x am A z B F) (hV : RV (B 0) n s) (hq : Q (some (.int (B 0 6))) σ) : AW G κ cs ss 0 [lR x] [] σ := by
  obtain ⟨C, hs, ol, t, q, p, tr, h1, h2, h4⟩ := hS.tell hV
  exact tt_queueLength (d := d) hΓ h1 h2 hV h4 hq
theorem ct_sentPackets (hΓ : Ok G κ mX12_sentPackets (d + 0) Q X) (hS : LwS G σ c x am A z B F) (hV : RV (B 0) n s) (hq : Q (some (.int (B 0 8))) σ) : AW G κ cs ss 0 [lR x] [] σ := by
  obtain ⟨C, hs, ol, t, q, p, tr, h1, h2, h4⟩ := hS.tell hV
  exact tt_sentPackets (d := d) hΓ h1 h2 hV h4 hq
theorem ct_tunnelCount (hΓ : Ok G κ mX12_tunnelCount (d + 1) Q X) (hS : LwS G σ c x am A z B F) (hV : RV (B 0) n s) (hq : Q (some (.int (rCnt (B 0) 10 s))) σ) : AW G κ cs ss 0 [lR x] [] σ := by
  obtain ⟨C, hs, ol, t, q, p, tr, h1, h2, h4⟩ := hS.tell hV
  exact tt_tunnelCount (d := d) hΓ h1 h2 hV h4 hq
theorem ct_isPowerOn (hΓ : Ok G κ mX12_isPowerOn (d + 1) Q X) (hS : LwS G σ c x am A z B F) (hV : RV (B 0) n s) (hq : Q (some (.int (bI (B 0 4 == 0)))) σ) : AW G κ cs ss 0 [lR x] [] σ := by
  obtain ⟨C, hs, ol, t, q, p, tr, h1, h2, h4⟩ := hS.tell hV
  exact tt_isPowerOn (d := d) hΓ h1 h2 hV h4 hq
theorem ct_fastestTrain (hΓ : Ok G κ mX12_fastestTrain (d + 1) Q X) (hS : LwS G σ c x am A z B F) (hV : RV (B 0) n s) (hq : Q (some (.int (nI (rFast (B 0) (n - 1))))) σ) : AW G κ cs ss 0 [lR x] [] σ := by
  obtain ⟨C, hs, ol, t, q, p, tr, h1, h2, h4⟩ := hS.tell hV
  exact tt_fastestTrain (d := d) hΓ h1 h2 hV h4 hq
theorem ct_gap (hΓ : Ok G κ mX12_gap (d + 1) Q X) (hS : LwS G σ c x am A z B F) (hV : RV (B 0) n s) (hq : Q (some (.int (rGap (B 0) n))) σ) : AW G κ cs ss 0 [lR x] [] σ := by
  obtain ⟨C, hs, ol, t, q, p, tr, h1, h2, h4⟩ := hS.tell hV
  exact tt_gap (d := d) hΓ h1 h2 hV h4 hq
theorem ct_trainWith (hΓ : Ok G κ mX12_trainWith (d + 1) Q X) (hS : LwS G σ c x am A z B F) (hV : RV (B 0) n s) {y : Int32} (hq : Q (some (.int (oI (rFirst (B 0) n 0 y)))) σ) : AW G κ cs ss 0 [lR x, lI y] [] σ := by
  obtain ⟨C, hs, ol, t, q, p, tr, h1, h2, h4⟩ := hS.tell hV
  exact tt_trainWith (d := d) hΓ h1 h2 hV h4 hq
theorem ct_isTunnel (hΓ : Ok G κ mX12_isTunnel (d + 7) Q X) (hS : LwS G σ c x am A z B F) (hV : RV (B 0) n s) (hk : k < s) (hq : Q (some (.int (bI (B 0 (10 + k) == 1)))) σ) : AW G κ (cs + 1) (ss + 6) 0 [lR x, lI (nI k)] [] σ := by
  obtain ⟨C, hs, ol, t, q, p, tr, h1, h2, h4⟩ := hS.tell hV
  have e1 := isS_n hV hk
  have e2 : (nI k).toNatClampNeg = k := nI_clamp (by have := hV.1.1.2.2.2.2.1; omega)
  refine tt_isTunnel (d := d) hΓ h1 h2 hV h4 (fun e => absurd (e.symm.trans e1) (by decide)) (fun _ => ?_)
  unfold rFlag
  rw [e1, e2]
  exact hq
theorem ct_hasShort (hΓ : Ok G κ mX12_hasShort (d + 7) Q X) (hS : LwS G σ c x am A z B F) (hV : RV (B 0) n s) (hk : k < s) (hq : Q (some (.int (bI (B 0 (34 + k) == 1)))) σ) : AW G κ (cs + 1) (ss + 6) 0 [lR x, lI (nI k)] [] σ := by
  obtain ⟨C, hs, ol, t, q, p, tr, h1, h2, h4⟩ := hS.tell hV
  have e1 := isS_n hV hk
  have e2 : (nI k).toNatClampNeg = k := nI_clamp (by have := hV.1.1.2.2.2.2.1; omega)
  refine tt_hasShort (d := d) hΓ h1 h2 hV h4 (fun e => absurd (e.symm.trans e1) (by decide)) (fun _ => ?_)
  unfold rFlag
  rw [e1, e2]
  exact hq
theorem ct_trainIn (hΓ : Ok G κ mX12_trainIn (d + 7) Q X) (hS : LwS G σ c x am A z B F) (hV : RV (B 0) n s) (hk : k < s) (hq : Q (some (.int (oI (rFirst (B 0) n 3 (nI k))))) σ) : AW G κ (cs + 1) (ss + 6) 0 [lR x, lI (nI k)] [] σ := by
  obtain ⟨C, hs, ol, t, q, p, tr, h1, h2, h4⟩ := hS.tell hV
  have e1 := isS_n hV hk
  refine tt_trainIn (d := d) hΓ h1 h2 hV h4 (fun e => absurd (e.symm.trans e1) (by decide)) (fun _ => ?_)
  unfold rInS
  rw [if_pos e1]
  exact hq
theorem ct_address (hΓ : Ok G κ mX12_address (d + 7) Q X) (hS : LwS G σ c x am A z B F) (hV : RV (B 0) n s) (hk : k < n) (hq : Q (some (.int (B 0 (58 + 15 * k + 0)))) σ) : AW G κ (cs + 1) (ss + 6) 0 [lR x, lI (nI k)] [] σ := by
  obtain ⟨C, hs, ol, t, q, p, tr, h1, h2, h4⟩ := hS.tell hV
  have e1 := isT_n hV hk
  have e2 : (nI k).toNatClampNeg = k := nI_clamp (by have := hV.1.1.2.1; omega)
  refine tt_address (d := d) hΓ h1 h2 hV h4 (fun e => absurd (e.symm.trans e1) (by decide)) (fun _ => ?_)
  unfold rTold
  rw [if_pos e1, e2]
  exact hq
theorem ct_sectionOf (hΓ : Ok G κ mX12_sectionOf (d + 7) Q X) (hS : LwS G σ c x am A z B F) (hV : RV (B 0) n s) (hk : k < n) (hq : Q (some (.int (B 0 (58 + 15 * k + 3)))) σ) : AW G κ (cs + 1) (ss + 6) 0 [lR x, lI (nI k)] [] σ := by
  obtain ⟨C, hs, ol, t, q, p, tr, h1, h2, h4⟩ := hS.tell hV
  have e1 := isT_n hV hk
  have e2 : (nI k).toNatClampNeg = k := nI_clamp (by have := hV.1.1.2.1; omega)
  refine tt_sectionOf (d := d) hΓ h1 h2 hV h4 (fun e => absurd (e.symm.trans e1) (by decide)) (fun _ => ?_)
  unfold rTold
  rw [if_pos e1, e2]
  exact hq
theorem ct_advance (hΓ : Ok G κ mX12_advance (d + 7) Q X) (hS : LwS G σ c x am A z B F) (hV : RV (B 0) n s) (hk : k < n) (hq : Q (some (.int (B 0 (58 + 15 * k + 4)))) σ) : AW G κ (cs + 1) (ss + 6) 0 [lR x, lI (nI k)] [] σ := by
  obtain ⟨C, hs, ol, t, q, p, tr, h1, h2, h4⟩ := hS.tell hV
  have e1 := isT_n hV hk
  have e2 : (nI k).toNatClampNeg = k := nI_clamp (by have := hV.1.1.2.1; omega)
  refine tt_advance (d := d) hΓ h1 h2 hV h4 (fun e => absurd (e.symm.trans e1) (by decide)) (fun _ => ?_)
  unfold rTold
  rw [if_pos e1, e2]
  exact hq
theorem ct_speed (hΓ : Ok G κ mX12_speed (d + 7) Q X) (hS : LwS G σ c x am A z B F) (hV : RV (B 0) n s) (hk : k < n) (hq : Q (some (.int (B 0 (58 + 15 * k + 5)))) σ) : AW G κ (cs + 1) (ss + 6) 0 [lR x, lI (nI k)] [] σ := by
  obtain ⟨C, hs, ol, t, q, p, tr, h1, h2, h4⟩ := hS.tell hV
  have e1 := isT_n hV hk
  have e2 : (nI k).toNatClampNeg = k := nI_clamp (by have := hV.1.1.2.1; omega)
  refine tt_speed (d := d) hΓ h1 h2 hV h4 (fun e => absurd (e.symm.trans e1) (by decide)) (fun _ => ?_)
  unfold rTold
  rw [if_pos e1, e2]
  exact hq
theorem ct_targetSpeed (hΓ : Ok G κ mX12_targetSpeed (d + 7) Q X) (hS : LwS G σ c x am A z B F) (hV : RV (B 0) n s) (hk : k < n) (hq : Q (some (.int (B 0 (58 + 15 * k + 6)))) σ) : AW G κ (cs + 1) (ss + 6) 0 [lR x, lI (nI k)] [] σ := by
  obtain ⟨C, hs, ol, t, q, p, tr, h1, h2, h4⟩ := hS.tell hV
  have e1 := isT_n hV hk
  have e2 : (nI k).toNatClampNeg = k := nI_clamp (by have := hV.1.1.2.1; omega)
  refine tt_targetSpeed (d := d) hΓ h1 h2 hV h4 (fun e => absurd (e.symm.trans e1) (by decide)) (fun _ => ?_)
  unfold rTold
  rw [if_pos e1, e2]
  exact hq
theorem ct_brightness (hΓ : Ok G κ mX12_brightness (d + 7) Q X) (hS : LwS G σ c x am A z B F) (hV : RV (B 0) n s) (hk : k < n) (hq : Q (some (.int (B 0 (58 + 15 * k + 7)))) σ) : AW G κ (cs + 1) (ss + 6) 0 [lR x, lI (nI k)] [] σ := by
  obtain ⟨C, hs, ol, t, q, p, tr, h1, h2, h4⟩ := hS.tell hV
  have e1 := isT_n hV hk
  have e2 : (nI k).toNatClampNeg = k := nI_clamp (by have := hV.1.1.2.1; omega)
  refine tt_brightness (d := d) hΓ h1 h2 hV h4 (fun e => absurd (e.symm.trans e1) (by decide)) (fun _ => ?_)
  unfold rTold
  rw [if_pos e1, e2]
  exact hq
theorem ct_duty (hΓ : Ok G κ mX12_duty (d + 7) Q X) (hS : LwS G σ c x am A z B F) (hV : RV (B 0) n s) (hk : k < n) (hq : Q (some (.int (B 0 (58 + 15 * k + 8)))) σ) : AW G κ (cs + 1) (ss + 6) 0 [lR x, lI (nI k)] [] σ := by
  obtain ⟨C, hs, ol, t, q, p, tr, h1, h2, h4⟩ := hS.tell hV
  have e1 := isT_n hV hk
  have e2 : (nI k).toNatClampNeg = k := nI_clamp (by have := hV.1.1.2.1; omega)
  refine tt_duty (d := d) hΓ h1 h2 hV h4 (fun e => absurd (e.symm.trans e1) (by decide)) (fun _ => ?_)
  unfold rTold
  rw [if_pos e1, e2]
  exact hq
theorem ct_silence (hΓ : Ok G κ mX12_silence (d + 7) Q X) (hS : LwS G σ c x am A z B F) (hV : RV (B 0) n s) (hk : k < n) (hq : Q (some (.int (B 0 (58 + 15 * k + 9)))) σ) : AW G κ (cs + 1) (ss + 6) 0 [lR x, lI (nI k)] [] σ := by
  obtain ⟨C, hs, ol, t, q, p, tr, h1, h2, h4⟩ := hS.tell hV
  have e1 := isT_n hV hk
  have e2 : (nI k).toNatClampNeg = k := nI_clamp (by have := hV.1.1.2.1; omega)
  refine tt_silence (d := d) hΓ h1 h2 hV h4 (fun e => absurd (e.symm.trans e1) (by decide)) (fun _ => ?_)
  unfold rTold
  rw [if_pos e1, e2]
  exact hq
theorem ct_sectionsEntered (hΓ : Ok G κ mX12_sectionsEntered (d + 7) Q X) (hS : LwS G σ c x am A z B F) (hV : RV (B 0) n s) (hk : k < n) (hq : Q (some (.int (B 0 (58 + 15 * k + 10)))) σ) : AW G κ (cs + 1) (ss + 6) 0 [lR x, lI (nI k)] [] σ := by
  obtain ⟨C, hs, ol, t, q, p, tr, h1, h2, h4⟩ := hS.tell hV
  have e1 := isT_n hV hk
  have e2 : (nI k).toNatClampNeg = k := nI_clamp (by have := hV.1.1.2.1; omega)
  refine tt_sectionsEntered (d := d) hΓ h1 h2 hV h4 (fun e => absurd (e.symm.trans e1) (by decide)) (fun _ => ?_)
  unfold rTold
  rw [if_pos e1, e2]
  exact hq
theorem ct_obeyed (hΓ : Ok G κ mX12_obeyed (d + 7) Q X) (hS : LwS G σ c x am A z B F) (hV : RV (B 0) n s) (hk : k < n) (hq : Q (some (.int (B 0 (58 + 15 * k + 11)))) σ) : AW G κ (cs + 1) (ss + 6) 0 [lR x, lI (nI k)] [] σ := by
  obtain ⟨C, hs, ol, t, q, p, tr, h1, h2, h4⟩ := hS.tell hV
  have e1 := isT_n hV hk
  have e2 : (nI k).toNatClampNeg = k := nI_clamp (by have := hV.1.1.2.1; omega)
  refine tt_obeyed (d := d) hΓ h1 h2 hV h4 (fun e => absurd (e.symm.trans e1) (by decide)) (fun _ => ?_)
  unfold rTold
  rw [if_pos e1, e2]
  exact hq
theorem ct_rejected (hΓ : Ok G κ mX12_rejected (d + 7) Q X) (hS : LwS G σ c x am A z B F) (hV : RV (B 0) n s) (hk : k < n) (hq : Q (some (.int (B 0 (58 + 15 * k + 12)))) σ) : AW G κ (cs + 1) (ss + 6) 0 [lR x, lI (nI k)] [] σ := by
  obtain ⟨C, hs, ol, t, q, p, tr, h1, h2, h4⟩ := hS.tell hV
  have e1 := isT_n hV hk
  have e2 : (nI k).toNatClampNeg = k := nI_clamp (by have := hV.1.1.2.1; omega)
  refine tt_rejected (d := d) hΓ h1 h2 hV h4 (fun e => absurd (e.symm.trans e1) (by decide)) (fun _ => ?_)
  unfold rTold
  rw [if_pos e1, e2]
  exact hq
theorem ct_unheard (hΓ : Ok G κ mX12_unheard (d + 7) Q X) (hS : LwS G σ c x am A z B F) (hV : RV (B 0) n s) (hk : k < n) (hq : Q (some (.int (B 0 (58 + 15 * k + 13)))) σ) : AW G κ (cs + 1) (ss + 6) 0 [lR x, lI (nI k)] [] σ := by
  obtain ⟨C, hs, ol, t, q, p, tr, h1, h2, h4⟩ := hS.tell hV
  have e1 := isT_n hV hk
  have e2 : (nI k).toNatClampNeg = k := nI_clamp (by have := hV.1.1.2.1; omega)
  refine tt_unheard (d := d) hΓ h1 h2 hV h4 (fun e => absurd (e.symm.trans e1) (by decide)) (fun _ => ?_)
  unfold rTold
  rw [if_pos e1, e2]
  exact hq
theorem ct_blockedTicks (hΓ : Ok G κ mX12_blockedTicks (d + 7) Q X) (hS : LwS G σ c x am A z B F) (hV : RV (B 0) n s) (hk : k < n) (hq : Q (some (.int (B 0 (58 + 15 * k + 14)))) σ) : AW G κ (cs + 1) (ss + 6) 0 [lR x, lI (nI k)] [] σ := by
  obtain ⟨C, hs, ol, t, q, p, tr, h1, h2, h4⟩ := hS.tell hV
  have e1 := isT_n hV hk
  have e2 : (nI k).toNatClampNeg = k := nI_clamp (by have := hV.1.1.2.1; omega)
  refine tt_blockedTicks (d := d) hΓ h1 h2 hV h4 (fun e => absurd (e.symm.trans e1) (by decide)) (fun _ => ?_)
  unfold rTold
  rw [if_pos e1, e2]
  exact hq
theorem ct_brakingTicks (hΓ : Ok G κ mX12_brakingTicks (d + 7) Q X) (hS : LwS G σ c x am A z B F) (hV : RV (B 0) n s) (hk : k < n) (hq : Q (some (.int (rBrk false (B 0 (58 + 15 * k + 2)) 28 (B 0 (58 + 15 * k + 5)) 0))) σ) : AW G κ (cs + 1) (ss + 6) 0 [lR x, lI (nI k)] [] σ := by
  obtain ⟨C, hs, ol, t, q, p, tr, h1, h2, h4⟩ := hS.tell hV
  have e1 := isT_n hV hk
  have e2 : (nI k).toNatClampNeg = k := nI_clamp (by have := hV.1.1.2.1; omega)
  refine tt_brakingTicks (d := d) hΓ h1 h2 hV h4 (fun e => absurd (e.symm.trans e1) (by decide)) (fun _ => ?_)
  unfold rBrake
  rw [if_pos e1, e2]
  exact hq
theorem ct_brakingDistance (hΓ : Ok G κ mX12_brakingDistance (d + 7) Q X) (hS : LwS G σ c x am A z B F) (hV : RV (B 0) n s) (hk : k < n) (hq : Q (some (.int (rBrk true (B 0 (58 + 15 * k + 2)) 28 (B 0 (58 + 15 * k + 5)) 0))) σ) : AW G κ (cs + 1) (ss + 6) 0 [lR x, lI (nI k)] [] σ := by
  obtain ⟨C, hs, ol, t, q, p, tr, h1, h2, h4⟩ := hS.tell hV
  have e1 := isT_n hV hk
  have e2 : (nI k).toNatClampNeg = k := nI_clamp (by have := hV.1.1.2.1; omega)
  refine tt_brakingDistance (d := d) hΓ h1 h2 hV h4 (fun e => absurd (e.symm.trans e1) (by decide)) (fun _ => ?_)
  unfold rBrake
  rw [if_pos e1, e2]
  exact hq
theorem ct_packetsFor (hΓ : Ok G κ mX12_packetsFor (d + 7) Q X) (hS : LwS G σ c x am A z B F) (hV : RV (B 0) n s) (hk : k < n) (hq : Q (some (.int (rForN (B 0) (rQ (B 0)) k))) σ) : AW G κ (cs + 1) (ss + 6) 0 [lR x, lI (nI k)] [] σ := by
  obtain ⟨C, hs, ol, t, q, p, tr, h1, h2, h4⟩ := hS.tell hV
  have e1 := isT_n hV hk
  have e2 : (nI k).toNatClampNeg = k := nI_clamp (by have := hV.1.1.2.1; omega)
  refine tt_packetsFor (d := d) hΓ h1 h2 hV h4 (fun e => absurd (e.symm.trans e1) (by decide)) (fun _ => ?_)
  unfold rPackets
  rw [if_pos e1, e2]
  exact hq
theorem ct_freeAhead (hΓ : Ok G κ mX12_freeAhead (d + 7) Q X) (hS : LwS G σ c x am A z B F) (hV : RV (B 0) n s) (hk : k < n) (hq : Q (some (.int (rFree (B 0) n s (rSec (B 0) k)))) σ) : AW G κ (cs + 1) (ss + 6) 0 [lR x, lI (nI k)] [] σ := by
  obtain ⟨C, hs, ol, t, q, p, tr, h1, h2, h4⟩ := hS.tell hV
  have e1 := isT_n hV hk
  have e2 : (nI k).toNatClampNeg = k := nI_clamp (by have := hV.1.1.2.1; omega)
  refine tt_freeAhead (d := d) hΓ h1 h2 hV h4 (fun e => absurd (e.symm.trans e1) (by decide)) (fun _ => ?_)
  unfold rFreeA
  rw [if_pos e1, e2]
  exact hq
theorem ct_packetAddress (hΓ : Ok G κ mX12_packetAddress (d + 7) Q X) (hS : LwS G σ c x am A z B F) (hV : RV (B 0) n s) {qq : Nat} (h6 : B 0 6 = nI qq) (h12 : qq ≤ 12) (hk : k < qq) (hq : Q (some (.int (B 0 (148 + 3 * k + 0)))) σ) : AW G κ (cs + 1) (ss + 6) 0 [lR x, lI (nI k)] [] σ := by
  obtain ⟨C, hs, ol, t, q, p, tr, h1, h2, h4⟩ := hS.tell hV
  have e1 := isP_n h6 h12 hk
  have e2 : (nI k).toNatClampNeg = k := nI_clamp (by omega)
  refine tt_packetAddress (d := d) hΓ h1 h2 hV h4 (fun e => absurd (e.symm.trans e1) (by decide)) (fun _ => ?_)
  unfold rToldP
  rw [if_pos e1, e2]
  exact hq
theorem ct_packetCommand (hΓ : Ok G κ mX12_packetCommand (d + 7) Q X) (hS : LwS G σ c x am A z B F) (hV : RV (B 0) n s) {qq : Nat} (h6 : B 0 6 = nI qq) (h12 : qq ≤ 12) (hk : k < qq) (hq : Q (some (.int (B 0 (148 + 3 * k + 1)))) σ) : AW G κ (cs + 1) (ss + 6) 0 [lR x, lI (nI k)] [] σ := by
  obtain ⟨C, hs, ol, t, q, p, tr, h1, h2, h4⟩ := hS.tell hV
  have e1 := isP_n h6 h12 hk
  have e2 : (nI k).toNatClampNeg = k := nI_clamp (by omega)
  refine tt_packetCommand (d := d) hΓ h1 h2 hV h4 (fun e => absurd (e.symm.trans e1) (by decide)) (fun _ => ?_)
  unfold rToldP
  rw [if_pos e1, e2]
  exact hq
theorem ct_isIntact (hΓ : Ok G κ mX12_isIntact (d + 7) Q X) (hS : LwS G σ c x am A z B F) (hV : RV (B 0) n s) {qq : Nat} (h6 : B 0 6 = nI qq) (h12 : qq ≤ 12) (hk : k < qq) (hq : Q (some (.int (bI (rWhole (B 0) k)))) σ) : AW G κ (cs + 1) (ss + 6) 0 [lR x, lI (nI k)] [] σ := by
  obtain ⟨C, hs, ol, t, q, p, tr, h1, h2, h4⟩ := hS.tell hV
  have e1 := isP_n h6 h12 hk
  have e2 : (nI k).toNatClampNeg = k := nI_clamp (by omega)
  refine tt_isIntact (d := d) hΓ h1 h2 hV h4 (fun e => absurd (e.symm.trans e1) (by decide)) (fun _ => ?_)
  unfold rIntact
  rw [e1, e2, Bool.true_and]
  exact hq
theorem byte_n {m : Nat} (h : m ≤ 255) : rByte (nI m) = true := by
  show rIn (nI m) 0 255 = true
  unfold rIn
  rw [Bool.and_eq_true]
  exact ⟨decide_eq_true (nI_pos' (by omega)), decide_eq_true (show nI m ≤ nI 255 from nI_le h (by decide))⟩
theorem ct_checkOf (hΓ : Ok G κ mX12_checkOf (d + 7) Q X) (hS : LwS G σ c x am A z B F) (hV : RV (B 0) n s) {y w : Int32} (hy : rByte y = true) (hw : rByte w = true) (hq : Q (some (.int (y ^^^ w))) σ) : AW G κ (cs + 1 + 1) (ss + 6 + 6) 0 [lR x, lI y, lI w] [] σ := by
  obtain ⟨C, hs, ol, t, q, p, tr, h1, h2, h4⟩ := hS.tell hV
  have e1 : (rByte y && rByte w) = true := by rw [hy, hw]; rfl
  exact tt_checkOf (d := d) hΓ h1 h2 hV h4 (fun e => absurd (e.symm.trans e1) (by decide)) (fun _ => hq)
theorem ct_meanSpeed (hΓ : Ok G κ mX12_meanSpeed (d + 2) Q X) (hS : LwS G σ c x am A z B F) (hV : RV (B 0) n s) (hq : Q (some (.double (FP.ddiv (FP.i2d (rSum (B 0) 5 n)) (FP.i2d (nI n))))) σ) : AW G κ cs ss 0 [lR x, none] [] σ := by
  obtain ⟨C, hs, ol, t, q, p, tr, h1, h2, h4⟩ := hS.tell hV
  exact tn_meanSpeed (d := d) hΓ h1 h2 hV h4 hq
theorem ct_obeyedShare (hΓ : Ok G κ mX12_obeyedShare (d + 3) Q X) (hS : LwS G σ c x am A z B F) (hV : RV (B 0) n s) (hq : Q (some (.float (fo_sh (rSum (B 0) 11 n) (rSum (B 0) 11 n + rSum (B 0) 12 n + rSum (B 0) 13 n)))) σ) : AW G κ cs ss 0 [lR x, none] [] σ := by
  obtain ⟨C, hs, ol, t, q, p, tr, h1, h2, h4⟩ := hS.tell hV
  exact tn_obeyedShare (d := d) hΓ h1 h2 h4 hq
theorem ct_undoableCount (hΓ : Ok G κ mX12_undoableCount (d + 0) Q X) (hS : LwS G σ c x am A z B F) (hq : Q (some (.int (z 8))) σ) : AW G κ cs ss 0 [lR x] [] σ := by
  obtain ⟨⟨n1, s1, C, n2, C2, Nh, Ch, u, b, l, cd, og, hs, out, ol, h1, h2⟩, -⟩ := hS
  exact tt_undoableCount (d := d) hΓ h1 h2 hq
theorem ct_sendPacket (hΓ : Ok G κ mX12_sendPacket (d + 8) Q X) (hS : LwS G σ c x am A z B F) (hV : RV (B 0) n s) {kk : Nat} (hk8 : kk ≤ 8) (hz8 : z 8 = nI kk) {y w v : Int32} (hy : rByte y = true) (hw : rByte w = true) (hv : rByte v = true) (h0 : (oPut (upd z 9 0) (B 0) (rQ (B 0)) y w v).1 = 0) (hq : ∀ (σ1 : Hp) (c1 : Nat → Nat), LwS G σ1 c1 x am A (fZ (oPut (upd z 9 0) (B 0) (rQ (B 0)) y w v) kk) (fB B (oPut (upd z 9 0) (B 0) (rQ (B 0)) y w v) kk) F → Q (some (.int ((oPut (upd z 9 0) (B 0) (rQ (B 0)) y w v).2.1 11))) σ1) : AW G κ (cs + 8 + 1 + 1 + 1) (ss + 102 + 6 + 6 + 6) 0 [lR x, lI y, lI w, lI v] [] σ := by
  obtain ⟨C, n2, C2, Nh, Ch, u, b, l, cd, og, hs, out, ol, hT, hR⟩ := hS.full hV
  obtain ⟨k9, g1, g2, g3⟩ := hR.u8
  have ek : k9 = kk := (nI_eq (by omega) (by omega)).mp (g3.symm.trans hz8)
  subst ek
  have e1 : (rByte y && rByte w && rByte v) = true := by rw [hy, hw, hv]; rfl
  exact tq_sendPacket (d := d) hΓ hT hR hk8 g2 hz8 (fun e => absurd (e.symm.trans e1) (by decide)) (fun _ e => absurd h0 e) (fun _ _ σ1 c1 r1 f1 => hq σ1 c1 (hS.cls r1 f1))
theorem ct_setSpeed (hΓ : Ok G κ mX12_setSpeed (d + 8) Q X) (hS : LwS G σ c x am A z B F) (hV : RV (B 0) n s) {kk : Nat} (hk8 : kk ≤ 8) (hz8 : z 8 = nI kk) {y w : Int32} (hy : rIn y 0 127 = true) (hw : rIn w 0 28 = true) (h0 : (oInt (upd z 9 0) (B 0) (rQ (B 0)) y w).1 = 0) (hq : ∀ (σ1 : Hp) (c1 : Nat → Nat), LwS G σ1 c1 x am A (fZ (oInt (upd z 9 0) (B 0) (rQ (B 0)) y w) kk) (fB B (oInt (upd z 9 0) (B 0) (rQ (B 0)) y w) kk) F → Q (some (.int ((oInt (upd z 9 0) (B 0) (rQ (B 0)) y w).2.1 11))) σ1) : AW G κ (cs + 8 + 1 + 1) (ss + 102 + 6 + 6) 0 [lR x, lI y, lI w] [] σ := by
  obtain ⟨C, n2, C2, Nh, Ch, u, b, l, cd, og, hs, out, ol, hT, hR⟩ := hS.full hV
  obtain ⟨k9, g1, g2, g3⟩ := hR.u8
  have ek : k9 = kk := (nI_eq (by omega) (by omega)).mp (g3.symm.trans hz8)
  subst ek
  have e1 : (rIn y 0 127 && rIn w 0 28) = true := by rw [hy, hw]; rfl
  exact tq_setSpeed (d := d) hΓ hT hR hk8 g2 hz8 (fun e => absurd (e.symm.trans e1) (by decide)) (fun _ e => absurd h0 e) (fun _ _ σ1 c1 r1 f1 => hq σ1 c1 (hS.cls r1 f1))
theorem ct_setLamp (hΓ : Ok G κ mX12_setLamp (d + 8) Q X) (hS : LwS G σ c x am A z B F) (hV : RV (B 0) n s) {kk : Nat} (hk8 : kk ≤ 8) (hz8 : z 8 = nI kk) {y w : Int32} (hy : rIn y 0 127 = true) (hw : rIn w 0 15 = true) (h0 : (oInt (upd z 9 0) (B 0) (rQ (B 0)) y (64 + w)).1 = 0) (hq : ∀ (σ1 : Hp) (c1 : Nat → Nat), LwS G σ1 c1 x am A (fZ (oInt (upd z 9 0) (B 0) (rQ (B 0)) y (64 + w)) kk) (fB B (oInt (upd z 9 0) (B 0) (rQ (B 0)) y (64 + w)) kk) F → Q (some (.int ((oInt (upd z 9 0) (B 0) (rQ (B 0)) y (64 + w)).2.1 11))) σ1) : AW G κ (cs + 8 + 1 + 1) (ss + 102 + 6 + 6) 0 [lR x, lI y, lI w] [] σ := by
  obtain ⟨C, n2, C2, Nh, Ch, u, b, l, cd, og, hs, out, ol, hT, hR⟩ := hS.full hV
  obtain ⟨k9, g1, g2, g3⟩ := hR.u8
  have ek : k9 = kk := (nI_eq (by omega) (by omega)).mp (g3.symm.trans hz8)
  subst ek
  have e1 : (rIn y 0 127 && rIn w 0 15) = true := by rw [hy, hw]; rfl
  exact tq_setLamp (d := d) hΓ hT hR hk8 g2 hz8 (fun e => absurd (e.symm.trans e1) (by decide)) (fun _ e => absurd h0 e) (fun _ _ σ1 c1 r1 f1 => hq σ1 c1 (hS.cls r1 f1))
theorem ct_stop (hΓ : Ok G κ mX12_stop (d + 8) Q X) (hS : LwS G σ c x am A z B F) (hV : RV (B 0) n s) {kk : Nat} (hk8 : kk ≤ 8) (hz8 : z 8 = nI kk) {y : Int32} (hy : rIn y 0 127 = true) (h0 : (oInt (upd z 9 0) (B 0) 0 y 128).1 = 0) (hq : ∀ (σ1 : Hp) (c1 : Nat → Nat), LwS G σ1 c1 x am A (fZ (oInt (upd z 9 0) (B 0) 0 y 128) kk) (fB B (oInt (upd z 9 0) (B 0) 0 y 128) kk) F → Q (some (.int ((oInt (upd z 9 0) (B 0) 0 y 128).2.1 11))) σ1) : AW G κ (cs + 7 + 1 + 1) (ss + 96 + 6 + 6) 0 [lR x, lI y] [] σ := by
  obtain ⟨C, n2, C2, Nh, Ch, u, b, l, cd, og, hs, out, ol, hT, hR⟩ := hS.full hV
  obtain ⟨k9, g1, g2, g3⟩ := hR.u8
  have ek : k9 = kk := (nI_eq (by omega) (by omega)).mp (g3.symm.trans hz8)
  subst ek
  exact tq_stop (d := d) hΓ hT hR hk8 g2 hz8 (fun e => absurd (e.symm.trans hy) (by decide)) (fun _ e => absurd h0 e) (fun _ _ σ1 c1 r1 f1 => hq σ1 c1 (hS.cls r1 f1))
theorem ct_setShort (hΓ : Ok G κ mX12_setShort (d + 8) Q X) (hS : LwS G σ c x am A z B F) (hV : RV (B 0) n s) {kk : Nat} (hk8 : kk ≤ 8) (hz8 : z 8 = nI kk) {y w : Int32} (hw : w = 0 ∨ w = 1) (h0 : (oShort z (B 0) s y w).1 = 0) (hq : ∀ (σ1 : Hp) (c1 : Nat → Nat), LwS G σ1 c1 x am A (fZ (oShort z (B 0) s y w) kk) (fB B (oShort z (B 0) s y w) kk) F → Q (some (.int ((oShort z (B 0) s y w).2.1 11))) σ1) : AW G κ (cs + 7 + 1) (ss + 96 + 6) 0 [lR x, lI y, lI w] [] σ := by
  obtain ⟨C, n2, C2, Nh, Ch, u, b, l, cd, og, hs, out, ol, hT, hR⟩ := hS.full hV
  obtain ⟨k9, g1, g2, g3⟩ := hR.u8
  have ek : k9 = kk := (nI_eq (by omega) (by omega)).mp (g3.symm.trans hz8)
  subst ek
  exact tq_setShort (d := d) hΓ hT hR hk8 g2 hz8 hw (fun e => absurd h0 e) (fun _ σ1 c1 r1 f1 => hq σ1 c1 (hS.cls r1 f1))
theorem ct_clearQueue (hΓ : Ok G κ mX12_clearQueue (d + 6) Q X) (hS : LwS G σ c x am A z B F) (hV : RV (B 0) n s) {kk : Nat} (hk8 : kk ≤ 8) (hz8 : z 8 = nI kk) (h0 : (oClear z (B 0)).1 = 0) (hq : ∀ (σ1 : Hp) (c1 : Nat → Nat), LwS G σ1 c1 x am A (fZ (oClear z (B 0)) kk) (fB B (oClear z (B 0)) kk) F → Q (some (.int ((oClear z (B 0)).2.1 11))) σ1) : AW G κ (cs + 7) (ss + 96) 0 [lR x] [] σ := by
  obtain ⟨C, n2, C2, Nh, Ch, u, b, l, cd, og, hs, out, ol, hT, hR⟩ := hS.full hV
  obtain ⟨k9, g1, g2, g3⟩ := hR.u8
  have ek : k9 = kk := (nI_eq (by omega) (by omega)).mp (g3.symm.trans hz8)
  subst ek
  exact tq_clearQueue (d := d) hΓ hT hR hk8 g2 hz8 (fun σ1 c1 r1 f1 => hq σ1 c1 (hS.cls r1 f1))
theorem ct_readdress (hΓ : Ok G κ mX12_readdress (d + 8) Q X) (hS : LwS G σ c x am A z B F) (hV : RV (B 0) n s) {kk : Nat} (hk8 : kk ≤ 8) (hz8 : z 8 = nI kk) {y w : Int32} (hy : rIsT (B 0) y = true) (hw : rIn w 1 127 = true) (h0 : (oRead (upd z 9 0) (B 0) n y w).1 = 0) (hq : ∀ (σ1 : Hp) (c1 : Nat → Nat), LwS G σ1 c1 x am A (fZ (oRead (upd z 9 0) (B 0) n y w) kk) (fB B (oRead (upd z 9 0) (B 0) n y w) kk) F → Q (some (.int ((oRead (upd z 9 0) (B 0) n y w).2.1 11))) σ1) : AW G κ (cs + 7 + 1 + 1 + 1) (ss + 96 + 6 + 6 + 6) 0 [lR x, lI y, lI w, none, none] [] σ := by
  obtain ⟨C, n2, C2, Nh, Ch, u, b, l, cd, og, hs, out, ol, hT, hR⟩ := hS.full hV
  obtain ⟨k9, g1, g2, g3⟩ := hR.u8
  have ek : k9 = kk := (nI_eq (by omega) (by omega)).mp (g3.symm.trans hz8)
  subst ek
  exact tq_readdress (d := d) hΓ hT hR hk8 g2 hz8 (fun e => absurd (e.symm.trans hy) (by decide)) (fun _ e => absurd (e.symm.trans hw) (by decide)) (fun _ e => absurd h0 e) (fun _ _ σ1 c1 r1 f1 => hq σ1 c1 (hS.cls r1 f1))
theorem ct_passTicks (hΓ : Ok G κ mX12_passTicks (d + 8) Q X) (hS : LwS G σ c x am A z B F) (hV : RV (B 0) n s) {kk : Nat} (hk8 : kk ≤ 8) (hz8 : z 8 = nI kk) {y : Int32} (hy : rIn y 1 60 = true) (h0 : (oWait n s (upd z 9 0) (B 0) y).1 = 0) (hq : ∀ (σ1 : Hp) (c1 : Nat → Nat), LwS G σ1 c1 x am A (fZ (oWait n s (upd z 9 0) (B 0) y) kk) (fB B (oWait n s (upd z 9 0) (B 0) y) kk) F → Q (some (.int ((oWait n s (upd z 9 0) (B 0) y).2.1 11))) σ1) : AW G κ (cs + 7 + 1 + 1) (ss + 96 + 6 + 6) 0 [lR x, lI y, none] [] σ := by
  obtain ⟨C, n2, C2, Nh, Ch, u, b, l, cd, og, hs, out, ol, hT, hR⟩ := hS.full hV
  obtain ⟨k9, g1, g2, g3⟩ := hR.u8
  have ek : k9 = kk := (nI_eq (by omega) (by omega)).mp (g3.symm.trans hz8)
  subst ek
  exact tq_passTicks (d := d) hΓ hT hR hk8 g2 hz8 (fun e => absurd (e.symm.trans hy) (by decide)) (fun _ e => absurd h0 e) (fun _ _ σ1 c1 r1 f1 => hq σ1 c1 (hS.cls r1 f1))
/-- undo: the row that was remembered comes back -/
theorem ct_undo (hΓ : Ok G κ mX12_undo (d + 7) Q X) (hS : LwS G σ c x am A z B F) (hV : RV (B 0) n s) {kk : Nat} (hk8 : kk ≤ 8) (hz8 : z 8 = nI kk) (h1 : 1 ≤ kk) {ρ : Nat → Int32} {n1 s1 : Nat} (hV1 : RV ρ n1 s1) (hρ : ∀ j, j < 184 → ρ j = hRow (B 5) (kk - 1) j) (hq : ∀ (σ1 : Hp) (c1 : Nat → Nat), LwS G σ1 c1 x am A (upd (upd z 9 0) 8 (nI (kk - 1))) (updA B 0 ρ) F → Q (some (.int (nI (kk - 1)))) σ1) : AW G κ (cs + 7 + 1) (ss + 96 + 6) 0 [lR x] [] σ := by
  obtain ⟨C, n2, C2, Nh, Ch, u, b, l, cd, og, hs, out, ol, hT, hR⟩ := hS.full hV
  obtain ⟨k9, g1, g2, g3⟩ := hR.u8
  have ek : k9 = kk := (nI_eq (by omega) (by omega)).mp (g3.symm.trans hz8)
  subst ek
  exact tq_undo (d := d) hΓ hT hR hk8 g2 hz8 (fun e => absurd e (by omega)) (fun _ σ1 c1 ρ1 e1 r1 f1 => hq σ1 c1 ((hS.cls r1 f1).row hV1 (fun j hj => (hρ j hj).trans (e1 j hj).symm)))
theorem ct_saveSnapshot (hΓ : Ok G κ mX12_saveSnapshot (d + 5) Q X) (hS : LwS G σ c x am A z B F) (hV : RV (B 0) n s) (hq : ∀ (σ1 : Hp) (c1 : Nat → Nat), LwS G σ1 c1 x am A (upd (upd z 9 0) 12 1) (updA B 4 (B 0)) F → Q none σ1) : AW G κ (cs + 7) (ss + 96) 0 [lR x] [] σ := by
  obtain ⟨C, n2, C2, Nh, Ch, u, b, l, cd, og, hs, out, ol, hT, hR⟩ := hS.full hV
  exact tq_saveSnapshot (d := d) hΓ hT hR (fun σ1 c1 r1 f1 => hq σ1 c1 (hS.cls r1 f1))
theorem ct_restoreSnapshot (hΓ : Ok G κ mX12_restoreSnapshot (d + 7) Q X) (hS : LwS G σ c x am A z B F) (hV : RV (B 0) n s) (hz : z 12 = 1) {ρ : Nat → Int32} {n1 s1 : Nat} (hV1 : RV ρ n1 s1) (hρ : B 4 = ρ) (hq : ∀ (σ1 : Hp) (c1 : Nat → Nat), LwS G σ1 c1 x am A (upd (upd z 9 0) 8 0) (updA B 0 ρ) F → Q (some (.int (ρ 0))) σ1) : AW G κ (cs + 7 + 1) (ss + 96 + 6) 0 [lR x] [] σ := by
  obtain ⟨C, n2, C2, Nh, Ch, u, b, l, cd, og, hs, out, ol, hT, hR⟩ := hS.full hV
  subst hρ
  exact tq_restoreSnapshot (d := d) hΓ hT hR (hb := true) hz (fun e => by cases e) (fun _ σ1 c1 ρ1 e1 r1 f1 => hq σ1 c1 ((hS.cls r1 f1).row hV1 (fun j hj => (e1 j hj).symm)))
theorem ct_writeTrack (hΓ : Ok G κ mX12_writeTrack (d + 3) Q X) (hS : LwS G σ c x am A z B F) (hV : RV (B 0) n s) (hq : ∀ σ1 : Hp, LwS G σ1 c x am A (upd (upd z 9 0) 14 (nI s)) (updA B 13 (rOut (B 0) (B 13) n s)) F → Q (some (.int (nI s))) σ1) : AW G κ cs ss 0 [lR x, none] [] σ := by
  obtain ⟨C, n2, C2, Nh, Ch, u, b, l, cd, og, hs, out, ol, hT, hR⟩ := hS.full hV
  exact tq_writeTrack (d := d) hΓ hT hR (fun σ1 r1 f1 => hq σ1 (hS.cls r1 f1))
theorem ct_sectionAfter (hΓ : Ok G κ mX12_sectionAfter (d + 8) Q X) (hS : LwS G σ c x am A z B F) (hV : RV (B 0) n s) {w : Nat} (hk : k < n) (hw : w ≤ 200) (hq : ∀ (σ1 : Hp) (c1 : Nat → Nat), LwS G σ1 c1 x am A z B F → Q (some (.int (rPs n s (B 0) w (58 + 15 * k + 3)))) σ1) : AW G κ (cs + 9) (ss + 108) 0 [lR x, lI (nI k), lI (nI w)] [] σ := by
  obtain ⟨C, n2, C2, Nh, Ch, u, b, l, cd, og, hs, out, ol, hT, hR⟩ := hS.full hV
  have e1 := isT_n hV hk
  have e2 : rIn (nI w) 0 200 = true := by
    unfold rIn
    rw [Bool.and_eq_true]
    exact ⟨decide_eq_true (nI_pos' (by omega)), decide_eq_true (show nI w ≤ nI 200 from nI_le hw (by decide))⟩
  have e3 : (rIsT (B 0) (nI k) && rIn (nI w) 0 200) = true := by rw [e1, e2]; rfl
  have e4 : (nI k).toNatClampNeg = k := nI_clamp (by have := hV.1.1.2.1; omega)
  have e5 : (nI w).toNatClampNeg = w := nI_clamp (by omega)
  refine tq_sectionAfter (d := d) hΓ hT hR (fun e => absurd (e.symm.trans e1) (by decide)) (fun _ e => absurd (e.symm.trans e2) (by decide)) (fun _ σ1 c1 hT1 f1 => ?_)
  unfold rAft
  rw [if_pos e3, e4, e5]
  exact hq σ1 c1 (hS.cls ⟨n, s, C, n2, C2, Nh, Ch, u, b, l, cd, og, hs, out, ol, hT1, hR⟩ f1)
theorem ct_speedAfter (hΓ : Ok G κ mX12_speedAfter (d + 8) Q X) (hS : LwS G σ c x am A z B F) (hV : RV (B 0) n s) {w : Nat} (hk : k < n) (hw : w ≤ 200) (hq : ∀ (σ1 : Hp) (c1 : Nat → Nat), LwS G σ1 c1 x am A z B F → Q (some (.int (rPs n s (B 0) w (58 + 15 * k + 5)))) σ1) : AW G κ (cs + 9) (ss + 108) 0 [lR x, lI (nI k), lI (nI w)] [] σ := by
  obtain ⟨C, n2, C2, Nh, Ch, u, b, l, cd, og, hs, out, ol, hT, hR⟩ := hS.full hV
  have e1 := isT_n hV hk
  have e2 : rIn (nI w) 0 200 = true := by
    unfold rIn
    rw [Bool.and_eq_true]
    exact ⟨decide_eq_true (nI_pos' (by omega)), decide_eq_true (show nI w ≤ nI 200 from nI_le hw (by decide))⟩
  have e3 : (rIsT (B 0) (nI k) && rIn (nI w) 0 200) = true := by rw [e1, e2]; rfl
  have e4 : (nI k).toNatClampNeg = k := nI_clamp (by have := hV.1.1.2.1; omega)
  have e5 : (nI w).toNatClampNeg = w := nI_clamp (by omega)
  refine tq_speedAfter (d := d) hΓ hT hR (fun e => absurd (e.symm.trans e1) (by decide)) (fun _ e => absurd (e.symm.trans e2) (by decide)) (fun _ σ1 c1 hT1 f1 => ?_)
  unfold rAft
  rw [if_pos e3, e4, e5]
  exact hq σ1 c1 (hS.cls ⟨n, s, C, n2, C2, Nh, Ch, u, b, l, cd, og, hs, out, ol, hT1, hR⟩ f1)
theorem ct_ticksToCutoff (hΓ : Ok G κ mX12_ticksToCutoff (d + 5) Q X) (hS : LwS G σ c x am A z B F) (hV : RV (B 0) n s) (hq : ∀ (σ1 : Hp) (c1 : Nat → Nat), LwS G σ1 c1 x am A z B F → Q (some (.int (rUntil n s (B 0 5) 200 1 (B 0)))) σ1) : AW G κ (cs + 7) (ss + 96) 0 [lR x, none] [] σ := by
  obtain ⟨C, n2, C2, Nh, Ch, u, b, l, cd, og, hs, out, ol, hT, hR⟩ := hS.full hV
  exact tq_ticksToCutoff (d := d) hΓ hT hR (fun σ1 c1 hT1 f1 => hq σ1 c1 (hS.cls ⟨n, s, C, n2, C2, Nh, Ch, u, b, l, cd, og, hs, out, ol, hT1, hR⟩ f1))
theorem ct_loadRailway (hΓ : Ok G κ mX12_loadRailway (d + 9) Q X) (hS : LwS G σ c x am A z B F) {N l0 : Nat} (hz : z 16 = nI N) (hN : N ≤ 500) (hl : l0 ≤ N) (h0 : pR (ldY B z l0).1 = 0) (hq : ∀ (σ1 : Hp) (c1 : Nat → Nat), LwS G σ1 c1 x am A (upd (upd (zEnd z (ldY B z l0).1) 8 0) 12 0) (updA B 0 (ldY B z l0).2.1) F → Q (some (.int ((ldY B z l0).2.1 3))) σ1) : AW G κ (cs + 7 + 15 + 1) (ss + 96 + 154 + 6) 0 [lR x, lI (nI l0), none] [] σ := by
  obtain ⟨⟨n1, s1, C, n2, C2, Nh, Ch, u, b, l, cd, og, hs, out, ol, hT, hR⟩, -⟩ := id hS
  have e1 : rIn (nI l0) 0 (nI N) = true := by
    unfold rIn
    rw [Bool.and_eq_true]
    exact ⟨decide_eq_true (nI_pos' (by omega)), decide_eq_true (nI_le hl (by omega))⟩
  refine tq_loadRailway (d := d) hΓ hT hR hz hN (fun e => absurd (e.symm.trans e1) (by decide)) (fun l1 h1 e2 σ1 c1 r1 f1 => ?_)
  have e3 : l1 = l0 := ((nI_eq (by omega) (by omega)).mp e2).symm
  subst e3
  rw [if_pos h0]
  unfold ldZ ldB at r1
  rw [if_pos h0, if_pos h0] at r1
  exact hq σ1 c1 (hS.cls r1 f1)
end Tell
