/-! the class whole against the row: what changes the railway -/
theorem hrec_new {H ρ : Nat → Int32} {u j : Nat} (hj : j < 184) : hRow (hRec H u ρ) (hCnt u - 1) j = ρ j := by
  unfold hRow hRec hCnt
  by_cases e : u = 8
  · rw [if_pos e, if_pos e, pk_cpy_in (by omega) (by omega)]
    exact congrArg ρ (by omega)
  · rw [if_neg e, if_neg e, pk_cpy_in (by omega) (by omega)]
    exact congrArg ρ (by omega)
theorem hrec_old {H ρ : Nat → Int32} {u i j : Nat} (hu : u ≤ 8) (hi : i + 1 < hCnt u) (hj : j < 184) : hRow (hRec H u ρ) (hCnt u - 1 - (i + 1)) j = hRow H (u - 1 - i) j := by
  unfold hCnt at hi
  unfold hRow hRec hCnt
  by_cases e : u = 8
  · rw [if_pos e] at hi
    rw [if_pos e, if_pos e, pk_cpy_out (Or.inl (by omega))]
    unfold hShift
    rw [if_pos (by omega)]
    exact congrArg H (by omega)
  · rw [if_neg e] at hi
    rw [if_neg e, if_neg e, pk_cpy_out (Or.inl (by omega))]
    exact congrArg H (by omega)
/-- a row kept: a railway of the class tells it -/
def HRw (θ : Nat → Int32) (n : Nat) (C : Ct) : Prop := ∃ s ρ, RV ρ n s ∧ CR ρ n s C ∧ ∀ j, j < 184 → ρ j = θ j
theorem HRw.cg {θ θ1 : Nat → Int32} {n : Nat} {C : Ct} (h : HRw θ n C) (e : ∀ j, j < 184 → θ1 j = θ j) : HRw θ1 n C := by
  obtain ⟨s, ρ, h1, h2, h3⟩ := h
  exact ⟨s, ρ, h1, h2, fun j hj => (h3 j hj).trans (e j hj).symm⟩
theorem HRw.cp {θ : Nat → Int32} {n : Nat} {C B : Ct} (h : HRw θ n C) : HRw θ n (cCpy B C) := by
  obtain ⟨s, ρ, h1, h2, h3⟩ := h
  obtain ⟨l, hl, hQ⟩ := h1.1.2
  exact ⟨s, ρ, h1, h2.cp (by rw [rQ_lt hQ hl]; exact hl), h3⟩
def zJ (j : Nat) : Prop := j = 8 ∨ j = 10 ∨ j = 12 ∨ j = 14 ∨ j = 16 ∨ j = 23
/-- the class's numbers tell the reference's -/
def TR (z : Nat → Int32) (B : Nat → Nat → Int32) (n s : Nat) (C : Ct) (n2 : Nat) (C2 : Ct) (Nh : Nat → Nat) (Ch : Nat → Ct) (u : Int32) (b : Nat → Int32) (l cd og hs : Int32) (out : Nat → Int32) (ol : Int32) : Prop :=
  (RV (B 0) n s ∧ CR (B 0) n s C) ∧
  (∃ k, k ≤ 8 ∧ u = nI k ∧ z 8 = nI k ∧ ∀ i, i < k → HRw (hRow (B 5) (k - 1 - i)) (Nh i) (Ch i)) ∧
  (∃ h : Bool, hs = bI h ∧ z 12 = bI h ∧ (h = true → HRw (B 4) n2 C2)) ∧
  (∃ k, k ≤ 24 ∧ ol = nI k ∧ z 14 = nI k ∧ ∀ j, j < k → out j = B 13 j) ∧
  (∃ k, k ≤ 500 ∧ l = nI k ∧ z 16 = nI k ∧ b = B 15 ∧ BB b k) ∧ cd = z 10 ∧ og = z 23
section Rel
variable {G : Gl} {κ : Kx} {d : Nat} {Q : Option Value → Hp → Prop} {X : String → Hp → Prop} {cs ss pc : Nat} {σ σ1 : Hp} {c c1 A : Nat → Nat} {x am n n' n2 n2' s s' : Nat} {C C' C2 C2' : Ct} {Nh Nh' : Nat → Nat} {Ch Ch' : Nat → Ct} {u u' l l' cd cd' og og' hs hs' ol ol' : Int32} {b b' out out' : Nat → Int32} {z z1 : Nat → Int32} {B B1 : Nat → Nat → Int32} {y : Int32}
theorem TR.u8 (h : TR z B n s C n2 C2 Nh Ch u b l cd og hs out ol) : ∃ k, k ≤ 8 ∧ u = nI k ∧ z 8 = nI k := by
  obtain ⟨-, ⟨k, h1, h2, h3, -⟩, -⟩ := h
  exact ⟨k, h1, h2, h3⟩
/-- the state remembered and changed -/
theorem TR.rem {k : Nat} {T : Nat → Int32} (h : TR z B n s C n2 C2 Nh Ch u b l cd og hs out ol) (hz : z 8 = nI k) (hk : k ≤ 8) (hV : RV T n s) (hC : CR T n s C') (ez : ∀ j, zJ j → j ≠ 8 → z1 j = z j) (e8 : z1 8 = nI (hCnt k)) (e0 : B1 0 = T) (e5 : B1 5 = hRec (B 5) k (B 0)) (e4 : B1 4 = B 4) (e13 : B1 13 = B 13) (e15 : B1 15 = B 15) : TR z1 B1 n s C' n2 C2 (hNn n Nh) (hCc C Ch) (nI (hCnt k)) b l cd og hs out ol := by
  obtain ⟨⟨a1, a2⟩, ⟨k1, b1, b2, b3, b4⟩, h3, h4, h5, h6⟩ := h
  have ek : k1 = k := (nI_eq (by omega) (by omega)).mp (b3.symm.trans hz)
  subst ek
  have hc8 : hCnt k1 ≤ 8 := by unfold hCnt; split <;> omega
  refine ⟨⟨by rw [e0]; exact hV, by rw [e0]; exact hC⟩, ⟨hCnt k1, hc8, rfl, e8, fun i hi => ?_⟩, ?_, ?_, ?_, ?_⟩
  · rw [e5]
    by_cases ei : i = 0
    · subst ei
      have h7 : HRw (B 0) n (cCpy (Ch 7) C) := HRw.cp ⟨s, B 0, a1, a2, fun _ _ => rfl⟩
      exact h7.cg (fun j hj => hrec_new hj)
    · obtain ⟨i, rfl⟩ : ∃ i0, i = i0 + 1 := ⟨i - 1, by omega⟩
      have hik : i < k1 := by unfold hCnt at hi; split at hi <;> omega
      have h7 := b4 i hik
      show HRw _ (hNn n Nh (i + 1)) (hCc C Ch (i + 1))
      unfold hNn hCc
      rw [if_neg (Nat.succ_ne_zero i), if_neg (Nat.succ_ne_zero i)]
      exact h7.cg (fun j hj => hrec_old b1 hi hj)
  · rw [ez 12 (by unfold zJ; omega) (by decide), e4]; exact h3
  · rw [ez 14 (by unfold zJ; omega) (by decide), e13]; exact h4
  · rw [ez 16 (by unfold zJ; omega) (by decide), e15]; exact h5
  · rw [ez 10 (by unfold zJ; omega) (by decide), ez 23 (by unfold zJ; omega) (by decide)]; exact h6
theorem TR.op {k : Nat} (h : TR z B n s C n2 C2 Nh Ch u b l cd og hs out ol) (o : Op) (h0 : o.1 = 0) (hzo : ∀ j, j ≠ 9 → j ≠ 11 → o.2.1 j = z j) (hz : z 8 = nI k) (hk : k ≤ 8) (hV : RV o.2.2 n s) (hC : CR o.2.2 n s C') : TR (fZ o k) (fB B o k) n s C' n2 C2 (hNn n Nh) (hCc C Ch) (nI (hCnt k)) b l cd og hs out ol := by
  unfold fZ fB
  rw [if_pos h0, if_pos h0]
  refine h.rem (T := o.2.2) hz hk hV hC (fun j hj h8 => ?_) (upd_same _ _ _) (by rw [updA_ne (by decide), updA_same]) (updA_same _ _ _) (by rw [updA_ne (by decide), updA_ne (by decide)]) (by rw [updA_ne (by decide), updA_ne (by decide)]) (by rw [updA_ne (by decide), updA_ne (by decide)])
  rw [upd_ne h8, upd_ne (by unfold zJ at hj; omega)]
  exact hzo j (by unfold zJ at hj; omega) (by unfold zJ at hj; omega)
/-- the class's object and the reference's numbers -/
def RLx (G : Gl) (σ : Hp) (c : Nat → Nat) (x : Nat) (A : Nat → Nat) (am : Nat) (z : Nat → Int32) (B : Nat → Nat → Int32) : Prop :=
  ∃ (n s : Nat) (C : Ct) (n2 : Nat) (C2 : Ct) (Nh : Nat → Nat) (Ch : Nat → Ct) (u : Int32) (b : Nat → Int32) (l cd og hs : Int32) (out : Nat → Int32) (ol : Int32), TD G σ c x A am n C n2 C2 Nh Ch u b l cd og hs out ol ∧ TR z B n s C n2 C2 Nh Ch u b l cd og hs out ol
theorem RLx.keep (h : RLx G σ c x A am z B) (f : KF (fun y => y = am) σ c σ1 c1) : RLx G σ1 c1 x A am z B := by
  obtain ⟨n, s, C, n2, C2, Nh, Ch, u, b, l, cd, og, hs, out, ol, h1, h2⟩ := h
  exact ⟨n, s, C, n2, C2, Nh, Ch, u, b, l, cd, og, hs, out, ol, h1.keep f, h2⟩
theorem sent_cr {ρ : Nat → Int32} {m : Nat} (hV : RV ρ n s) (h : CR ρ n s C) (hm : ρ 0 = nI m) : ∀ t, m + t ≤ 10000 → (cPs n C t).2.1 3 = C.2.1 3 + rPsN n s ρ t
  | 0, _ => (Int32.add_zero _).symm
  | t + 1, ht => by
    have ih := sent_cr hV h hm t (by omega)
    have hc := pass_cr (t := t) hV h hm (by omega)
    have h0 : ¬ rPs n s ρ t 0 = 10000 := by
      rw [rPs_0 hV hm t (by omega)]
      exact fun e => absurd ((nI_eq (a := m + t) (b := 10000) (by omega) (by omega)).mp e) (by omega)
    have eN : rPsN n s ρ (t + 1) = rPsN n s ρ t + rSentN (rPs n s ρ t) := rfl
    have eC : (cPs n C (t + 1)).2.1 = cU (cPs n C t) := rfl
    rw [eN, eC, ← Int32.add_assoc, ← ih]
    unfold cU rSentN
    rw [if_neg h0, hc.1.2.2.2.1, hc.1.2.2.2.2.2.1]
    by_cases e : (cPs n C t).1 5 = 0 ∧ ¬ (cPs n C t).2.1 1 = 0
    · rw [if_pos e, if_pos e]
      exact upd_same _ _ _
    · rw [if_neg e, if_neg e, Int32.add_zero]
theorem sub_add_n {a b : Int32} : a + b - a = b := by rw [Int32.add_comm]; exact Int32.add_sub_cancel b a
theorem oPut_6 {ρ : Nat → Int32} {p : Nat} {v w k : Int32} (e0 : (oPut z ρ p v w k).1 = 0) : (oPut z ρ p v w k).2.1 11 = (oPut z ρ p v w k).2.2 6 := by
  unfold oPut at e0 ⊢
  by_cases e12 : ρ 6 = 12
  · rw [if_pos e12] at e0; exact absurd e0 (show ¬ (2 : Int32) = 0 by decide)
  · rw [if_neg e12]
    unfold rPut
    show upd z 11 (ρ 6 + 1) 11 = upd (upd (rPut0 ρ (rQ ρ) p v w k) 6 (ρ 6 + 1)) 7 (ρ 7 + 1) 6
    rw [upd_same, upd_ne (by decide), upd_same]
theorem oPut_zz {ρ : Nat → Int32} {p : Nat} {v w k : Int32} {j : Nat} (h9 : j ≠ 9) (h11 : j ≠ 11) : (oPut (upd z 9 0) ρ p v w k).2.1 j = z j := by
  unfold oPut
  split
  · exact upd_ne h9
  · exact (upd_ne h11).trans (upd_ne h9)
theorem xr_255 {a e : Nat} (ha : a ≤ 255) (he : e ≤ 255) : a ^^^ e ≤ 255 := by
  have := Nat.xor_lt_two_pow (n := 8) (x := a) (y := e) (by omega) (by omega)
  omega
theorem rp_le {ρ : Nat → Int32} (hV : RV ρ n s) : ∀ q, ρ 6 = nI q → q ≤ 12 → rQ ρ ≤ q := fun q h1 h2 => by rw [rQ_lt h1 h2]; exact Nat.le_refl q
theorem rg_byte (h : rByte y = true) : ∃ k, k ≤ 255 ∧ y = nI k := rIn_le (n := 255) (by decide) h
theorem tq_enqueue (hΓ : Ok G κ mX12_enqueue (d + 7) Q X) (h : TD G σ c x A am n C n2 C2 Nh Ch u b l cd og hs out ol) (hR : TR z B n s C n2 C2 Nh Ch u b l cd og hs out ol) {k : Nat} (hk : k ≤ 8) (hu : u = nI k) (hz : z 8 = nI k) {Aa Bb Dd : Nat} {x1 y w v : Int32} (hx1 : x1 = kOf y w v) (hA : y = nI Aa) (hB : w = nI Bb) (hD : v = nI Dd) (hA9 : Aa ≤ 255) (hB9 : Bb ≤ 255) (hD9 : Dd ≤ 255) (hx : ¬ (oPut (upd z 9 0) (B 0) (rQ (B 0)) y w v).1 = 0 → X "java/lang/IllegalStateException" σ) (hq : (oPut (upd z 9 0) (B 0) (rQ (B 0)) y w v).1 = 0 → ∀ (σ1 : Hp) (c1 : Nat → Nat), RLx G σ1 c1 x A am (fZ (oPut (upd z 9 0) (B 0) (rQ (B 0)) y w v) k) (fB B (oPut (upd z 9 0) (B 0) (rQ (B 0)) y w v) k) → KF (NA am) σ c σ1 c1 → Q (some (.int ((oPut (upd z 9 0) (B 0) (rQ (B 0)) y w v).2.1 11))) σ1) : AW G κ (cs + 7 + 1) (ss + 96 + 6) 0 [lR x, lI x1] [] σ := by
  obtain ⟨⟨hV, hC⟩, -⟩ := id hR
  obtain ⟨t, q, p, tr, g, hc⟩ := h.m
  subst hu
  refine sX12_enqueue_0 hΓ rfl ?_
  refine sX12_enqueue_1 hΓ 1 6 (Nat.le_of_ble_eq_true rfl) h.o (fun κ_1 hΓ_1 => tx_reqRoom hΓ_1 h.o g hV hC (fun e => hx (by unfold oPut; rw [if_pos e]; exact (show ¬ (2 : Int32) = 0 by decide))) (fun e12 => ?_) )
  show AW G κ _ _ 4 _ _ _
  refine sX12_enqueue_4 hΓ rfl ?_
  refine sX12_enqueue_5 hΓ h.o rfl ?_
  refine sX12_enqueue_8 hΓ rfl ?_
  refine sX12_enqueue_9 hΓ h.o rfl ?_
  refine sX12_enqueue_12 hΓ 7 96 (Nat.le_of_ble_eq_true rfl) h.2.2.1.choose_spec.1.choose_spec.1 (fun κ_12 hΓ_12 => td_remember hΓ_12 h hk (fun σ1 c1 h1 f1 r1 => ?_) )
  show AW G κ _ _ 15 _ _ _
  obtain ⟨t1, q1, p1, tr1, g1, hc1⟩ := h1.m
  refine sX12_enqueue_15 hΓ rfl ?_
  refine sX12_enqueue_16 hΓ h1.o rfl ?_
  refine sX12_enqueue_19 hΓ g1.o rfl ?_
  refine sX12_enqueue_22 hΓ rfl ?_
  refine sX12_enqueue_23 hΓ 0 0 (Nat.le_of_ble_eq_true rfl) g1.qg.1 (fun κ_23 hΓ_23 => sc_last hΓ_23 g1 hc1 hV hC hx1 hA hB hD (upd z 9 0) (fun e0 => absurd (by unfold oPut; rw [if_neg e12]) e0) (fun e0 σ2 C7 h3 h2 f2 => ?_) )
  · show AW G κ _ _ 26 _ _ _
    have hT2 := h1.setMain f2 h3
    obtain ⟨t2, q2, p2, tr2, g2, hc2⟩ := h3
    have e6 : (oPut (upd z 9 0) (B 0) (rQ (B 0)) y w v).2.1 11 = C7.2.1 1 := (oPut_6 e0).trans h2.1.2.2.2.2.2.1
    have hV2 : RV (oPut (upd z 9 0) (B 0) (rQ (B 0)) y w v).2.2 n s := by rw [hA, hB, hD]; exact rv_put hV (rp_le hV) hA9 hB9 hD9
    have hT3 := hR.op (oPut (upd z 9 0) (B 0) (rQ (B 0)) y w v) e0 (fun j h9 h11 => oPut_zz h9 h11) hz hk hV2 h2
    have hq := hq e0 σ2 c1 ⟨n, s, C7, n2, C2, _, _, _, b, l, cd, og, hs, out, ol, hT2, hT3⟩ (f1.tr (h1.ea (i := 0) (by decide) f2))
    rw [e6] at hq
    refine sX12_enqueue_26i hΓ ?_
    refine sX12_enqueue_27 hΓ rfl ?_
    refine sX12_enqueue_28 hΓ hT2.o rfl ?_
    refine sX12_enqueue_31 hΓ g2.o rfl ?_
    refine sX12_enqueue_34 hΓ g2.qg.1 rfl ?_
    exact sX12_enqueue_37 hΓ hq
theorem tq_sendPacket (hΓ : Ok G κ mX12_sendPacket (d + 8) Q X) (h : TD G σ c x A am n C n2 C2 Nh Ch u b l cd og hs out ol) (hR : TR z B n s C n2 C2 Nh Ch u b l cd og hs out ol) {k : Nat} (hk : k ≤ 8) (hu : u = nI k) (hz : z 8 = nI k) {w v : Int32} (hx1 : (rByte y && rByte w && rByte v) = false → X "java/lang/IllegalArgumentException" σ) (hx2 : (rByte y && rByte w && rByte v) = true → ¬ (oPut (upd z 9 0) (B 0) (rQ (B 0)) y w v).1 = 0 → X "java/lang/IllegalStateException" σ) (hq : (rByte y && rByte w && rByte v) = true → (oPut (upd z 9 0) (B 0) (rQ (B 0)) y w v).1 = 0 → ∀ (σ1 : Hp) (c1 : Nat → Nat), RLx G σ1 c1 x A am (fZ (oPut (upd z 9 0) (B 0) (rQ (B 0)) y w v) k) (fB B (oPut (upd z 9 0) (B 0) (rQ (B 0)) y w v) k) → KF (NA am) σ c σ1 c1 → Q (some (.int ((oPut (upd z 9 0) (B 0) (rQ (B 0)) y w v).2.1 11))) σ1) : AW G κ (cs + 8 + 1 + 1 + 1) (ss + 102 + 6 + 6 + 6) 0 [lR x, lI y, lI w, lI v] [] σ := by
  refine sX12_sendPacket_0 hΓ rfl ?_
  refine sX12_sendPacket_1 hΓ ?_
  refine sX12_sendPacket_2 hΓ ?_
  refine sX12_sendPacket_5 hΓ 1 6 (Nat.le_of_ble_eq_true rfl) (fun κ_5 hΓ_5 => tx_reqRange hΓ_5 (fun e9 => hx1 (by unfold rByte; rw [e9]; rfl)) (fun e1 => ?_) )
  show AW G κ _ _ 8 _ _ _
  refine sX12_sendPacket_8 hΓ rfl ?_
  refine sX12_sendPacket_9 hΓ ?_
  refine sX12_sendPacket_10 hΓ ?_
  refine sX12_sendPacket_13 hΓ 1 6 (Nat.le_of_ble_eq_true rfl) (fun κ_13 hΓ_13 => tx_reqRange hΓ_13 (fun e9 => hx1 (by unfold rByte; rw [e9, Bool.and_false]; rfl)) (fun e2 => ?_) )
  show AW G κ _ _ 16 _ _ _
  refine sX12_sendPacket_16 hΓ rfl ?_
  refine sX12_sendPacket_17 hΓ ?_
  refine sX12_sendPacket_18 hΓ ?_
  refine sX12_sendPacket_21 hΓ 1 6 (Nat.le_of_ble_eq_true rfl) (fun κ_21 hΓ_21 => tx_reqRange hΓ_21 (fun e9 => hx1 (by unfold rByte; rw [e9, Bool.and_false])) (fun e3 => ?_) )
  show AW G κ _ _ 24 _ _ _
  have ec : (rByte y && rByte w && rByte v) = true := by unfold rByte; rw [e1, e2, e3]; rfl
  obtain ⟨a1, a2, a3⟩ := rg_byte e1
  obtain ⟨b1, b2, b3⟩ := rg_byte e2
  obtain ⟨c1, c2, c3⟩ := rg_byte e3
  refine sX12_sendPacket_24 hΓ rfl ?_
  refine sX12_sendPacket_25 hΓ rfl ?_
  refine sX12_sendPacket_26 hΓ rfl ?_
  refine sX12_sendPacket_27 hΓ rfl ?_
  refine sX12_sendPacket_28 hΓ 0 0 (Nat.le_of_ble_eq_true rfl) (fun κ_28 hΓ_28 => st_of hΓ_28 ?_)
  show AW G κ _ _ 31 _ _ _
  refine sX12_sendPacket_31 hΓ 8 102 (Nat.le_of_ble_eq_true rfl) h.o (fun κ_31 hΓ_31 => tq_enqueue (cs := 0) (ss := 0) hΓ_31 h hR hk hu hz rfl a3 b3 c3 a2 b2 c2 (hx2 ec) (fun e0 σ1 c1 h1 f1 => ?_) )
  show AW G κ _ _ 34 _ _ _
  exact sX12_sendPacket_34 hΓ (hq ec e0 σ1 c1 h1 f1)
theorem tq_setSpeed (hΓ : Ok G κ mX12_setSpeed (d + 8) Q X) (h : TD G σ c x A am n C n2 C2 Nh Ch u b l cd og hs out ol) (hR : TR z B n s C n2 C2 Nh Ch u b l cd og hs out ol) {k : Nat} (hk : k ≤ 8) (hu : u = nI k) (hz : z 8 = nI k) {w : Int32} (hx1 : (rIn y 0 127 && rIn w 0 28) = false → X "java/lang/IllegalArgumentException" σ) (hx2 : (rIn y 0 127 && rIn w 0 28) = true → ¬ (oInt (upd z 9 0) (B 0) (rQ (B 0)) y w).1 = 0 → X "java/lang/IllegalStateException" σ) (hq : (rIn y 0 127 && rIn w 0 28) = true → (oInt (upd z 9 0) (B 0) (rQ (B 0)) y w).1 = 0 → ∀ (σ1 : Hp) (c1 : Nat → Nat), RLx G σ1 c1 x A am (fZ (oInt (upd z 9 0) (B 0) (rQ (B 0)) y w) k) (fB B (oInt (upd z 9 0) (B 0) (rQ (B 0)) y w) k) → KF (NA am) σ c σ1 c1 → Q (some (.int ((oInt (upd z 9 0) (B 0) (rQ (B 0)) y w).2.1 11))) σ1) : AW G κ (cs + 8 + 1 + 1) (ss + 102 + 6 + 6) 0 [lR x, lI y, lI w] [] σ := by
  refine sX12_setSpeed_0 hΓ rfl ?_
  refine sX12_setSpeed_1 hΓ ?_
  refine sX12_setSpeed_2 hΓ ?_
  refine sX12_setSpeed_4 hΓ 1 6 (Nat.le_of_ble_eq_true rfl) (fun κ_4 hΓ_4 => tx_reqRange hΓ_4 (fun e9 => hx1 (by rw [e9]; rfl)) (fun e1 => ?_) )
  show AW G κ _ _ 7 _ _ _
  refine sX12_setSpeed_7 hΓ rfl ?_
  refine sX12_setSpeed_8 hΓ ?_
  refine sX12_setSpeed_9 hΓ ?_
  refine sX12_setSpeed_11 hΓ 1 6 (Nat.le_of_ble_eq_true rfl) (fun κ_11 hΓ_11 => tx_reqRange hΓ_11 (fun e9 => hx1 (by rw [e9, Bool.and_false])) (fun e2 => ?_) )
  show AW G κ _ _ 14 _ _ _
  have ec : (rIn y 0 127 && rIn w 0 28) = true := by rw [e1, e2]; rfl
  obtain ⟨a1, a2, a3⟩ := rIn_le (n := 127) (by decide) e1
  obtain ⟨b1, b2, b3⟩ := rIn_le (n := 28) (by decide) e2
  unfold oInt at hx2 hq
  refine sX12_setSpeed_14 hΓ rfl ?_
  refine sX12_setSpeed_15 hΓ rfl ?_
  refine sX12_setSpeed_16 hΓ ?_
  refine sX12_setSpeed_17 hΓ rfl ?_
  refine sX12_setSpeed_18 hΓ 0 0 (Nat.le_of_ble_eq_true rfl) (fun κ_18 hΓ_18 => st_intact hΓ_18 ?_)
  show AW G κ _ _ 21 _ _ _
  refine sX12_setSpeed_21 hΓ 8 102 (Nat.le_of_ble_eq_true rfl) h.o (fun κ_21 hΓ_21 => tq_enqueue (cs := 0) (ss := 0) hΓ_21 h hR hk hu hz (by rw [b3]; exact kI0 y b2) a3 (b3) (by rw [a3, b3]; exact xorI a1 b1) (by omega) (by omega) (xr_255 (by omega) (by omega)) (hx2 ec) (fun e0 σ1 c1 h1 f1 => ?_) )
  show AW G κ _ _ 24 _ _ _
  exact sX12_setSpeed_24 hΓ (hq ec e0 σ1 c1 h1 f1)
theorem tq_setLamp (hΓ : Ok G κ mX12_setLamp (d + 8) Q X) (h : TD G σ c x A am n C n2 C2 Nh Ch u b l cd og hs out ol) (hR : TR z B n s C n2 C2 Nh Ch u b l cd og hs out ol) {k : Nat} (hk : k ≤ 8) (hu : u = nI k) (hz : z 8 = nI k) {w : Int32} (hx1 : (rIn y 0 127 && rIn w 0 15) = false → X "java/lang/IllegalArgumentException" σ) (hx2 : (rIn y 0 127 && rIn w 0 15) = true → ¬ (oInt (upd z 9 0) (B 0) (rQ (B 0)) y (64 + w)).1 = 0 → X "java/lang/IllegalStateException" σ) (hq : (rIn y 0 127 && rIn w 0 15) = true → (oInt (upd z 9 0) (B 0) (rQ (B 0)) y (64 + w)).1 = 0 → ∀ (σ1 : Hp) (c1 : Nat → Nat), RLx G σ1 c1 x A am (fZ (oInt (upd z 9 0) (B 0) (rQ (B 0)) y (64 + w)) k) (fB B (oInt (upd z 9 0) (B 0) (rQ (B 0)) y (64 + w)) k) → KF (NA am) σ c σ1 c1 → Q (some (.int ((oInt (upd z 9 0) (B 0) (rQ (B 0)) y (64 + w)).2.1 11))) σ1) : AW G κ (cs + 8 + 1 + 1) (ss + 102 + 6 + 6) 0 [lR x, lI y, lI w] [] σ := by
  refine sX12_setLamp_0 hΓ rfl ?_
  refine sX12_setLamp_1 hΓ ?_
  refine sX12_setLamp_2 hΓ ?_
  refine sX12_setLamp_4 hΓ 1 6 (Nat.le_of_ble_eq_true rfl) (fun κ_4 hΓ_4 => tx_reqRange hΓ_4 (fun e9 => hx1 (by rw [e9]; rfl)) (fun e1 => ?_) )
  show AW G κ _ _ 7 _ _ _
  refine sX12_setLamp_7 hΓ rfl ?_
  refine sX12_setLamp_8 hΓ ?_
  refine sX12_setLamp_9 hΓ ?_
  refine sX12_setLamp_11 hΓ 1 6 (Nat.le_of_ble_eq_true rfl) (fun κ_11 hΓ_11 => tx_reqRange hΓ_11 (fun e9 => hx1 (by rw [e9, Bool.and_false])) (fun e2 => ?_) )
  show AW G κ _ _ 14 _ _ _
  have ec : (rIn y 0 127 && rIn w 0 15) = true := by rw [e1, e2]; rfl
  obtain ⟨a1, a2, a3⟩ := rIn_le (n := 127) (by decide) e1
  obtain ⟨b1, b2, b3⟩ := rIn_le (n := 15) (by decide) e2
  unfold oInt at hx2 hq
  refine sX12_setLamp_14 hΓ rfl ?_
  refine sX12_setLamp_15 hΓ rfl ?_
  refine sX12_setLamp_16 hΓ ?_
  refine sX12_setLamp_17 hΓ rfl ?_
  refine sX12_setLamp_18 hΓ 0 0 (Nat.le_of_ble_eq_true rfl) (fun κ_18 hΓ_18 => st_intact hΓ_18 ?_)
  show AW G κ _ _ 21 _ _ _
  refine sX12_setLamp_21 hΓ 8 102 (Nat.le_of_ble_eq_true rfl) h.o (fun κ_21 hΓ_21 => tq_enqueue (cs := 0) (ss := 0) hΓ_21 h hR hk hu hz (by rw [b3]; exact kI1 y b2) a3 (by rw [b3]; exact nI_add 64 b1) (by rw [a3, b3, show (64 : Int32) + nI b1 = nI (64 + b1) from nI_add 64 b1]; exact xorI a1 (64 + b1)) (by omega) (by omega) (xr_255 (by omega) (by omega)) (hx2 ec) (fun e0 σ1 c1 h1 f1 => ?_) )
  show AW G κ _ _ 24 _ _ _
  exact sX12_setLamp_24 hΓ (hq ec e0 σ1 c1 h1 f1)
theorem tq_stop (hΓ : Ok G κ mX12_stop (d + 8) Q X) (h : TD G σ c x A am n C n2 C2 Nh Ch u b l cd og hs out ol) (hR : TR z B n s C n2 C2 Nh Ch u b l cd og hs out ol) {k : Nat} (hk : k ≤ 8) (hu : u = nI k) (hz : z 8 = nI k) (hx1 : rIn y 0 127 = false → X "java/lang/IllegalArgumentException" σ) (hx2 : rIn y 0 127 = true → ¬ (oInt (upd z 9 0) (B 0) 0 y 128).1 = 0 → X "java/lang/IllegalStateException" σ) (hq : rIn y 0 127 = true → (oInt (upd z 9 0) (B 0) 0 y 128).1 = 0 → ∀ (σ1 : Hp) (c1 : Nat → Nat), RLx G σ1 c1 x A am (fZ (oInt (upd z 9 0) (B 0) 0 y 128) k) (fB B (oInt (upd z 9 0) (B 0) 0 y 128) k) → KF (NA am) σ c σ1 c1 → Q (some (.int ((oInt (upd z 9 0) (B 0) 0 y 128).2.1 11))) σ1) : AW G κ (cs + 7 + 1 + 1) (ss + 96 + 6 + 6) 0 [lR x, lI y] [] σ := by
  refine sX12_stop_0 hΓ rfl ?_
  refine sX12_stop_1 hΓ ?_
  refine sX12_stop_2 hΓ ?_
  refine sX12_stop_4 hΓ 1 6 (Nat.le_of_ble_eq_true rfl) (fun κ_4 hΓ_4 => tx_reqRange hΓ_4 (fun e9 => hx1 (e9)) (fun ec => ?_) )
  show AW G κ _ _ 7 _ _ _
  obtain ⟨a1, a2, a3⟩ := rIn_le (n := 127) (by decide) ec
  have hx2 := hx2 ec
  have hq := hq ec
  unfold oInt at hx2 hq
  obtain ⟨⟨hV, hC⟩, -⟩ := id hR
  obtain ⟨t, q, p, tr, g, hc⟩ := h.m
  subst hu
  refine sX12_stop_7 hΓ rfl ?_
  refine sX12_stop_8 hΓ 1 6 (Nat.le_of_ble_eq_true rfl) h.o (fun κ_8 hΓ_8 => tx_reqRoom hΓ_8 h.o g hV hC (fun e => hx2 (by unfold oPut; rw [if_pos e]; exact (show ¬ (2 : Int32) = 0 by decide))) (fun e12 => ?_) )
  show AW G κ _ _ 11 _ _ _
  refine sX12_stop_11 hΓ rfl ?_
  refine sX12_stop_12 hΓ h.o rfl ?_
  refine sX12_stop_15 hΓ rfl ?_
  refine sX12_stop_16 hΓ h.o rfl ?_
  refine sX12_stop_19 hΓ 7 96 (Nat.le_of_ble_eq_true rfl) h.2.2.1.choose_spec.1.choose_spec.1 (fun κ_19 hΓ_19 => td_remember hΓ_19 h hk (fun σ1 c1 h1 f1 r1 => ?_) )
  show AW G κ _ _ 22 _ _ _
  obtain ⟨t1, q1, p1, tr1, g1, hc1⟩ := h1.m
  refine sX12_stop_22 hΓ rfl ?_
  refine sX12_stop_23 hΓ h1.o rfl ?_
  refine sX12_stop_26 hΓ g1.o rfl ?_
  refine sX12_stop_29 hΓ rfl ?_
  refine sX12_stop_30 hΓ ?_
  refine sX12_stop_31 hΓ ?_
  refine sX12_stop_32 hΓ 0 0 (Nat.le_of_ble_eq_true rfl) (fun κ_32 hΓ_32 => st_intact hΓ_32 ?_)
  show AW G κ _ _ 35 _ _ _
  refine sX12_stop_35 hΓ 0 0 (Nat.le_of_ble_eq_true rfl) g1.qg.1 (fun κ_35 hΓ_35 => sc_first hΓ_35 g1 hc1 hV hC (kI2 y) a3 (show (128 : Int32) = nI 128 from rfl) (by rw [a3]; exact xorI a1 128) (upd z 9 0) (fun e0 => absurd (by unfold oPut; rw [if_neg e12]) e0) (fun e0 σ2 C7 h3 h2 f2 => ?_) )
  · show AW G κ _ _ 38 _ _ _
    have hT2 := h1.setMain f2 h3
    obtain ⟨t2, q2, p2, tr2, g2, hc2⟩ := h3
    have e6 : (oPut (upd z 9 0) (B 0) 0 y 128 (y ^^^ 128)).2.1 11 = C7.2.1 1 := (oPut_6 e0).trans h2.1.2.2.2.2.2.1
    have hV2 : RV (oPut (upd z 9 0) (B 0) 0 y 128 (y ^^^ 128)).2.2 n s := by rw [a3, show (128 : Int32) = nI 128 from rfl, xorI]; exact rv_put hV (fun q _ _ => Nat.zero_le q) (by omega) (by decide) (xr_255 (by omega) (by decide))
    have hT3 := hR.op (oPut (upd z 9 0) (B 0) 0 y 128 (y ^^^ 128)) e0 (fun j h9 h11 => oPut_zz h9 h11) hz hk hV2 h2
    have hq := hq e0 σ2 c1 ⟨n, s, C7, n2, C2, _, _, _, b, l, cd, og, hs, out, ol, hT2, hT3⟩ (f1.tr (h1.ea (i := 0) (by decide) f2))
    rw [e6] at hq
    refine sX12_stop_38i hΓ ?_
    refine sX12_stop_39 hΓ rfl ?_
    refine sX12_stop_40 hΓ hT2.o rfl ?_
    refine sX12_stop_43 hΓ g2.o rfl ?_
    refine sX12_stop_46 hΓ g2.qg.1 rfl ?_
    exact sX12_stop_49 hΓ hq
theorem tq_setShort (hΓ : Ok G κ mX12_setShort (d + 8) Q X) (h : TD G σ c x A am n C n2 C2 Nh Ch u b l cd og hs out ol) (hR : TR z B n s C n2 C2 Nh Ch u b l cd og hs out ol) {k : Nat} (hk : k ≤ 8) (hu : u = nI k) (hz : z 8 = nI k) {w : Int32} (hw : w = 0 ∨ w = 1) (hx1 : ¬ (oShort z (B 0) s y w).1 = 0 → X "java/lang/IndexOutOfBoundsException" σ) (hq : (oShort z (B 0) s y w).1 = 0 → ∀ (σ1 : Hp) (c1 : Nat → Nat), RLx G σ1 c1 x A am (fZ (oShort z (B 0) s y w) k) (fB B (oShort z (B 0) s y w) k) → KF (NA am) σ c σ1 c1 → Q (some (.int ((oShort z (B 0) s y w).2.1 11))) σ1) : AW G κ (cs + 7 + 1) (ss + 96 + 6) 0 [lR x, lI y, lI w] [] σ := by
  obtain ⟨⟨hV, hC⟩, -⟩ := id hR
  obtain ⟨t, q, p, tr, g, hc⟩ := h.m
  subst hu
  obtain ⟨bb, hb⟩ : ∃ bb : Bool, w = bI bb := by rcases hw with e | e; exact ⟨false, e⟩; exact ⟨true, e⟩
  refine sX12_setShort_0 hΓ rfl ?_
  refine sX12_setShort_1 hΓ rfl ?_
  refine sX12_setShort_2 hΓ 1 6 (Nat.le_of_ble_eq_true rfl) h.o (fun κ_2 hΓ_2 => tx_reqSection hΓ_2 h.o g hV hC (fun e => hx1 (by unfold oShort; rw [e]; exact (show ¬ (1 : Int32) = 0 by decide))) (fun eS => ?_) )
  show AW G κ _ _ 5 _ _ _
  refine sX12_setShort_5 hΓ rfl ?_
  refine sX12_setShort_6 hΓ h.o rfl ?_
  refine sX12_setShort_9 hΓ rfl ?_
  refine sX12_setShort_10 hΓ h.o rfl ?_
  refine sX12_setShort_13 hΓ 7 96 (Nat.le_of_ble_eq_true rfl) h.2.2.1.choose_spec.1.choose_spec.1 (fun κ_13 hΓ_13 => td_remember hΓ_13 h hk (fun σ1 c1 h1 f1 r1 => ?_) )
  show AW G κ _ _ 16 _ _ _
  obtain ⟨t1, q1, p1, tr1, g1, hc1⟩ := h1.m
  refine sX12_setShort_16 hΓ rfl ?_
  refine sX12_setShort_17 hΓ h1.o rfl ?_
  refine sX12_setShort_20 hΓ rfl ?_
  refine sX12_setShort_21 hΓ rfl ?_
  refine sX12_setShort_22 hΓ 0 0 (Nat.le_of_ble_eq_true rfl) g1.o (fun κ_22 hΓ_22 => sc_short hΓ_22 h1.m hV hC hb z (fun e0 => absurd (by unfold oShort; rw [if_pos eS]) e0) (fun e0 σ2 C7 h3 h2 f2 => ?_) )
  · show AW G κ _ _ 25 _ _ _
    have hT2 := h1.setMain f2 h3
    obtain ⟨t2, q2, p2, tr2, g2, hc2⟩ := h3
    have eo : oShort z (B 0) s y w = (0, upd z 11 (rCnt (upd (B 0) (34 + y.toNatClampNeg) w) 34 s), upd (B 0) (34 + y.toNatClampNeg) w) := if_pos eS
    have hs4 := hV.s4
    obtain ⟨j, hj, ej⟩ := rIn_nI (n := s) (by omega) (by rw [← hs4.1]; exact eS)
    have hV2 : RV (oShort z (B 0) s y w).2.2 n s := by rw [eo, hb, ej, nI_clamp (by omega)]; exact hV.sec (by omega) bb
    have e6 : (oShort z (B 0) s y w).2.1 11 = bcI (C7.1 3) := by
      rw [bk_cnt hV2 (Or.inr rfl) h2.2.1.2 (fun j h1 h2' => (h2.2.2.1 j h1 h2').2), eo]
      exact upd_same z 11 (rCnt (upd (B 0) (34 + y.toNatClampNeg) w) 34 s)
    have hT3 := hR.op (oShort z (B 0) s y w) e0 (fun j h9 h11 => by rw [eo]; exact upd_ne h11) hz hk hV2 h2
    have hq := hq e0 σ2 c1 ⟨n, s, C7, n2, C2, _, _, _, b, l, cd, og, hs, out, ol, hT2, hT3⟩ (f1.tr (h1.ea (i := 0) (by decide) f2))
    rw [e6] at hq
    refine sX12_setShort_25i hΓ ?_
    refine sX12_setShort_26 hΓ rfl ?_
    refine sX12_setShort_27 hΓ hT2.o rfl ?_
    refine sX12_setShort_30 hΓ g2.o rfl ?_
    refine sX12_setShort_33 hΓ 0 0 (Nat.le_of_ble_eq_true rfl) (fun κ_33 hΓ_33 => sj_bitCount hΓ_33 ?_)
    show AW G κ _ _ 36 _ _ _
    exact sX12_setShort_36 hΓ hq
theorem tq_clearQueue (hΓ : Ok G κ mX12_clearQueue (d + 6) Q X) (h : TD G σ c x A am n C n2 C2 Nh Ch u b l cd og hs out ol) (hR : TR z B n s C n2 C2 Nh Ch u b l cd og hs out ol) {k : Nat} (hk : k ≤ 8) (hu : u = nI k) (hz : z 8 = nI k) (hq : ∀ (σ1 : Hp) (c1 : Nat → Nat), RLx G σ1 c1 x A am (fZ (oClear z (B 0)) k) (fB B (oClear z (B 0)) k) → KF (NA am) σ c σ1 c1 → Q (some (.int ((oClear z (B 0)).2.1 11))) σ1) : AW G κ (cs + 7) (ss + 96) 0 [lR x] [] σ := by
  obtain ⟨⟨hV, hC⟩, -⟩ := id hR
  obtain ⟨t, q, p, tr, g, hc⟩ := h.m
  subst hu
  refine sX12_clearQueue_0 hΓ rfl ?_
  refine sX12_clearQueue_1 hΓ h.o rfl ?_
  refine sX12_clearQueue_4 hΓ rfl ?_
  refine sX12_clearQueue_5 hΓ h.o rfl ?_
  refine sX12_clearQueue_8 hΓ 7 96 (Nat.le_of_ble_eq_true rfl) h.2.2.1.choose_spec.1.choose_spec.1 (fun κ_8 hΓ_8 => td_remember hΓ_8 h hk (fun σ1 c1 h1 f1 r1 => ?_) )
  show AW G κ _ _ 11 _ _ _
  obtain ⟨t1, q1, p1, tr1, g1, hc1⟩ := h1.m
  refine sX12_clearQueue_11 hΓ rfl ?_
  refine sX12_clearQueue_12 hΓ h1.o rfl ?_
  refine sX12_clearQueue_15 hΓ g1.o rfl ?_
  refine sX12_clearQueue_18 hΓ 0 0 (Nat.le_of_ble_eq_true rfl) g1.qg.1 (fun κ_18 hΓ_18 => su_clear hΓ_18 g1.qg (fun σ2 h2 f2 => ?_) )
  show AW G κ _ _ 21 _ _ _
  obtain ⟨g2, f3⟩ := g1.setQ h2 f2
  have h3 : RY G σ2 c1 (A 0) n (C.1, uClear C.2.1, C.2.2) := ⟨t1, q1, p1, tr1, g2, hc1⟩
  have f4 := f3.kf hc1 g2
  have hT3 := hR.op (oClear z (B 0)) rfl (fun j h9 h11 => upd_ne h11) hz hk hV.clear (clear_cr hC hV.n6)
  have hq := hq σ2 c1 ⟨n, s, _, n2, C2, _, _, _, b, l, cd, og, hs, out, ol, h1.setMain f4 h3, hT3⟩ (f1.tr (h1.ea (i := 0) (by decide) f4))
  rw [show (oClear z (B 0)).2.1 11 = C.2.1 1 from (show upd z 11 (B 0 6) 11 = C.2.1 1 by rw [upd_same]; exact hC.1.2.2.2.2.2.1)] at hq
  exact sX12_clearQueue_21 hΓ hq
end Rel
