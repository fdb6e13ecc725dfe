section NumRules
variable {G : Gl} {κ : Kx} {M : Mx} {d : Nat} {Q Q2 : Option Value → Hp → Prop} {X : String → Hp → Prop} {cs ss pc : Nat} {L : List (Option LV)} {st : List Value} {σ : Hp}
theorem aw_ddiv (hΓ : Ok G κ M d Q X) {x y : UInt64} (hd : decode (mB M) pc = .ok (.ddiv, 1)) (hne : fo_d (FP.ddiv x y)) (k : AW G κ cs ss (pc + 1) L (.double (FP.ddiv x y) :: st) σ) : AW G κ cs ss pc L (.double y :: .double x :: st) σ := aw_of hΓ (fun hx hb k => lv_ddiv hx hb hd (fo_n64 hne) k) k
theorem aw_fdiv (hΓ : Ok G κ M d Q X) {x y : UInt32} (hd : decode (mB M) pc = .ok (.fdiv, 1)) (hne : fo_s (FP.fdiv x y)) (k : AW G κ cs ss (pc + 1) L (.float (FP.fdiv x y) :: st) σ) : AW G κ cs ss pc L (.float y :: .float x :: st) σ := aw_of hΓ (fun hx hb k => lv_fdiv hx hb hd (fo_n32 hne) k) k
end NumRules
def fo_sh (o r : Int32) : UInt32 := if r = 0 then FP.fconst0 else FP.fdiv (FP.i2f o) (FP.i2f r)
theorem fo_sh_s {o r : Int32} : fo_s (fo_sh o r) := by
  unfold fo_sh
  by_cases h : r = 0
  · rw [if_pos h]; exact fo_f0
  · rw [if_neg h]; exact fo_fdiv h
section NumCalls
variable {G : Gl} {κ : Kx} {d : Nat} {Q : Option Value → Hp → Prop} {X : String → Hp → Prop} {cs ss : Nat} {σ : Hp} {A : Nat → Nat} {x n : Nat}
theorem tn_meanSpeed {hs ol : Int32} {t q p s : Nat} {tr : Nat → Nat} {C : Ct} {ρ : Nat → Int32} (hΓ : Ok G κ mX12_meanSpeed (d + 2) Q X) (hX : σ x = some (.inr (10, tdV A hs ol))) (g : RG G σ (A 0) t q p tr n C.1 C.2.1 C.2.2.1 C.2.2.2) (hV : RV ρ n s) (hC : CR ρ n s C) (hq : Q (some (.double (FP.ddiv (FP.i2d (rSum ρ 5 n)) (FP.i2d (nI n))))) σ) : AW G κ cs ss 0 [lR x, none] [] σ := by
  have h0 : nI n ≠ 0 := fun e => by
    have h1 := (nI_eq (show n < 2 ^ 31 by have := hV.n6; omega) (show 0 < 2 ^ 31 by omega)).mp e
    have h2 := hV.2.1
    omega
  refine sX12_meanSpeed_0 hΓ rfl ?_
  refine sX12_meanSpeed_1 hΓ hX rfl ?_
  refine sX12_meanSpeed_4 hΓ g.o rfl ?_
  refine sX12_meanSpeed_7q hΓ (Or.inr rfl) g.ts ?_
  refine sX12_meanSpeed_8 hΓ ?_
  refine sX12_meanSpeed_9 hΓ rfl ?_
  refine sX12_meanSpeed_10 hΓ (fun _ => ?_) (fun c => absurd c h0)
  refine sX12_meanSpeed_17 hΓ rfl ?_
  refine sX12_meanSpeed_18 hΓ hX rfl ?_
  refine sX12_meanSpeed_21 hΓ 0 0 (Nat.le_of_ble_eq_true rfl) g.o (fun κ2 h2 => sr_sumOfSpeeds h2 g ?_)
  show AW G κ _ _ 24 _ _ _
  refine aw_i2d hΓ dX12_meanSpeed_24 ?_
  refine sX12_meanSpeed_25 hΓ rfl ?_
  refine aw_i2d hΓ dX12_meanSpeed_26 ?_
  refine aw_ddiv hΓ dX12_meanSpeed_27 (fo_ddiv h0) ?_
  exact aw_dreturn hΓ dX12_meanSpeed_28 rfl (by rw [sum_tw (by decide) hC.2.2.2.1]; exact hq)
theorem tn_obeyedShare {hs ol : Int32} {t q p s : Nat} {tr : Nat → Nat} {C : Ct} {ρ : Nat → Int32} (hΓ : Ok G κ mX12_obeyedShare (d + 3) Q X) (hX : σ x = some (.inr (10, tdV A hs ol))) (g : RG G σ (A 0) t q p tr n C.1 C.2.1 C.2.2.1 C.2.2.2) (hC : CR ρ n s C) (hq : Q (some (.float (fo_sh (rSum ρ 11 n) (rSum ρ 11 n + rSum ρ 12 n + rSum ρ 13 n)))) σ) : AW G κ cs ss 0 [lR x, none] [] σ := by
  rw [← sum_tw (T := C.2.2.2) (w := 11) (by decide) hC.2.2.2.1, ← sum_tw (T := C.2.2.2) (w := 12) (by decide) hC.2.2.2.1] at hq
  rw [show cSum C.2.2.2 11 n + cSum C.2.2.2 12 n + rSum ρ 13 n = cRecd C.2.2.2 n by rw [recd_tw hC.2.2.2.1, sum_tw (by decide) hC.2.2.2.1, sum_tw (by decide) hC.2.2.2.1]] at hq
  refine sX12_obeyedShare_0 hΓ rfl ?_
  refine sX12_obeyedShare_1 hΓ hX rfl ?_
  refine sX12_obeyedShare_4 hΓ 0 0 (Nat.le_of_ble_eq_true rfl) g.o (fun κ2 h2 => sr_sumOfReceived h2 g ?_)
  show AW G κ _ _ 7 _ _ _
  refine sX12_obeyedShare_7 hΓ ?_
  refine sX12_obeyedShare_8 hΓ rfl ?_
  refine sX12_obeyedShare_9 hΓ (fun c9 => ?_) (fun c9 => ?_)
  · refine sX12_obeyedShare_16 hΓ rfl ?_
    refine sX12_obeyedShare_17 hΓ hX rfl ?_
    refine sX12_obeyedShare_20 hΓ 0 0 (Nat.le_of_ble_eq_true rfl) g.o (fun κ2 h2 => sr_sumOfObeyed h2 g ?_)
    show AW G κ _ _ 23 _ _ _
    refine aw_i2f hΓ dX12_obeyedShare_23 ?_
    refine sX12_obeyedShare_24 hΓ rfl ?_
    refine aw_i2f hΓ dX12_obeyedShare_25 ?_
    refine aw_fdiv hΓ dX12_obeyedShare_26 (fo_fdiv c9) ?_
    rw [fo_sh, if_neg c9] at hq
    exact aw_freturn hΓ dX12_obeyedShare_27 rfl hq
  · refine aw_fconst0 hΓ dX12_obeyedShare_12 ?_
    refine sX12_obeyedShare_13 hΓ ?_
    rw [fo_sh, if_pos c9] at hq
    exact aw_freturn hΓ dX12_obeyedShare_27 rfl hq
end NumCalls
