/-! the law: act, whole -/
section LawAct2
variable {G : Gl} {κ : Kx} {d : Nat} {Q : Option Value → Hp → Prop} {X : String → Hp → Prop} {cs ss pc : Nat} {σ σ1 : Hp} {c c1 A : Nat → Nat} {x am n s τ k q m kk ad wc mk : Nat} {z z1 : Nat → Int32} {B B1 : Nat → Nat → Int32} {F F1 : Hp} {v w2 u : Int32} {ρ : Nat → Int32} {C : Ct}
theorem act_pre (hΓ : Ok G κ mL_act (d + 10) Q X) (hS : LwS G σ c x am A z B F) (h : GR (B 0) n s τ) (h6 : B 0 6 = nI q) (kx : AW G κ cs ss 50 [lR x, lI v, lI (nI (mo v 24)), lI (aU v), lI (nI (mo (aU v) n)), lI (nI q), lI (nI (aA (B 0) n (aU v))), none, none, none, none, none, none, none, none, none] [] σ) : AW G κ (cs + 1) (ss + 6) 0 [lR x, lI v, none, none, none, none, none, none, none, none, none, none, none, none, none, none] [] σ := by
  obtain ⟨fs, ho⟩ := hS.o
  have hn6 := h.1.n6
  have hn1 : 1 ≤ n := h.1.2.1
  have go : ∀ y : Int32, y = nI (aA (B 0) n (aU v)) → AW G κ cs ss 48 [lR x, lI v, lI (nI (mo v 24)), lI (aU v), lI (nI (mo (aU v) n)), lI (nI q), none, none, none, none, none, none, none, none, none, none] [.int y] σ := fun y hy => by
    subst hy
    refine sL_act_48 hΓ ?_
    exact kx
  refine sL_act_0 hΓ rfl ?_
  refine sL_act_1 hΓ ?_
  refine sL_act_3 hΓ 0 0 (Nat.le_of_ble_eq_true rfl) (fun κ_3 hΓ_3 => lm_most hΓ_3 (m := 24) (by decide) (by decide) ?_)
  show AW G κ _ _ 6 _ _ _
  refine sL_act_6 hΓ ?_
  refine sL_act_7 hΓ rfl ?_
  refine sL_act_8 hΓ ?_
  refine sL_act_9 hΓ ?_
  refine sL_act_10 hΓ ?_
  refine sL_act_11 hΓ rfl ?_
  refine sL_act_12 hΓ rfl ?_
  refine sL_act_13 hΓ 0 0 (Nat.le_of_ble_eq_true rfl) ho (fun κ_13 hΓ_13 => ct_trainCount hΓ_13 hS h.1 ?_)
  show AW G κ _ _ 16 _ _ _
  rw [h.1.1.1.1]
  refine sL_act_16 hΓ 0 0 (Nat.le_of_ble_eq_true rfl) (fun κ_16 hΓ_16 => lm_most hΓ_16 (m := n) hn1 (by omega) ?_)
  show AW G κ _ _ 19 _ _ _
  refine sL_act_19 hΓ ?_
  refine sL_act_21 hΓ rfl ?_
  refine sL_act_22 hΓ 0 0 (Nat.le_of_ble_eq_true rfl) ho (fun κ_22 hΓ_22 => ct_queueLength hΓ_22 hS h.1 ?_)
  show AW G κ _ _ 25 _ _ _
  rw [h6]
  refine sL_act_25 hΓ ?_
  refine sL_act_27 hΓ rfl ?_
  refine sL_act_28 hΓ ?_
  refine sL_act_29 hΓ ?_
  refine sL_act_30 hΓ ?_
  refine sL_act_32 hΓ 0 0 (Nat.le_of_ble_eq_true rfl) (fun κ_32 hΓ_32 => lm_most hΓ_32 (m := 6) (by decide) (by decide) ?_)
  show AW G κ _ _ 35 _ _ _
  refine sL_act_35 hΓ (fun c35 => ?_) (fun c35 => ?_)
  · refine sL_act_42 hΓ rfl ?_
    refine sL_act_43 hΓ rfl ?_
    refine sL_act_45 hΓ 1 6 (Nat.le_of_ble_eq_true rfl) ho (fun κ_45 hΓ_45 => ct_address hΓ_45 hS h.1 (mo_lt _ hn1) ?_)
    show AW G κ _ _ 48 _ _ _
    exact go _ ((aA_le h (aU v)).2 (fun e9 => c35 (congrArg nI e9)))
  · refine aw_less (cs2 := cs) (ss2 := ss) (by omega) (by omega) ?_
    have e0 : aA (B 0) n (aU v) = 0 := if_pos ((nI_eq (b := 0) (Nat.lt_trans (mo_lt _ (by decide)) (by decide)) (by decide)).mp c35)
    refine sL_act_38 hΓ ?_
    refine sL_act_39 hΓ ?_
    exact go _ (by rw [e0]; rfl)
theorem lm_act {ρ : Nat → Int32} {n s τ : Nat} {C : Ct} (h : GR ρ n s τ) (hC : CR ρ n s C) (hτ : τ + 60 ≤ 10000) (v : Int32) : ∃ (ch : Bool) (ρ1 : Nat → Int32) (τ1 : Nat), GR ρ1 n s τ1 ∧ τ1 ≤ τ + 60 ∧ (ch = false → ρ1 = ρ) ∧ ∀ (G : Gl) (κ : Kx) (d : Nat) (Q : Option Value → Hp → Prop) (X : String → Hp → Prop) (cs ss : Nat) (σ : Hp) (c : Nat → Nat) (x am : Nat) (A : Nat → Nat) (z : Nat → Int32) (B : Nat → Nat → Int32) (F : Hp) (kk : Nat), Ok G κ mL_act (d + 10) Q X → LwS G σ c x am A z B F → B 0 = ρ → kk ≤ 8 → z 8 = nI kk → (∀ (σ1 : Hp) (c1 : Nat → Nat) (z1 : Nat → Int32) (B1 : Nat → Nat → Int32), LwS G σ1 c1 x am A z1 B1 F → AcO ρ ρ1 ch kk z B z1 B1 → Q (some (.int 1)) σ1) → AW G κ (cs + 220) (ss + 1200) 0 [lR x, lI v, none, none, none, none, none, none, none, none, none, none, none, none, none, none] [] σ := by
  obtain ⟨q, hq12, h6⟩ := h.1.ql
  have hn6 := h.1.n6
  have hn1 : 1 ≤ n := h.1.2.1
  have hs12 := h.2.2.2.1.1
  have hw := mo_lt v (m := 24) (by decide)
  have hk := mo_lt (aU v) hn1
  obtain ⟨ha, -⟩ := aA_le h (aU v)
  by_cases c9 : mo v 24 < 9
  · by_cases cq : q = 12
    · subst cq
      refine ⟨true, upd (upd ρ 9 (ρ 9 + ρ 6)) 6 0, τ, h.clear, by omega, (fun e => by cases e), fun G κ d Q X cs ss σ c x am A z B F kk hΓ hS eB hk8 hz8 hq => ?_⟩
      subst eB
      obtain ⟨fs, ho⟩ := hS.o
      refine aw_less (cs2 := cs + 7 + 1) (ss2 := ss + 96 + 6) (by omega) (by omega) ?_
      refine act_pre hΓ hS h h6 ?_
      refine sL_act_50 hΓ rfl ?_
      refine sL_act_51 hΓ ?_
      refine sL_act_53 hΓ (fun c53 => absurd c53 (show ¬ nI 9 ≤ nI (mo v 24) from nI_ge (by omega) (by omega))) (fun c53 => ?_)
      refine sL_act_56 hΓ rfl ?_
      refine sL_act_58 hΓ ?_
      refine sL_act_60 hΓ (fun c60 => absurd rfl c60) (fun c60 => ?_)
      exact br_clear hΓ hS h hk8 hz8 h6 hq
    · have hqn : q < 12 := by omega
      by_cases c2 : mo v 24 < 2
      · have hwc : aS (aU v) 3 256 ≤ 255 := Nat.le_of_lt_succ (mo_lt _ (by decide))
        have hmk : (if aS (aU v) 5 3 = 0 then aS (aU v) 4 256 else aA ρ n (aU v) ^^^ aS (aU v) 3 256) ≤ 255 := by
          split
          · exact Nat.le_of_lt_succ (mo_lt _ (by decide))
          · have := Nat.xor_lt_two_pow (n := 8) (show aA ρ n (aU v) < 2 ^ 8 by omega) (show aS (aU v) 3 256 < 2 ^ 8 by omega)
            omega
        refine ⟨true, rPut ρ q (nI (aA ρ n (aU v))) (nI (aS (aU v) 3 256)) (nI (if aS (aU v) 5 3 = 0 then aS (aU v) 4 256 else aA ρ n (aU v) ^^^ aS (aU v) 3 256)), τ, h.put h6 hqn (Nat.le_refl q) (by omega) hwc hmk, by omega, (fun e => by cases e), fun G κ d Q X cs ss σ c x am A z B F kk hΓ hS eB hk8 hz8 hq => ?_⟩
        subst eB
        obtain ⟨fs, ho⟩ := hS.o
        refine aw_less (cs2 := cs + 2 + 1 + 1 + 11 + 2 + 1) (ss2 := ss + 12 + 6 + 6 + 120 + 12 + 6) (by omega) (by omega) ?_
        refine act_pre hΓ hS h h6 ?_
        have go : ∀ y : Int32, y = nI (if aS (aU v) 5 3 = 0 then aS (aU v) 4 256 else aA (B 0) n (aU v) ^^^ aS (aU v) 3 256) → AW G κ (cs + 2 + 1 + 1 + 11) (ss + 12 + 6 + 6 + 120) 131 [lR x, lI v, lI (nI (mo v 24)), lI (aU v), lI (nI (mo (aU v) n)), lI (nI q), lI (nI (aA (B 0) n (aU v))), lI (nI (aS (aU v) 3 256)), none, none, none, none, none, none, none, none] [.int y] σ := fun y hy => by
          subst hy
          exact br_send hΓ hS h hk8 hz8 h6 hq12 hqn ha hwc hmk hq
        have z3 : nI (mo (aU v >>> ((5 : Int32) &&& 31)) 3) = 0 ↔ aS (aU v) 5 3 = 0 := nI_eq (b := 0) (Nat.lt_trans (mo_lt _ (by decide)) (by decide)) (by decide)
        refine sL_act_50 hΓ rfl ?_
        refine sL_act_51 hΓ ?_
        refine sL_act_53 hΓ (fun c53 => absurd c53 (show ¬ nI 9 ≤ nI (mo v 24) from nI_ge (by omega) (by omega))) (fun c53 => ?_)
        refine sL_act_56 hΓ rfl ?_
        refine sL_act_58 hΓ ?_
        refine sL_act_60 hΓ (fun c60 => ?_) (fun c60 => absurd c60 (fun e => cq ((nI_eq (a := q) (b := 12) (by omega) (by decide)).mp e)))
        refine sL_act_85 hΓ rfl ?_
        refine sL_act_86 hΓ ?_
        refine sL_act_87 hΓ (fun c87 => absurd c87 (show ¬ nI 2 ≤ nI (mo v 24) from nI_ge (by omega) (by omega))) (fun c87 => ?_)
        refine sL_act_90 hΓ rfl ?_
        refine sL_act_91 hΓ ?_
        refine sL_act_92 hΓ ?_
        refine sL_act_93 hΓ ?_
        refine sL_act_96 hΓ 0 0 (Nat.le_of_ble_eq_true rfl) (fun κ_96 hΓ_96 => lm_most hΓ_96 (m := 256) (by decide) (by decide) ?_)
        show AW G κ _ _ 99 _ _ _
        refine sL_act_99 hΓ ?_
        refine sL_act_101 hΓ rfl ?_
        refine sL_act_102 hΓ ?_
        refine sL_act_103 hΓ ?_
        refine sL_act_104 hΓ ?_
        refine sL_act_105 hΓ 0 0 (Nat.le_of_ble_eq_true rfl) (fun κ_105 hΓ_105 => lm_most hΓ_105 (m := 3) (by decide) (by decide) ?_)
        show AW G κ _ _ 108 _ _ _
        refine sL_act_108 hΓ (fun c108 => ?_) (fun c108 => ?_)
        · refine sL_act_123 hΓ rfl ?_
          refine sL_act_124 hΓ rfl ?_
          refine sL_act_126 hΓ rfl ?_
          refine sL_act_128 hΓ 2 12 (Nat.le_of_ble_eq_true rfl) ho (fun κ_128 hΓ_128 => ct_checkOf hΓ_128 hS h.1 (byte_n (show aA (B 0) n (aU v) ≤ 255 by omega)) (byte_n hwc) ?_)
          show AW G κ _ _ 131 _ _ _
          exact go _ (by rw [if_neg (fun e9 => c108 (z3.mpr e9))]; exact xorI _ _)
        · refine aw_less (cs2 := cs + 2 + 1 + 1 + 11) (ss2 := ss + 12 + 6 + 6 + 120) (by omega) (by omega) ?_
          refine sL_act_111 hΓ rfl ?_
          refine sL_act_112 hΓ ?_
          refine sL_act_113 hΓ ?_
          refine sL_act_114 hΓ ?_
          refine sL_act_117 hΓ 0 0 (Nat.le_of_ble_eq_true rfl) (fun κ_117 hΓ_117 => lm_most hΓ_117 (m := 256) (by decide) (by decide) ?_)
          show AW G κ _ _ 120 _ _ _
          refine sL_act_120 hΓ ?_
          exact go _ (by rw [if_pos (z3.mp c108)]; rfl)
      · by_cases c7 : mo v 24 < 7
        · have hwc : aS (aU v) 3 29 ≤ 28 := Nat.le_of_lt_succ (mo_lt _ (by decide))
          refine ⟨true, rPut ρ q (nI (aA ρ n (aU v))) (nI (aS (aU v) 3 29)) (nI (aA ρ n (aU v)) ^^^ nI (aS (aU v) 3 29)), τ, (by rw [xorI]; exact h.put h6 hqn (Nat.le_refl q) (show aA ρ n (aU v) ≤ 255 by omega) (show aS (aU v) 3 29 ≤ 255 by omega) (by have := Nat.xor_lt_two_pow (n := 8) (show aA ρ n (aU v) < 2 ^ 8 by omega) (show aS (aU v) 3 29 < 2 ^ 8 by omega); omega)), by omega, (fun e => by cases e), fun G κ d Q X cs ss σ c x am A z B F kk hΓ hS eB hk8 hz8 hq => ?_⟩
          subst eB
          obtain ⟨fs, ho⟩ := hS.o
          refine aw_less (cs2 := cs + 1 + 1 + 1 + 10 + 1) (ss2 := ss + 6 + 6 + 6 + 114 + 6) (by omega) (by omega) ?_
          refine act_pre hΓ hS h h6 ?_
          refine sL_act_50 hΓ rfl ?_
          refine sL_act_51 hΓ ?_
          refine sL_act_53 hΓ (fun c53 => absurd c53 (show ¬ nI 9 ≤ nI (mo v 24) from nI_ge (by omega) (by omega))) (fun c53 => ?_)
          refine sL_act_56 hΓ rfl ?_
          refine sL_act_58 hΓ ?_
          refine sL_act_60 hΓ (fun c60 => ?_) (fun c60 => absurd c60 (fun e => cq ((nI_eq (a := q) (b := 12) (by omega) (by decide)).mp e)))
          refine sL_act_85 hΓ rfl ?_
          refine sL_act_86 hΓ ?_
          refine sL_act_87 hΓ (fun c87 => ?_) (fun c87 => absurd (show nI 2 ≤ nI (mo v 24) from nI_le (by omega) (by omega)) c87)
          refine sL_act_194 hΓ rfl ?_
          refine sL_act_195 hΓ ?_
          refine sL_act_197 hΓ (fun c197 => absurd c197 (show ¬ nI 7 ≤ nI (mo v 24) from nI_ge (by omega) (by omega))) (fun c197 => ?_)
          exact br_speed hΓ hS h hk8 hz8 h6 hq12 hqn ha rfl hq
        · by_cases c8 : mo v 24 = 7
          · have hwc : aS (aU v) 3 16 ≤ 15 := Nat.le_of_lt_succ (mo_lt _ (by decide))
            refine ⟨true, rPut ρ q (nI (aA ρ n (aU v))) (nI (64 + aS (aU v) 3 16)) (nI (aA ρ n (aU v)) ^^^ nI (64 + aS (aU v) 3 16)), τ, (by rw [xorI]; exact h.put h6 hqn (Nat.le_refl q) (show aA ρ n (aU v) ≤ 255 by omega) (show 64 + aS (aU v) 3 16 ≤ 255 by omega) (by have := Nat.xor_lt_two_pow (n := 8) (show aA ρ n (aU v) < 2 ^ 8 by omega) (show 64 + aS (aU v) 3 16 < 2 ^ 8 by omega); omega)), by omega, (fun e => by cases e), fun G κ d Q X cs ss σ c x am A z B F kk hΓ hS eB hk8 hz8 hq => ?_⟩
            subst eB
            obtain ⟨fs, ho⟩ := hS.o
            refine aw_less (cs2 := cs + 1 + 1 + 10 + 1) (ss2 := ss + 6 + 6 + 114 + 6) (by omega) (by omega) ?_
            refine act_pre hΓ hS h h6 ?_
            refine sL_act_50 hΓ rfl ?_
            refine sL_act_51 hΓ ?_
            refine sL_act_53 hΓ (fun c53 => absurd c53 (show ¬ nI 9 ≤ nI (mo v 24) from nI_ge (by omega) (by omega))) (fun c53 => ?_)
            refine sL_act_56 hΓ rfl ?_
            refine sL_act_58 hΓ ?_
            refine sL_act_60 hΓ (fun c60 => ?_) (fun c60 => absurd c60 (fun e => cq ((nI_eq (a := q) (b := 12) (by omega) (by decide)).mp e)))
            refine sL_act_85 hΓ rfl ?_
            refine sL_act_86 hΓ ?_
            refine sL_act_87 hΓ (fun c87 => ?_) (fun c87 => absurd (show nI 2 ≤ nI (mo v 24) from nI_le (by omega) (by omega)) c87)
            refine sL_act_194 hΓ rfl ?_
            refine sL_act_195 hΓ ?_
            refine sL_act_197 hΓ (fun c197 => ?_) (fun c197 => absurd (show nI 7 ≤ nI (mo v 24) from nI_le (by omega) (by omega)) c197)
            refine sL_act_262 hΓ rfl ?_
            refine sL_act_263 hΓ ?_
            refine sL_act_265 hΓ (fun c265 => absurd (congrArg nI c8) c265) (fun c265 => ?_)
            exact br_lamp hΓ hS h hk8 hz8 h6 hq12 hqn ha rfl hq
          · skip
            refine ⟨true, rPut ρ 0 (nI (aA ρ n (aU v))) (nI 128) (nI (aA ρ n (aU v)) ^^^ nI 128), τ, (by rw [xorI]; exact h.put h6 hqn (Nat.zero_le q) (show aA ρ n (aU v) ≤ 255 by omega) (show 128 ≤ 255 by omega) (by have := Nat.xor_lt_two_pow (n := 8) (show aA ρ n (aU v) < 2 ^ 8 by omega) (show 128 < 2 ^ 8 by omega); omega)), by omega, (fun e => by cases e), fun G κ d Q X cs ss σ c x am A z B F kk hΓ hS eB hk8 hz8 hq => ?_⟩
            subst eB
            obtain ⟨fs, ho⟩ := hS.o
            refine aw_less (cs2 := cs + 1 + 1 + 1 + 9 + 1) (ss2 := ss + 6 + 6 + 6 + 108 + 6) (by omega) (by omega) ?_
            refine act_pre hΓ hS h h6 ?_
            refine sL_act_50 hΓ rfl ?_
            refine sL_act_51 hΓ ?_
            refine sL_act_53 hΓ (fun c53 => absurd c53 (show ¬ nI 9 ≤ nI (mo v 24) from nI_ge (by omega) (by omega))) (fun c53 => ?_)
            refine sL_act_56 hΓ rfl ?_
            refine sL_act_58 hΓ ?_
            refine sL_act_60 hΓ (fun c60 => ?_) (fun c60 => absurd c60 (fun e => cq ((nI_eq (a := q) (b := 12) (by omega) (by decide)).mp e)))
            refine sL_act_85 hΓ rfl ?_
            refine sL_act_86 hΓ ?_
            refine sL_act_87 hΓ (fun c87 => ?_) (fun c87 => absurd (show nI 2 ≤ nI (mo v 24) from nI_le (by omega) (by omega)) c87)
            refine sL_act_194 hΓ rfl ?_
            refine sL_act_195 hΓ ?_
            refine sL_act_197 hΓ (fun c197 => ?_) (fun c197 => absurd (show nI 7 ≤ nI (mo v 24) from nI_le (by omega) (by omega)) c197)
            refine sL_act_262 hΓ rfl ?_
            refine sL_act_263 hΓ ?_
            refine sL_act_265 hΓ (fun c265 => ?_) (fun c265 => absurd ((nI_eq (a := mo v 24) (b := 7) (by omega) (by decide)).mp c265) c8)
            exact br_stop hΓ hS h hk8 hz8 h6 hq12 hqn ha hq
  · by_cases c11 : mo v 24 < 11
    · have hjs : mo (aU v) s < s := mo_lt _ (by have := h.1.s4.2.1; omega)
      refine ⟨true, upd ρ (34 + mo (aU v) s) (bI (0 == nI (aS (aU v) 3 3))), τ, h.short hjs _, by omega, (fun e => by cases e), fun G κ d Q X cs ss σ c x am A z B F kk hΓ hS eB hk8 hz8 hq => ?_⟩
      subst eB
      obtain ⟨fs, ho⟩ := hS.o
      refine aw_less (cs2 := cs + 1 + 8 + 1 * s + 1) (ss2 := ss + 6 + 102 + 6 * s + 6) (by omega) (by omega) ?_
      refine act_pre hΓ hS h h6 ?_
      refine sL_act_50 hΓ rfl ?_
      refine sL_act_51 hΓ ?_
      refine sL_act_53 hΓ (fun c53 => ?_) (fun c53 => absurd (show nI 9 ≤ nI (mo v 24) from nI_le (by omega) (by omega)) c53)
      refine sL_act_372 hΓ rfl ?_
      refine sL_act_373 hΓ ?_
      refine sL_act_375 hΓ (fun c375 => absurd c375 (show ¬ nI 11 ≤ nI (mo v 24) from nI_ge (by omega) (by omega))) (fun c375 => ?_)
      exact br_short hΓ hS h hk8 hz8 rfl eqI hq
    · by_cases c12 : mo v 24 = 11
      · have hm9 : aS (aU v) 2 127 < 127 := mo_lt _ (by decide)
        by_cases g : ρ (58 + 15 * mo (aU v) n + 5) = 0 ∧ rFirst ρ n 0 (nI (1 + aS (aU v) 2 127)) = none
        · refine ⟨true, upd ρ (58 + 15 * mo (aU v) n + 0) (nI (1 + aS (aU v) 2 127)), τ, h.addr hk (by omega) (by omega) g.2, by omega, (fun e => by cases e), fun G κ d Q X cs ss σ c x am A z B F kk hΓ hS eB hk8 hz8 hq => ?_⟩
          subst eB
          obtain ⟨fs, ho⟩ := hS.o
          refine aw_less (cs2 := cs + 1 + 10 + 1 + 1 + 1) (ss2 := ss + 6 + 114 + 6 + 6 + 6) (by omega) (by omega) ?_
          refine act_pre hΓ hS h h6 ?_
          refine sL_act_50 hΓ rfl ?_
          refine sL_act_51 hΓ ?_
          refine sL_act_53 hΓ (fun c53 => ?_) (fun c53 => absurd (show nI 9 ≤ nI (mo v 24) from nI_le (by omega) (by omega)) c53)
          refine sL_act_372 hΓ rfl ?_
          refine sL_act_373 hΓ ?_
          refine sL_act_375 hΓ (fun c375 => ?_) (fun c375 => absurd (show nI 11 ≤ nI (mo v 24) from nI_le (by omega) (by omega)) c375)
          refine sL_act_493 hΓ rfl ?_
          refine sL_act_494 hΓ ?_
          refine sL_act_496 hΓ (fun c496 => absurd (congrArg nI c12) c496) (fun c496 => ?_)
          exact br_read hΓ hS h hk8 hz8 hk rfl g.1 g.2 hq
        · refine ⟨false, ρ, τ, h, by omega, fun _ => rfl, fun G κ d Q X cs ss σ c x am A z B F kk hΓ hS eB hk8 hz8 hq => ?_⟩
          subst eB
          obtain ⟨fs, ho⟩ := hS.o
          refine aw_less (cs2 := cs + 1 + 1 + 1) (ss2 := ss + 6 + 6 + 6) (by omega) (by omega) ?_
          refine act_pre hΓ hS h h6 ?_
          refine sL_act_50 hΓ rfl ?_
          refine sL_act_51 hΓ ?_
          refine sL_act_53 hΓ (fun c53 => ?_) (fun c53 => absurd (show nI 9 ≤ nI (mo v 24) from nI_le (by omega) (by omega)) c53)
          refine sL_act_372 hΓ rfl ?_
          refine sL_act_373 hΓ ?_
          refine sL_act_375 hΓ (fun c375 => ?_) (fun c375 => absurd (show nI 11 ≤ nI (mo v 24) from nI_le (by omega) (by omega)) c375)
          refine sL_act_493 hΓ rfl ?_
          refine sL_act_494 hΓ ?_
          refine sL_act_496 hΓ (fun c496 => absurd (congrArg nI c12) c496) (fun c496 => ?_)
          exact br_read0 hΓ hS h hk8 hz8 hk rfl (fun e1 e2 => g ⟨e1, e2⟩) (hq σ c z B hS (AcO.no hz8))
      · by_cases c17 : mo v 24 < 17
        · refine ⟨true, rT n s ρ, (τ + 1), h.tick hC (by omega), by omega, (fun e => by cases e), fun G κ d Q X cs ss σ c x am A z B F kk hΓ hS eB hk8 hz8 hq => ?_⟩
          subst eB
          obtain ⟨fs, ho⟩ := hS.o
          refine aw_less (cs2 := cs + 200 + 1) (ss2 := ss + 1000 + 6) (by omega) (by omega) ?_
          refine act_pre hΓ hS h h6 ?_
          refine sL_act_50 hΓ rfl ?_
          refine sL_act_51 hΓ ?_
          refine sL_act_53 hΓ (fun c53 => ?_) (fun c53 => absurd (show nI 9 ≤ nI (mo v 24) from nI_le (by omega) (by omega)) c53)
          refine sL_act_372 hΓ rfl ?_
          refine sL_act_373 hΓ ?_
          refine sL_act_375 hΓ (fun c375 => ?_) (fun c375 => absurd (show nI 11 ≤ nI (mo v 24) from nI_le (by omega) (by omega)) c375)
          refine sL_act_493 hΓ rfl ?_
          refine sL_act_494 hΓ ?_
          refine sL_act_496 hΓ (fun c496 => ?_) (fun c496 => absurd ((nI_eq (a := mo v 24) (b := 11) (by omega) (by decide)).mp c496) c12)
          refine sL_act_567 hΓ rfl ?_
          refine sL_act_568 hΓ ?_
          refine sL_act_570 hΓ (fun c570 => absurd c570 (show ¬ nI 17 ≤ nI (mo v 24) from nI_ge (by omega) (by omega))) (fun c570 => ?_)
          refine sL_act_573 hΓ rfl ?_
          refine sL_act_574 hΓ 200 1000 (Nat.le_of_ble_eq_true rfl) (fun κ_574 hΓ_574 => ct_ltick hΓ_574 hS h (by omega) hk8 hz8 (fun σ1 c1 hS9 => ?_))
          show AW G κ _ _ 577 _ _ _
          obtain ⟨z1, B1, hS1, hA, eB⟩ := st_gen (z := z) (oWait_1 (z := upd z 9 0) h (by omega)) rfl hS9
          exact sL_act_577 hΓ (Or.inr rfl) (hq _ _ _ _ hS1 hA)
        · have hm60 : (1 + mo (aU v) (if aS (aU v) 3 3 = 0 then 60 else 9)) ≤ 60 := by
            split
            · have := mo_lt (aU v) (m := 60) (by decide); omega
            · have := mo_lt (aU v) (m := 9) (by decide); omega
          refine ⟨true, rPs n s ρ (1 + mo (aU v) (if aS (aU v) 3 3 = 0 then 60 else 9)), (τ + (1 + mo (aU v) (if aS (aU v) 3 3 = 0 then 60 else 9))), (GR.ticks h hC _ (by omega)).1, by omega, (fun e => by cases e), fun G κ d Q X cs ss σ c x am A z B F kk hΓ hS eB hk8 hz8 hq => ?_⟩
          subst eB
          obtain ⟨fs, ho⟩ := hS.o
          refine aw_less (cs2 := cs + 1 + 1 + 1 + 9 + 1 + 1 + 7 + 9 + 9 + 1) (ss2 := ss + 6 + 6 + 6 + 108 + 6 + 6 + 96 + 108 + 108 + 6) (by omega) (by omega) ?_
          refine act_pre hΓ hS h h6 ?_
          refine sL_act_50 hΓ rfl ?_
          refine sL_act_51 hΓ ?_
          refine sL_act_53 hΓ (fun c53 => ?_) (fun c53 => absurd (show nI 9 ≤ nI (mo v 24) from nI_le (by omega) (by omega)) c53)
          refine sL_act_372 hΓ rfl ?_
          refine sL_act_373 hΓ ?_
          refine sL_act_375 hΓ (fun c375 => ?_) (fun c375 => absurd (show nI 11 ≤ nI (mo v 24) from nI_le (by omega) (by omega)) c375)
          refine sL_act_493 hΓ rfl ?_
          refine sL_act_494 hΓ ?_
          refine sL_act_496 hΓ (fun c496 => ?_) (fun c496 => absurd ((nI_eq (a := mo v 24) (b := 11) (by omega) (by decide)).mp c496) c12)
          refine sL_act_567 hΓ rfl ?_
          refine sL_act_568 hΓ ?_
          refine sL_act_570 hΓ (fun c570 => ?_) (fun c570 => absurd (show nI 17 ≤ nI (mo v 24) from nI_le (by omega) (by omega)) c570)
          exact br_wait hΓ hS h hk8 hz8 hC h6 hq12 hk rfl hm60 (by omega) hq
end LawAct2
