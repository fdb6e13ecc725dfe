/-! the law: isRailway -/
theorem sL_isRailway_35d {G : Gl} {κ : Kx} {d : Nat} {Q : Option Value → Hp → Prop} {X : String → Hp → Prop} {cs ss : Nat} {L : List (Option LV)} {st : List Value} {σ : Hp} {x : Int32} (hΓ : Ok G κ mL_isRailway d Q X) (k : AW G κ cs ss 43 L (.int (if 0 ≤ x then 1 else 0) :: st) σ) : AW G κ cs ss 35 L (.int x :: st) σ := by
  refine sL_isRailway_35 hΓ (fun c => ?_) (fun c => ?_)
  · refine sL_isRailway_42 hΓ ?_
    rw [if_pos c] at k
    exact k
  · refine sL_isRailway_38 hΓ ?_
    refine sL_isRailway_39 hΓ ?_
    rw [if_neg c] at k
    exact k
theorem sL_isRailway_54d {G : Gl} {κ : Kx} {d : Nat} {Q : Option Value → Hp → Prop} {X : String → Hp → Prop} {cs ss : Nat} {L : List (Option LV)} {st : List Value} {σ : Hp} {x : Int32} (hΓ : Ok G κ mL_isRailway d Q X) (k : AW G κ cs ss 62 L (.int (if x = 0 then 0 else 1) :: st) σ) : AW G κ cs ss 54 L (.int x :: st) σ := by
  refine sL_isRailway_54 hΓ (fun c => ?_) (fun c => ?_)
  · refine sL_isRailway_61 hΓ ?_
    rw [if_pos c] at k
    exact k
  · refine sL_isRailway_57 hΓ ?_
    refine sL_isRailway_58 hΓ ?_
    rw [if_neg c] at k
    exact k
theorem sL_isRailway_338d {G : Gl} {κ : Kx} {d : Nat} {Q : Option Value → Hp → Prop} {X : String → Hp → Prop} {cs ss : Nat} {L : List (Option LV)} {st : List Value} {σ : Hp} {x : Int32} (hΓ : Ok G κ mL_isRailway d Q X) (k : AW G κ cs ss 346 L (.int (if x = 0 then 1 else 0) :: st) σ) : AW G κ cs ss 338 L (.int x :: st) σ := by
  refine sL_isRailway_338 hΓ (fun c => ?_) (fun c => ?_)
  · refine sL_isRailway_345 hΓ ?_
    rw [if_neg c] at k
    exact k
  · refine sL_isRailway_341 hΓ ?_
    refine sL_isRailway_342 hΓ ?_
    rw [if_pos c] at k
    exact k
theorem sL_isRailway_352d {G : Gl} {κ : Kx} {d : Nat} {Q : Option Value → Hp → Prop} {X : String → Hp → Prop} {cs ss : Nat} {L : List (Option LV)} {st : List Value} {σ : Hp} {x : Int32} (hΓ : Ok G κ mL_isRailway d Q X) (k : AW G κ cs ss 360 L (.int (if x = 0 then 1 else 0) :: st) σ) : AW G κ cs ss 352 L (.int x :: st) σ := by
  refine sL_isRailway_352 hΓ (fun c => ?_) (fun c => ?_)
  · refine sL_isRailway_359 hΓ ?_
    rw [if_neg c] at k
    exact k
  · refine sL_isRailway_355 hΓ ?_
    refine sL_isRailway_356 hΓ ?_
    rw [if_pos c] at k
    exact k
theorem sL_isRailway_566d {G : Gl} {κ : Kx} {d : Nat} {Q : Option Value → Hp → Prop} {X : String → Hp → Prop} {cs ss : Nat} {L : List (Option LV)} {st : List Value} {σ : Hp} {x : Int32} (hΓ : Ok G κ mL_isRailway d Q X) (k : AW G κ cs ss 574 L (.int (if x = 0 then 1 else 0) :: st) σ) : AW G κ cs ss 566 L (.int x :: st) σ := by
  refine sL_isRailway_566 hΓ (fun c => ?_) (fun c => ?_)
  · refine sL_isRailway_573 hΓ ?_
    rw [if_neg c] at k
    exact k
  · refine sL_isRailway_569 hΓ ?_
    refine sL_isRailway_570 hΓ ?_
    rw [if_pos c] at k
    exact k
section LawRail
variable {G : Gl} {κ : Kx} {d : Nat} {Q : Option Value → Hp → Prop} {X : String → Hp → Prop} {cs ss pc : Nat} {σ σ1 : Hp} {c c1 A : Nat → Nat} {x am n s τ k q : Nat} {z z1 : Nat → Int32} {B B1 : Nat → Nat → Int32} {F F1 : Hp} {l1 l2 l3 l4 l5 l6 : Int32} {o7 o8 o9 : Option LV}
theorem ir_A (hΓ : Ok G κ mL_isRailway (d + 9) Q X) (hS : LwS G σ c x am A z B F) (hV : RV (B 0) n s) (kk : AW G κ cs ss 71 [lR x, lI l1, lI l2, lI l3, lI l4, lI (sumN (fun j => if 0 ≤ oI (rFirst (B 0) n 3 (nI j)) then (1 : Int32) else 0) s), lI (sumN (fun j => if bI (B 0 (10 + j) == 1) = 0 then (0 : Int32) else 1) s), (lI (nI s)), o8, o9] [] σ) : ∀ j k, k + j = s → AW G κ (cs + 2 * j) (ss + 12 * j) 18 [lR x, lI l1, lI l2, lI l3, lI l4, lI (sumN (fun j => if 0 ≤ oI (rFirst (B 0) n 3 (nI j)) then (1 : Int32) else 0) k), lI (sumN (fun j => if bI (B 0 (10 + j) == 1) = 0 then (0 : Int32) else 1) k), (lI (nI k)), o8, o9] [] σ := by
  obtain ⟨fs, ho⟩ := hS.o
  have hs24 : s ≤ 24 := hV.1.1.2.2.2.2.1
  have e1 := hV.1.1.2.2.1
  intro j
  induction j with
  | zero =>
    intro k hk
    obtain rfl : k = s := by omega
    refine sL_isRailway_18 hΓ rfl ?_
    refine sL_isRailway_20 hΓ rfl ?_
    refine sL_isRailway_21 hΓ 0 0 (Nat.le_of_ble_eq_true rfl) ho (fun κ_21 hΓ_21 => ct_sectionCount hΓ_21 hS hV ?_)
    show AW G κ _ _ 24 _ _ _
    refine sL_isRailway_24 hΓ (fun c24 => ?_) (fun c24 => absurd (by rw [e1]; exact Int32.le_refl _) c24)
    exact kk
  | succ j ih =>
    intro k hk
    have e2 : ¬ B 0 1 ≤ nI k := by rw [e1]; exact nI_ge (by omega) (by omega)
    show AW G κ (cs + 2 * j + 2) (ss + 12 * j + 12) 18 _ [] σ
    refine sL_isRailway_18 hΓ rfl ?_
    refine sL_isRailway_20 hΓ rfl ?_
    refine sL_isRailway_21 hΓ 0 0 (Nat.le_of_ble_eq_true rfl) ho (fun κ_21 hΓ_21 => ct_sectionCount hΓ_21 hS hV ?_)
    show AW G κ _ _ 24 _ _ _
    refine sL_isRailway_24 hΓ (fun c24 => absurd c24 e2) (fun c24 => ?_)
    refine sL_isRailway_27 hΓ rfl ?_
    refine sL_isRailway_29 hΓ rfl ?_
    refine sL_isRailway_30 hΓ rfl ?_
    refine sL_isRailway_32 hΓ 1 6 (Nat.le_of_ble_eq_true rfl) ho (fun κ_32 hΓ_32 => ct_trainIn hΓ_32 hS hV (show k < s by omega) ?_)
    show AW G κ _ _ 35 _ _ _
    refine sL_isRailway_35d hΓ ?_
    refine sL_isRailway_43 hΓ ?_
    refine sL_isRailway_44 hΓ ?_
    refine sL_isRailway_46 hΓ rfl ?_
    refine sL_isRailway_48 hΓ rfl ?_
    refine sL_isRailway_49 hΓ rfl ?_
    refine sL_isRailway_51 hΓ 1 6 (Nat.le_of_ble_eq_true rfl) ho (fun κ_51 hΓ_51 => ct_isTunnel hΓ_51 hS hV (show k < s by omega) ?_)
    show AW G κ _ _ 54 _ _ _
    refine sL_isRailway_54d hΓ ?_
    refine sL_isRailway_62 hΓ ?_
    refine sL_isRailway_63 hΓ ?_
    refine sL_isRailway_65 hΓ rfl ?_
    refine sL_isRailway_68 hΓ ?_
    skip
    show AW G κ (cs + 2 * j) (ss + 12 * j) 18 [lR x, lI l1, lI l2, lI l3, lI l4, lI (sumN (fun j => if 0 ≤ oI (rFirst (B 0) n 3 (nI j)) then (1 : Int32) else 0) k + (if 0 ≤ oI (rFirst (B 0) n 3 (nI k)) then (1 : Int32) else 0)), lI (sumN (fun j => if bI (B 0 (10 + j) == 1) = 0 then (0 : Int32) else 1) k + (if bI (B 0 (10 + k) == 1) = 0 then (0 : Int32) else 1)), (lI (nI k + 1)), o8, o9] [] σ
    rw [nI_1]
    exact ih (k + 1) (by omega)
theorem ir_B (hΓ : Ok G κ mL_isRailway (d + 9) Q X) (hS : LwS G σ c x am A z B F) (hV : RV (B 0) n s) (hk : k < n) (h6 : B 0 6 = nI q) (hq : q ≤ 12) (kk : AW G κ cs ss 138 [lR x, lI l1, lI l2, lI l3, lI l4, lI l5, lI l6, (lI (nI k)), (lI (sumN (fun p => bI (rFor (B 0) p k)) q)), (lI (nI q))] [] σ) : ∀ j p, p + j = q → AW G κ (cs + 3 * j) (ss + 18 * j) 89 [lR x, lI l1, lI l2, lI l3, lI l4, lI l5, lI l6, (lI (nI k)), (lI (sumN (fun p => bI (rFor (B 0) p k)) p)), (lI (nI p))] [] σ := by
  obtain ⟨fs, ho⟩ := hS.o
  intro j
  induction j with
  | zero =>
    intro p hp
    obtain rfl : p = q := by omega
    refine sL_isRailway_89 hΓ rfl ?_
    refine sL_isRailway_91 hΓ rfl ?_
    refine sL_isRailway_92 hΓ 0 0 (Nat.le_of_ble_eq_true rfl) ho (fun κ_92 hΓ_92 => ct_queueLength hΓ_92 hS hV ?_)
    show AW G κ _ _ 95 _ _ _
    refine sL_isRailway_95 hΓ (fun c95 => ?_) (fun c95 => absurd (by rw [h6]; exact Int32.le_refl _) c95)
    exact kk
  | succ j ih =>
    intro p hp
    have e2 : ¬ B 0 6 ≤ nI p := by rw [h6]; exact nI_ge (by omega) (by omega)
    have go : ∀ v : Int32, v = bI (rFor (B 0) p k) → AW G κ (cs + 3 * j) (ss + 18 * j) 129 [lR x, lI l1, lI l2, lI l3, lI l4, lI l5, lI l6, (lI (nI k)), (lI (sumN (fun p => bI (rFor (B 0) p k)) p)), (lI (nI p))] [.int v, .int (sumN (fun p => bI (rFor (B 0) p k)) p)] σ := fun v hv => by
      subst hv
      refine sL_isRailway_129 hΓ ?_
      refine sL_isRailway_130 hΓ ?_
      refine sL_isRailway_132 hΓ rfl ?_
      refine sL_isRailway_135 hΓ ?_
      skip
      show AW G κ (cs + 3 * j) (ss + 18 * j) 89 [lR x, lI l1, lI l2, lI l3, lI l4, lI l5, lI l6, (lI (nI k)), (lI (sumN (fun p => bI (rFor (B 0) p k)) p + bI (rFor (B 0) p k))), (lI (nI p + 1))] [] σ
      rw [nI_1]
      exact ih (p + 1) (by omega)
    show AW G κ (cs + 3 * j + 3) (ss + 18 * j + 18) 89 _ [] σ
    refine sL_isRailway_89 hΓ rfl ?_
    refine sL_isRailway_91 hΓ rfl ?_
    refine sL_isRailway_92 hΓ 0 0 (Nat.le_of_ble_eq_true rfl) ho (fun κ_92 hΓ_92 => ct_queueLength hΓ_92 hS hV ?_)
    show AW G κ _ _ 95 _ _ _
    refine sL_isRailway_95 hΓ (fun c95 => absurd c95 e2) (fun c95 => ?_)
    refine sL_isRailway_98 hΓ rfl ?_
    refine sL_isRailway_100 hΓ rfl ?_
    refine sL_isRailway_101 hΓ rfl ?_
    refine sL_isRailway_103 hΓ 1 6 (Nat.le_of_ble_eq_true rfl) ho (fun κ_103 hΓ_103 => ct_packetAddress hΓ_103 hS hV h6 hq (show p < q by omega) ?_)
    show AW G κ _ _ 106 _ _ _
    refine sL_isRailway_106 hΓ (fun c106 => ?_) (fun c106 => ?_)
    · refine aw_less (cs2 := cs + 3 * j) (ss2 := ss + 18 * j) (by omega) (by omega) ?_
      exact sL_isRailway_124 hΓ (sL_isRailway_125 hΓ (go 1 (by unfold rFor; rw [show B 0 (148 + 3 * p + 0) = 0 from c106]; rfl)))
    · refine sL_isRailway_109 hΓ rfl ?_
      refine sL_isRailway_110 hΓ rfl ?_
      refine sL_isRailway_112 hΓ 1 6 (Nat.le_of_ble_eq_true rfl) ho (fun κ_112 hΓ_112 => ct_packetAddress hΓ_112 hS hV h6 hq (show p < q by omega) ?_)
      show AW G κ _ _ 115 _ _ _
      refine sL_isRailway_115 hΓ rfl ?_
      refine sL_isRailway_116 hΓ rfl ?_
      refine sL_isRailway_118 hΓ 1 6 (Nat.le_of_ble_eq_true rfl) ho (fun κ_118 hΓ_118 => ct_address hΓ_118 hS hV hk ?_)
      show AW G κ _ _ 121 _ _ _
      refine sL_isRailway_121 hΓ (fun c121 => ?_) (fun c121 => ?_)
      · exact sL_isRailway_128 hΓ (go 0 (by unfold rFor; rw [beq_eq_false_iff_ne.mpr c106, beq_eq_false_iff_ne.mpr c121]; rfl))
      · exact sL_isRailway_124 hΓ (sL_isRailway_125 hΓ (go 1 (by unfold rFor; rw [show B 0 (148 + 3 * p + 0) = B 0 (58 + 15 * k + 0) from c121, beq_self_eq_true, Bool.or_true]; rfl)))
theorem ir_D (hΓ : Ok G κ mL_isRailway (d + 9) Q X) (hS : LwS G σ c x am A z B F) (h : GR (B 0) n s τ) (hk : k < n) (kk : AW G κ cs ss 482 [lR x, lI l1, lI l2, lI l3, lI l4, lI l5, lI l6, (lI (nI k)), o8, (lI (nI k))] [] σ) : ∀ j i, i + j = k → AW G κ (cs + 4 * j) (ss + 24 * j) 437 [lR x, lI l1, lI l2, lI l3, lI l4, lI l5, lI l6, (lI (nI k)), o8, (lI (nI i))] [] σ := by
  obtain ⟨fs, ho⟩ := hS.o
  have hV := h.1
  have hn6 := hV.n6
  intro j
  induction j with
  | zero =>
    intro i hi
    obtain rfl : i = k := by omega
    refine sL_isRailway_437 hΓ rfl ?_
    refine sL_isRailway_439 hΓ rfl ?_
    refine sL_isRailway_441 hΓ (fun c441 => ?_) (fun c441 => absurd (Int32.le_refl _) c441)
    exact kk
  | succ j ih =>
    intro i hi
    have hi9 : i < n := by omega
    have e3 : ¬ B 0 (58 + 15 * i + 3) = B 0 (58 + 15 * k + 3) := fun e => by
      have := h.2.2.2.2.1 i k hi9 hk e
      omega
    have e0 : ¬ B 0 (58 + 15 * i + 0) = B 0 (58 + 15 * k + 0) := fun e => by
      have := h.2.2.2.2.2.1 i k hi9 hk e
      omega
    show AW G κ (cs + 4 * j + 4) (ss + 24 * j + 24) 437 _ [] σ
    refine sL_isRailway_437 hΓ rfl ?_
    refine sL_isRailway_439 hΓ rfl ?_
    refine sL_isRailway_441 hΓ (fun c441 => absurd c441 (nI_ge (by omega) (by omega))) (fun c441 => ?_)
    refine sL_isRailway_444 hΓ rfl ?_
    refine sL_isRailway_445 hΓ rfl ?_
    refine sL_isRailway_447 hΓ 1 6 (Nat.le_of_ble_eq_true rfl) ho (fun κ_447 hΓ_447 => ct_sectionOf hΓ_447 hS hV hi9 ?_)
    show AW G κ _ _ 450 _ _ _
    refine sL_isRailway_450 hΓ rfl ?_
    refine sL_isRailway_451 hΓ rfl ?_
    refine sL_isRailway_453 hΓ 1 6 (Nat.le_of_ble_eq_true rfl) ho (fun κ_453 hΓ_453 => ct_sectionOf hΓ_453 hS hV hk ?_)
    show AW G κ _ _ 456 _ _ _
    refine sL_isRailway_456 hΓ (fun c456 => absurd c456 e3) (fun c456 => ?_)
    refine sL_isRailway_459 hΓ rfl ?_
    refine sL_isRailway_460 hΓ rfl ?_
    refine sL_isRailway_462 hΓ 1 6 (Nat.le_of_ble_eq_true rfl) ho (fun κ_462 hΓ_462 => ct_address hΓ_462 hS hV hi9 ?_)
    show AW G κ _ _ 465 _ _ _
    refine sL_isRailway_465 hΓ rfl ?_
    refine sL_isRailway_466 hΓ rfl ?_
    refine sL_isRailway_468 hΓ 1 6 (Nat.le_of_ble_eq_true rfl) ho (fun κ_468 hΓ_468 => ct_address hΓ_468 hS hV hk ?_)
    show AW G κ _ _ 471 _ _ _
    refine sL_isRailway_471 hΓ (fun c471 => ?_) (fun c471 => absurd c471 e0)
    refine sL_isRailway_476 hΓ rfl ?_
    refine sL_isRailway_479 hΓ ?_
    skip
    show AW G κ (cs + 4 * j) (ss + 24 * j) 437 [lR x, lI l1, lI l2, lI l3, lI l4, lI l5, lI l6, (lI (nI k)), o8, (lI (nI i + 1))] [] σ
    rw [nI_1]
    exact ih (i + 1) (by omega)
theorem ir_E (hΓ : Ok G κ mL_isRailway (d + 9) Q X) (hS : LwS G σ c x am A z B F) (hV : RV (B 0) n s) (h6 : B 0 6 = nI q) (hq : q ≤ 12) (kk : AW G κ cs ss 527 [lR x, lI l1, lI l2, lI l3, lI l4, lI l5, lI l6, (lI (nI q)), o8, o9] [] σ) : ∀ j p, p + j = q → AW G κ (cs + 4 * j) (ss + 24 * j) 491 [lR x, lI l1, lI l2, lI l3, lI l4, lI l5, lI l6, (lI (nI p)), o8, o9] [] σ := by
  obtain ⟨fs, ho⟩ := hS.o
  intro j
  induction j with
  | zero =>
    intro p hp
    obtain rfl : p = q := by omega
    refine sL_isRailway_491 hΓ rfl ?_
    refine sL_isRailway_493 hΓ rfl ?_
    refine sL_isRailway_494 hΓ 0 0 (Nat.le_of_ble_eq_true rfl) ho (fun κ_494 hΓ_494 => ct_queueLength hΓ_494 hS hV ?_)
    show AW G κ _ _ 497 _ _ _
    refine sL_isRailway_497 hΓ (fun c497 => ?_) (fun c497 => absurd (by rw [h6]; exact Int32.le_refl _) c497)
    exact kk
  | succ j ih =>
    intro p hp
    have e2 : ¬ B 0 6 ≤ nI p := by rw [h6]; exact nI_ge (by omega) (by omega)
    obtain ⟨a, ha, ea⟩ := hV.pk (j := 148 + 3 * p + 0) (by omega)
    obtain ⟨b, hb, eb⟩ := hV.pk (j := 148 + 3 * p + 1) (by omega)
    have ey : rByte (B 0 (148 + 3 * p + 0)) = true := by rw [ea]; exact byte_n ha
    have ew : rByte (B 0 (148 + 3 * p + 1)) = true := by rw [eb]; exact byte_n hb
    have ex : 0 ≤ B 0 (148 + 3 * p + 0) ^^^ B 0 (148 + 3 * p + 1) := by
      rw [ea, eb, xorI]
      exact nI_pos' (Nat.lt_of_lt_of_le (Nat.xor_lt_two_pow (n := 8) (show a < 2 ^ 8 by omega) (show b < 2 ^ 8 by omega)) (by decide))
    show AW G κ (cs + 4 * j + 4) (ss + 24 * j + 24) 491 _ [] σ
    refine sL_isRailway_491 hΓ rfl ?_
    refine sL_isRailway_493 hΓ rfl ?_
    refine sL_isRailway_494 hΓ 0 0 (Nat.le_of_ble_eq_true rfl) ho (fun κ_494 hΓ_494 => ct_queueLength hΓ_494 hS hV ?_)
    show AW G κ _ _ 497 _ _ _
    refine sL_isRailway_497 hΓ (fun c497 => absurd c497 e2) (fun c497 => ?_)
    refine sL_isRailway_500 hΓ rfl ?_
    refine sL_isRailway_501 hΓ rfl ?_
    refine sL_isRailway_502 hΓ rfl ?_
    refine sL_isRailway_504 hΓ 1 6 (Nat.le_of_ble_eq_true rfl) ho (fun κ_504 hΓ_504 => ct_packetAddress hΓ_504 hS hV h6 hq (show p < q by omega) ?_)
    show AW G κ _ _ 507 _ _ _
    refine sL_isRailway_507 hΓ rfl ?_
    refine sL_isRailway_508 hΓ rfl ?_
    refine sL_isRailway_510 hΓ 1 6 (Nat.le_of_ble_eq_true rfl) ho (fun κ_510 hΓ_510 => ct_packetCommand hΓ_510 hS hV h6 hq (show p < q by omega) ?_)
    show AW G κ _ _ 513 _ _ _
    refine sL_isRailway_513 hΓ 2 12 (Nat.le_of_ble_eq_true rfl) ho (fun κ_513 hΓ_513 => ct_checkOf hΓ_513 hS hV ey ew ?_)
    show AW G κ _ _ 516 _ _ _
    refine sL_isRailway_516 hΓ (fun c516 => ?_) (fun c516 => absurd ex c516)
    refine sL_isRailway_521 hΓ rfl ?_
    refine sL_isRailway_524 hΓ ?_
    skip
    show AW G κ (cs + 4 * j) (ss + 24 * j) 491 [lR x, lI l1, lI l2, lI l3, lI l4, lI l5, lI l6, (lI (nI p + 1)), o8, o9] [] σ
    rw [nI_1]
    exact ih (p + 1) (by omega)
end LawRail
