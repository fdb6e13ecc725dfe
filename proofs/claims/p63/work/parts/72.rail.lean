/-! the law: isRailway -/
theorem sL_isRailway_35d {G : Gl} {κ : Kx} {d : Nat} {Q : Option Value → Hp → Prop} {X : String → Hp → Prop} {cs ss : Nat} {L : List (Option LV)} {st : List Value} {σ : Hp} {x : Int32} (hΓ : Ok G κ mL_isRailway d Q X) (k : AW G κ cs ss 43 L (.int (if 0 ≤ x then 1 else 0) :: st) σ) : AW G κ cs ss 35 L (.int x :: st) σ := by
  refine sL_isRailway_35 hΓ (fun c => ?_) (fun c => ?_)
  · refine sL_isRailway_42 hΓ ?_
    rw [if_pos c] at k
    exact k
  · refine sL_isRailway_38 hΓ ?_
    refine sL_isRailway_39 hΓ ?_
    rw [if_neg c] at k
    exact k
theorem sL_isRailway_54d {G : Gl} {κ : Kx} {d : Nat} {Q : Option Value → Hp → Prop} {X : String → Hp → Prop} {cs ss : Nat} {L : List (Option LV)} {st : List Value} {σ : Hp} {x : Int32} (hΓ : Ok G κ mL_isRailway d Q X) (k : AW G κ cs ss 62 L (.int (if x = 0 then 0 else 1) :: st) σ) : AW G κ cs ss 54 L (.int x :: st) σ := by
  refine sL_isRailway_54 hΓ (fun c => ?_) (fun c => ?_)
  · refine sL_isRailway_61 hΓ ?_
    rw [if_pos c] at k
    exact k
  · refine sL_isRailway_57 hΓ ?_
    refine sL_isRailway_58 hΓ ?_
    rw [if_neg c] at k
    exact k
theorem sL_isRailway_338d {G : Gl} {κ : Kx} {d : Nat} {Q : Option Value → Hp → Prop} {X : String → Hp → Prop} {cs ss : Nat} {L : List (Option LV)} {st : List Value} {σ : Hp} {x : Int32} (hΓ : Ok G κ mL_isRailway d Q X) (k : AW G κ cs ss 346 L (.int (if x = 0 then 1 else 0) :: st) σ) : AW G κ cs ss 338 L (.int x :: st) σ := by
  refine sL_isRailway_338 hΓ (fun c => ?_) (fun c => ?_)
  · refine sL_isRailway_345 hΓ ?_
    rw [if_neg c] at k
    exact k
  · refine sL_isRailway_341 hΓ ?_
    refine sL_isRailway_342 hΓ ?_
    rw [if_pos c] at k
    exact k
theorem sL_isRailway_352d {G : Gl} {κ : Kx} {d : Nat} {Q : Option Value → Hp → Prop} {X : String → Hp → Prop} {cs ss : Nat} {L : List (Option LV)} {st : List Value} {σ : Hp} {x : Int32} (hΓ : Ok G κ mL_isRailway d Q X) (k : AW G κ cs ss 360 L (.int (if x = 0 then 1 else 0) :: st) σ) : AW G κ cs ss 352 L (.int x :: st) σ := by
  refine sL_isRailway_352 hΓ (fun c => ?_) (fun c => ?_)
  · refine sL_isRailway_359 hΓ ?_
    rw [if_neg c] at k
    exact k
  · refine sL_isRailway_355 hΓ ?_
    refine sL_isRailway_356 hΓ ?_
    rw [if_pos c] at k
    exact k
theorem sL_isRailway_566d {G : Gl} {κ : Kx} {d : Nat} {Q : Option Value → Hp → Prop} {X : String → Hp → Prop} {cs ss : Nat} {L : List (Option LV)} {st : List Value} {σ : Hp} {x : Int32} (hΓ : Ok G κ mL_isRailway d Q X) (k : AW G κ cs ss 574 L (.int (if x = 0 then 1 else 0) :: st) σ) : AW G κ cs ss 566 L (.int x :: st) σ := by
  refine sL_isRailway_566 hΓ (fun c => ?_) (fun c => ?_)
  · refine sL_isRailway_573 hΓ ?_
    rw [if_neg c] at k
    exact k
  · refine sL_isRailway_569 hΓ ?_
    refine sL_isRailway_570 hΓ ?_
    rw [if_pos c] at k
    exact k
section LawRail
variable {G : Gl} {κ : Kx} {d : Nat} {Q : Option Value → Hp → Prop} {X : String → Hp → Prop} {cs ss pc : Nat} {σ σ1 : Hp} {c c1 A : Nat → Nat} {x am n s τ k q : Nat} {z z1 : Nat → Int32} {B B1 : Nat → Nat → Int32} {F F1 : Hp} {l1 l2 l3 l4 l5 l6 : Int32} {o7 o8 o9 : Option LV}
theorem ir_A (hΓ : Ok G κ mL_isRailway (d + 9) Q X) (hS : LwS G σ c x am A z B F) (hV : RV (B 0) n s) (kk : AW G κ cs ss 71 [lR x, lI l1, lI l2, lI l3, lI l4, lI (sumN (fun j => if 0 ≤ oI (rFirst (B 0) n 3 (nI j)) then (1 : Int32) else 0) s), lI (sumN (fun j => if bI (B 0 (10 + j) == 1) = 0 then (0 : Int32) else 1) s), (lI (nI s)), o8, o9] [] σ) : ∀ j k, k + j = s → AW G κ (cs + 2 * j) (ss + 12 * j) 18 [lR x, lI l1, lI l2, lI l3, lI l4, lI (sumN (fun j => if 0 ≤ oI (rFirst (B 0) n 3 (nI j)) then (1 : Int32) else 0) k), lI (sumN (fun j => if bI (B 0 (10 + j) == 1) = 0 then (0 : Int32) else 1) k), (lI (nI k)), o8, o9] [] σ := by
  obtain ⟨fs, ho⟩ := hS.o
  have hs24 : s ≤ 24 := hV.1.1.2.2.2.2.1
  have e1 := hV.1.1.2.2.1
  intro j
  induction j with
  | zero =>
    intro k hk
    obtain rfl : k = s := by omega
    refine sL_isRailway_18 hΓ rfl ?_
    refine sL_isRailway_20 hΓ rfl ?_
    refine sL_isRailway_21 hΓ 0 0 (Nat.le_of_ble_eq_true rfl) ho (fun κ_21 hΓ_21 => ct_sectionCount hΓ_21 hS hV ?_)
    show AW G κ _ _ 24 _ _ _
    refine sL_isRailway_24 hΓ (fun c24 => ?_) (fun c24 => absurd (by rw [e1]; exact Int32.le_refl _) c24)
    exact kk
  | succ j ih =>
    intro k hk
    have e2 : ¬ B 0 1 ≤ nI k := by rw [e1]; exact nI_ge (by omega) (by omega)
    show AW G κ (cs + 2 * j + 2) (ss + 12 * j + 12) 18 _ [] σ
    refine sL_isRailway_18 hΓ rfl ?_
    refine sL_isRailway_20 hΓ rfl ?_
    refine sL_isRailway_21 hΓ 0 0 (Nat.le_of_ble_eq_true rfl) ho (fun κ_21 hΓ_21 => ct_sectionCount hΓ_21 hS hV ?_)
    show AW G κ _ _ 24 _ _ _
    refine sL_isRailway_24 hΓ (fun c24 => absurd c24 e2) (fun c24 => ?_)
    refine sL_isRailway_27 hΓ rfl ?_
    refine sL_isRailway_29 hΓ rfl ?_
    refine sL_isRailway_30 hΓ rfl ?_
    refine sL_isRailway_32 hΓ 1 6 (Nat.le_of_ble_eq_true rfl) ho (fun κ_32 hΓ_32 => ct_trainIn hΓ_32 hS hV (show k < s by omega) ?_)
    show AW G κ _ _ 35 _ _ _
    refine sL_isRailway_35d hΓ ?_
    refine sL_isRailway_43 hΓ ?_
    refine sL_isRailway_44 hΓ ?_
    refine sL_isRailway_46 hΓ rfl ?_
    refine sL_isRailway_48 hΓ rfl ?_
    refine sL_isRailway_49 hΓ rfl ?_
    refine sL_isRailway_51 hΓ 1 6 (Nat.le_of_ble_eq_true rfl) ho (fun κ_51 hΓ_51 => ct_isTunnel hΓ_51 hS hV (show k < s by omega) ?_)
    show AW G κ _ _ 54 _ _ _
    refine sL_isRailway_54d hΓ ?_
    refine sL_isRailway_62 hΓ ?_
    refine sL_isRailway_63 hΓ ?_
    refine sL_isRailway_65 hΓ rfl ?_
    refine sL_isRailway_68 hΓ ?_
    skip
    show AW G κ (cs + 2 * j) (ss + 12 * j) 18 [lR x, lI l1, lI l2, lI l3, lI l4, lI (sumN (fun j => if 0 ≤ oI (rFirst (B 0) n 3 (nI j)) then (1 : Int32) else 0) k + (if 0 ≤ oI (rFirst (B 0) n 3 (nI k)) then (1 : Int32) else 0)), lI (sumN (fun j => if bI (B 0 (10 + j) == 1) = 0 then (0 : Int32) else 1) k + (if bI (B 0 (10 + k) == 1) = 0 then (0 : Int32) else 1)), (lI (nI k + 1)), o8, o9] [] σ
    rw [nI_1]
    exact ih (k + 1) (by omega)
theorem ir_B (hΓ : Ok G κ mL_isRailway (d + 9) Q X) (hS : LwS G σ c x am A z B F) (hV : RV (B 0) n s) (hk : k < n) (h6 : B 0 6 = nI q) (hq : q ≤ 12) (kk : AW G κ cs ss 138 [lR x, lI l1, lI l2, lI l3, lI l4, lI l5, lI l6, (lI (nI k)), (lI (sumN (fun p => bI (rFor (B 0) p k)) q)), (lI (nI q))] [] σ) : ∀ j p, p + j = q → AW G κ (cs + 3 * j) (ss + 18 * j) 89 [lR x, lI l1, lI l2, lI l3, lI l4, lI l5, lI l6, (lI (nI k)), (lI (sumN (fun p => bI (rFor (B 0) p k)) p)), (lI (nI p))] [] σ := by
  obtain ⟨fs, ho⟩ := hS.o
  intro j
  induction j with
  | zero =>
    intro p hp
    obtain rfl : p = q := by omega
    refine sL_isRailway_89 hΓ rfl ?_
    refine sL_isRailway_91 hΓ rfl ?_
    refine sL_isRailway_92 hΓ 0 0 (Nat.le_of_ble_eq_true rfl) ho (fun κ_92 hΓ_92 => ct_queueLength hΓ_92 hS hV ?_)
    show AW G κ _ _ 95 _ _ _
    refine sL_isRailway_95 hΓ (fun c95 => ?_) (fun c95 => absurd (by rw [h6]; exact Int32.le_refl _) c95)
    exact kk
  | succ j ih =>
    intro p hp
    have e2 : ¬ B 0 6 ≤ nI p := by rw [h6]; exact nI_ge (by omega) (by omega)
    have go : ∀ v : Int32, v = bI (rFor (B 0) p k) → AW G κ (cs + 3 * j) (ss + 18 * j) 129 [lR x, lI l1, lI l2, lI l3, lI l4, lI l5, lI l6, (lI (nI k)), (lI (sumN (fun p => bI (rFor (B 0) p k)) p)), (lI (nI p))] [.int v, .int (sumN (fun p => bI (rFor (B 0) p k)) p)] σ := fun v hv => by
      subst hv
      refine sL_isRailway_129 hΓ ?_
      refine sL_isRailway_130 hΓ ?_
      refine sL_isRailway_132 hΓ rfl ?_
      refine sL_isRailway_135 hΓ ?_
      skip
      show AW G κ (cs + 3 * j) (ss + 18 * j) 89 [lR x, lI l1, lI l2, lI l3, lI l4, lI l5, lI l6, (lI (nI k)), (lI (sumN (fun p => bI (rFor (B 0) p k)) p + bI (rFor (B 0) p k))), (lI (nI p + 1))] [] σ
      rw [nI_1]
      exact ih (p + 1) (by omega)
    show AW G κ (cs + 3 * j + 3) (ss + 18 * j + 18) 89 _ [] σ
    refine sL_isRailway_89 hΓ rfl ?_
    refine sL_isRailway_91 hΓ rfl ?_
    refine sL_isRailway_92 hΓ 0 0 (Nat.le_of_ble_eq_true rfl) ho (fun κ_92 hΓ_92 => ct_queueLength hΓ_92 hS hV ?_)
    show AW G κ _ _ 95 _ _ _
    refine sL_isRailway_95 hΓ (fun c95 => absurd c95 e2) (fun c95 => ?_)
    refine sL_isRailway_98 hΓ rfl ?_
    refine sL_isRailway_100 hΓ rfl ?_
    refine sL_isRailway_101 hΓ rfl ?_
    refine sL_isRailway_103 hΓ 1 6 (Nat.le_of_ble_eq_true rfl) ho (fun κ_103 hΓ_103 => ct_packetAddress hΓ_103 hS hV h6 hq (show p < q by omega) ?_)
    show AW G κ _ _ 106 _ _ _
    refine sL_isRailway_106 hΓ (fun c106 => ?_) (fun c106 => ?_)
    · refine aw_less (cs2 := cs + 3 * j) (ss2 := ss + 18 * j) (by omega) (by omega) ?_
      exact sL_isRailway_124 hΓ (sL_isRailway_125 hΓ (go 1 (by unfold rFor; rw [show B 0 (148 + 3 * p + 0) = 0 from c106]; rfl)))
    · refine sL_isRailway_109 hΓ rfl ?_
      refine sL_isRailway_110 hΓ rfl ?_
      refine sL_isRailway_112 hΓ 1 6 (Nat.le_of_ble_eq_true rfl) ho (fun κ_112 hΓ_112 => ct_packetAddress hΓ_112 hS hV h6 hq (show p < q by omega) ?_)
      show AW G κ _ _ 115 _ _ _
      refine sL_isRailway_115 hΓ rfl ?_
      refine sL_isRailway_116 hΓ rfl ?_
      refine sL_isRailway_118 hΓ 1 6 (Nat.le_of_ble_eq_true rfl) ho (fun κ_118 hΓ_118 => ct_address hΓ_118 hS hV hk ?_)
      show AW G κ _ _ 121 _ _ _
      refine sL_isRailway_121 hΓ (fun c121 => ?_) (fun c121 => ?_)
      · exact sL_isRailway_128 hΓ (go 0 (by unfold rFor; rw [beq_eq_false_iff_ne.mpr c106, beq_eq_false_iff_ne.mpr c121]; rfl))
      · exact sL_isRailway_124 hΓ (sL_isRailway_125 hΓ (go 1 (by unfold rFor; rw [show B 0 (148 + 3 * p + 0) = B 0 (58 + 15 * k + 0) from c121, beq_self_eq_true, Bool.or_true]; rfl)))
theorem ir_D (hΓ : Ok G κ mL_isRailway (d + 9) Q X) (hS : LwS G σ c x am A z B F) (h : GR (B 0) n s τ) (hk : k < n) (kk : AW G κ cs ss 482 [lR x, lI l1, lI l2, lI l3, lI l4, lI l5, lI l6, (lI (nI k)), o8, (lI (nI k))] [] σ) : ∀ j i, i + j = k → AW G κ (cs + 4 * j) (ss + 24 * j) 437 [lR x, lI l1, lI l2, lI l3, lI l4, lI l5, lI l6, (lI (nI k)), o8, (lI (nI i))] [] σ := by
  obtain ⟨fs, ho⟩ := hS.o
  have hV := h.1
  have hn6 := hV.n6
  intro j
  induction j with
  | zero =>
    intro i hi
    obtain rfl : i = k := by omega
    refine sL_isRailway_437 hΓ rfl ?_
    refine sL_isRailway_439 hΓ rfl ?_
    refine sL_isRailway_441 hΓ (fun c441 => ?_) (fun c441 => absurd (Int32.le_refl _) c441)
    exact kk
  | succ j ih =>
    intro i hi
    have hi9 : i < n := by omega
    have e3 : ¬ B 0 (58 + 15 * i + 3) = B 0 (58 + 15 * k + 3) := fun e => by
      have := h.2.2.2.2.1 i k hi9 hk e
      omega
    have e0 : ¬ B 0 (58 + 15 * i + 0) = B 0 (58 + 15 * k + 0) := fun e => by
      have := h.2.2.2.2.2.1 i k hi9 hk e
      omega
    show AW G κ (cs + 4 * j + 4) (ss + 24 * j + 24) 437 _ [] σ
    refine sL_isRailway_437 hΓ rfl ?_
    refine sL_isRailway_439 hΓ rfl ?_
    refine sL_isRailway_441 hΓ (fun c441 => absurd c441 (nI_ge (by omega) (by omega))) (fun c441 => ?_)
    refine sL_isRailway_444 hΓ rfl ?_
    refine sL_isRailway_445 hΓ rfl ?_
    refine sL_isRailway_447 hΓ 1 6 (Nat.le_of_ble_eq_true rfl) ho (fun κ_447 hΓ_447 => ct_sectionOf hΓ_447 hS hV hi9 ?_)
    show AW G κ _ _ 450 _ _ _
    refine sL_isRailway_450 hΓ rfl ?_
    refine sL_isRailway_451 hΓ rfl ?_
    refine sL_isRailway_453 hΓ 1 6 (Nat.le_of_ble_eq_true rfl) ho (fun κ_453 hΓ_453 => ct_sectionOf hΓ_453 hS hV hk ?_)
    show AW G κ _ _ 456 _ _ _
    refine sL_isRailway_456 hΓ (fun c456 => absurd c456 e3) (fun c456 => ?_)
    refine sL_isRailway_459 hΓ rfl ?_
    refine sL_isRailway_460 hΓ rfl ?_
    refine sL_isRailway_462 hΓ 1 6 (Nat.le_of_ble_eq_true rfl) ho (fun κ_462 hΓ_462 => ct_address hΓ_462 hS hV hi9 ?_)
    show AW G κ _ _ 465 _ _ _
    refine sL_isRailway_465 hΓ rfl ?_
    refine sL_isRailway_466 hΓ rfl ?_
    refine sL_isRailway_468 hΓ 1 6 (Nat.le_of_ble_eq_true rfl) ho (fun κ_468 hΓ_468 => ct_address hΓ_468 hS hV hk ?_)
    show AW G κ _ _ 471 _ _ _
    refine sL_isRailway_471 hΓ (fun c471 => ?_) (fun c471 => absurd c471 e0)
    refine sL_isRailway_476 hΓ rfl ?_
    refine sL_isRailway_479 hΓ ?_
    skip
    show AW G κ (cs + 4 * j) (ss + 24 * j) 437 [lR x, lI l1, lI l2, lI l3, lI l4, lI l5, lI l6, (lI (nI k)), o8, (lI (nI i + 1))] [] σ
    rw [nI_1]
    exact ih (i + 1) (by omega)
theorem ir_E (hΓ : Ok G κ mL_isRailway (d + 9) Q X) (hS : LwS G σ c x am A z B F) (hV : RV (B 0) n s) (h6 : B 0 6 = nI q) (hq : q ≤ 12) (kk : AW G κ cs ss 527 [lR x, lI l1, lI l2, lI l3, lI l4, lI l5, lI l6, (lI (nI q)), o8, o9] [] σ) : ∀ j p, p + j = q → AW G κ (cs + 4 * j) (ss + 24 * j) 491 [lR x, lI l1, lI l2, lI l3, lI l4, lI l5, lI l6, (lI (nI p)), o8, o9] [] σ := by
  obtain ⟨fs, ho⟩ := hS.o
  intro j
  induction j with
  | zero =>
    intro p hp
    obtain rfl : p = q := by omega
    refine sL_isRailway_491 hΓ rfl ?_
    refine sL_isRailway_493 hΓ rfl ?_
    refine sL_isRailway_494 hΓ 0 0 (Nat.le_of_ble_eq_true rfl) ho (fun κ_494 hΓ_494 => ct_queueLength hΓ_494 hS hV ?_)
    show AW G κ _ _ 497 _ _ _
    refine sL_isRailway_497 hΓ (fun c497 => ?_) (fun c497 => absurd (by rw [h6]; exact Int32.le_refl _) c497)
    exact kk
  | succ j ih =>
    intro p hp
    have e2 : ¬ B 0 6 ≤ nI p := by rw [h6]; exact nI_ge (by omega) (by omega)
    obtain ⟨a, ha, ea⟩ := hV.pk (j := 148 + 3 * p + 0) (by omega)
    obtain ⟨b, hb, eb⟩ := hV.pk (j := 148 + 3 * p + 1) (by omega)
    have ey : rByte (B 0 (148 + 3 * p + 0)) = true := by rw [ea]; exact byte_n ha
    have ew : rByte (B 0 (148 + 3 * p + 1)) = true := by rw [eb]; exact byte_n hb
    have ex : 0 ≤ B 0 (148 + 3 * p + 0) ^^^ B 0 (148 + 3 * p + 1) := by
      rw [ea, eb, xorI]
      exact nI_pos' (Nat.lt_of_lt_of_le (Nat.xor_lt_two_pow (n := 8) (show a < 2 ^ 8 by omega) (show b < 2 ^ 8 by omega)) (by decide))
    show AW G κ (cs + 4 * j + 4) (ss + 24 * j + 24) 491 _ [] σ
    refine sL_isRailway_491 hΓ rfl ?_
    refine sL_isRailway_493 hΓ rfl ?_
    refine sL_isRailway_494 hΓ 0 0 (Nat.le_of_ble_eq_true rfl) ho (fun κ_494 hΓ_494 => ct_queueLength hΓ_494 hS hV ?_)
    show AW G κ _ _ 497 _ _ _
    refine sL_isRailway_497 hΓ (fun c497 => absurd c497 e2) (fun c497 => ?_)
    refine sL_isRailway_500 hΓ rfl ?_
    refine sL_isRailway_501 hΓ rfl ?_
    refine sL_isRailway_502 hΓ rfl ?_
    refine sL_isRailway_504 hΓ 1 6 (Nat.le_of_ble_eq_true rfl) ho (fun κ_504 hΓ_504 => ct_packetAddress hΓ_504 hS hV h6 hq (show p < q by omega) ?_)
    show AW G κ _ _ 507 _ _ _
    refine sL_isRailway_507 hΓ rfl ?_
    refine sL_isRailway_508 hΓ rfl ?_
    refine sL_isRailway_510 hΓ 1 6 (Nat.le_of_ble_eq_true rfl) ho (fun κ_510 hΓ_510 => ct_packetCommand hΓ_510 hS hV h6 hq (show p < q by omega) ?_)
    show AW G κ _ _ 513 _ _ _
    refine sL_isRailway_513 hΓ 2 12 (Nat.le_of_ble_eq_true rfl) ho (fun κ_513 hΓ_513 => ct_checkOf hΓ_513 hS hV ey ew ?_)
    show AW G κ _ _ 516 _ _ _
    refine sL_isRailway_516 hΓ (fun c516 => ?_) (fun c516 => absurd ex c516)
    refine sL_isRailway_521 hΓ rfl ?_
    refine sL_isRailway_524 hΓ ?_
    skip
    show AW G κ (cs + 4 * j) (ss + 24 * j) 491 [lR x, lI l1, lI l2, lI l3, lI l4, lI l5, lI l6, (lI (nI p + 1)), o8, o9] [] σ
    rw [nI_1]
    exact ih (p + 1) (by omega)
theorem ir_C1 (hΓ : Ok G κ mL_isRailway (d + 9) Q X) (hS : LwS G σ c x am A z B F) (h : GR (B 0) n s τ) (hk : k < n) (kk : AW G κ cs ss 291 [lR x, lI (l1 + rFree (B 0) n s (rSec (B 0) k)), lI (l2 + B 0 (58 + 15 * k + 5)), lI (l3 + B 0 (58 + 15 * k + 11)), lI (l4 + (B 0 (58 + 15 * k + 11) + B 0 (58 + 15 * k + 12) + B 0 (58 + 15 * k + 13))), lI l5, lI l6, (lI (nI k)), o8, o9] [] σ) : AW G κ (cs + 16) (ss + 96) 138 [lR x, lI l1, lI l2, lI l3, lI l4, lI l5, lI l6, (lI (nI k)), o8, o9] [] σ := by
  obtain ⟨fs, ho⟩ := hS.o
  have hV := h.1
  have hn6 := hV.n6
  obtain ⟨-, ⟨a4, g4, e4⟩, ⟨a9, g9, e9, e96⟩, -, -⟩ := h.2.2.2.2.2.2.1 k hk
  obtain ⟨a5, g5, e5⟩ := hV.2.2.t (k := k) (w := 5) (M := 28) (by omega) (by decide) rfl
  obtain ⟨a6, g6, e6⟩ := hV.2.2.t (k := k) (w := 6) (M := 28) (by omega) (by decide) rfl
  have f4a : ¬ B 0 (58 + 15 * k + 4) < 0 := by rw [show B 0 (58 + 15 * k + 4) = nI a4 from e4]; exact nI_pos (by omega)
  have f4b : ¬ 99 < B 0 (58 + 15 * k + 4) := by rw [show B 0 (58 + 15 * k + 4) = nI a4 from e4]; exact show ¬ nI 99 < nI a4 from nI_nlt (by omega) (by decide)
  have f5a : ¬ B 0 (58 + 15 * k + 5) < 0 := by rw [e5]; exact nI_pos (by omega)
  have f5b : ¬ 28 < B 0 (58 + 15 * k + 5) := by rw [e5]; exact show ¬ nI 28 < nI a5 from nI_nlt (by omega) (by decide)
  have f6b : ¬ 28 < B 0 (58 + 15 * k + 6) := by rw [e6]; exact show ¬ nI 28 < nI a6 from nI_nlt (by omega) (by decide)
  have f9 : ¬ B 0 (58 + 15 * k + 9) ≤ 39 → B 0 (58 + 15 * k + 6) = 0 := fun e => e96 (by
    rcases Nat.lt_or_ge a9 40 with q9 | q9
    · exact absurd (by rw [show B 0 (58 + 15 * k + 9) = nI a9 from e9]; exact show nI a9 ≤ nI 39 from nI_le (by omega) (by decide)) e
    · exact q9)
  refine sL_isRailway_138 hΓ rfl ?_
  refine sL_isRailway_139 hΓ rfl ?_
  refine sL_isRailway_140 hΓ rfl ?_
  refine sL_isRailway_142 hΓ 1 6 (Nat.le_of_ble_eq_true rfl) ho (fun κ_142 hΓ_142 => ct_freeAhead hΓ_142 hS hV hk ?_)
  show AW G κ _ _ 145 _ _ _
  refine sL_isRailway_145 hΓ ?_
  refine sL_isRailway_146 hΓ ?_
  refine sL_isRailway_147 hΓ rfl ?_
  refine sL_isRailway_148 hΓ rfl ?_
  refine sL_isRailway_149 hΓ rfl ?_
  refine sL_isRailway_151 hΓ 1 6 (Nat.le_of_ble_eq_true rfl) ho (fun κ_151 hΓ_151 => ct_speed hΓ_151 hS hV hk ?_)
  show AW G κ _ _ 154 _ _ _
  refine sL_isRailway_154 hΓ ?_
  refine sL_isRailway_155 hΓ ?_
  refine sL_isRailway_156 hΓ rfl ?_
  refine sL_isRailway_157 hΓ rfl ?_
  refine sL_isRailway_158 hΓ rfl ?_
  refine sL_isRailway_160 hΓ 1 6 (Nat.le_of_ble_eq_true rfl) ho (fun κ_160 hΓ_160 => ct_obeyed hΓ_160 hS hV hk ?_)
  show AW G κ _ _ 163 _ _ _
  refine sL_isRailway_163 hΓ ?_
  refine sL_isRailway_164 hΓ ?_
  refine sL_isRailway_165 hΓ rfl ?_
  refine sL_isRailway_167 hΓ rfl ?_
  refine sL_isRailway_168 hΓ rfl ?_
  refine sL_isRailway_170 hΓ 1 6 (Nat.le_of_ble_eq_true rfl) ho (fun κ_170 hΓ_170 => ct_obeyed hΓ_170 hS hV hk ?_)
  show AW G κ _ _ 173 _ _ _
  refine sL_isRailway_173 hΓ rfl ?_
  refine sL_isRailway_174 hΓ rfl ?_
  refine sL_isRailway_176 hΓ 1 6 (Nat.le_of_ble_eq_true rfl) ho (fun κ_176 hΓ_176 => ct_rejected hΓ_176 hS hV hk ?_)
  show AW G κ _ _ 179 _ _ _
  refine sL_isRailway_179 hΓ ?_
  refine sL_isRailway_180 hΓ rfl ?_
  refine sL_isRailway_181 hΓ rfl ?_
  refine sL_isRailway_183 hΓ 1 6 (Nat.le_of_ble_eq_true rfl) ho (fun κ_183 hΓ_183 => ct_unheard hΓ_183 hS hV hk ?_)
  show AW G κ _ _ 186 _ _ _
  refine sL_isRailway_186 hΓ ?_
  refine sL_isRailway_187 hΓ ?_
  refine sL_isRailway_188 hΓ ?_
  refine sL_isRailway_190 hΓ rfl ?_
  refine sL_isRailway_191 hΓ rfl ?_
  refine sL_isRailway_192 hΓ rfl ?_
  refine sL_isRailway_194 hΓ 1 6 (Nat.le_of_ble_eq_true rfl) ho (fun κ_194 hΓ_194 => ct_sectionOf hΓ_194 hS hV hk ?_)
  show AW G κ _ _ 197 _ _ _
  rw [show B 0 (58 + 15 * k + 3) = nI (rSec (B 0) k) from (h.sec hk).2]
  refine sL_isRailway_197 hΓ 1 6 (Nat.le_of_ble_eq_true rfl) ho (fun κ_197 hΓ_197 => ct_trainIn hΓ_197 hS hV (h.sec hk).1 ?_)
  show AW G κ _ _ 200 _ _ _
  refine sL_isRailway_200 hΓ rfl ?_
  refine sL_isRailway_202 hΓ (fun c202 => absurd (by rw [h.trainIn hk]; rfl) c202) (fun c202 => ?_)
  refine sL_isRailway_205 hΓ rfl ?_
  refine sL_isRailway_206 hΓ rfl ?_
  refine sL_isRailway_207 hΓ rfl ?_
  refine sL_isRailway_209 hΓ 1 6 (Nat.le_of_ble_eq_true rfl) ho (fun κ_209 hΓ_209 => ct_address hΓ_209 hS hV hk ?_)
  show AW G κ _ _ 212 _ _ _
  refine sL_isRailway_212 hΓ 0 0 (Nat.le_of_ble_eq_true rfl) ho (fun κ_212 hΓ_212 => ct_trainWith hΓ_212 hS hV ?_)
  show AW G κ _ _ 215 _ _ _
  refine sL_isRailway_215 hΓ rfl ?_
  refine sL_isRailway_217 hΓ (fun c217 => absurd (by rw [h.trainWith hk]; rfl) c217) (fun c217 => ?_)
  refine sL_isRailway_220 hΓ rfl ?_
  refine sL_isRailway_221 hΓ rfl ?_
  refine sL_isRailway_223 hΓ 1 6 (Nat.le_of_ble_eq_true rfl) ho (fun κ_223 hΓ_223 => ct_advance hΓ_223 hS hV hk ?_)
  show AW G κ _ _ 226 _ _ _
  refine sL_isRailway_226 hΓ (fun c226 => absurd c226 f4a) (fun c226 => ?_)
  refine sL_isRailway_229 hΓ rfl ?_
  refine sL_isRailway_230 hΓ rfl ?_
  refine sL_isRailway_232 hΓ 1 6 (Nat.le_of_ble_eq_true rfl) ho (fun κ_232 hΓ_232 => ct_advance hΓ_232 hS hV hk ?_)
  show AW G κ _ _ 235 _ _ _
  refine sL_isRailway_235 hΓ ?_
  refine sL_isRailway_237 hΓ (fun c237 => absurd c237 f4b) (fun c237 => ?_)
  refine sL_isRailway_240 hΓ rfl ?_
  refine sL_isRailway_241 hΓ rfl ?_
  refine sL_isRailway_243 hΓ 1 6 (Nat.le_of_ble_eq_true rfl) ho (fun κ_243 hΓ_243 => ct_speed hΓ_243 hS hV hk ?_)
  show AW G κ _ _ 246 _ _ _
  refine sL_isRailway_246 hΓ (fun c246 => absurd c246 f5a) (fun c246 => ?_)
  refine sL_isRailway_249 hΓ rfl ?_
  refine sL_isRailway_250 hΓ rfl ?_
  refine sL_isRailway_252 hΓ 1 6 (Nat.le_of_ble_eq_true rfl) ho (fun κ_252 hΓ_252 => ct_speed hΓ_252 hS hV hk ?_)
  show AW G κ _ _ 255 _ _ _
  refine sL_isRailway_255 hΓ ?_
  refine sL_isRailway_257 hΓ (fun c257 => absurd c257 f5b) (fun c257 => ?_)
  refine sL_isRailway_260 hΓ rfl ?_
  refine sL_isRailway_261 hΓ rfl ?_
  refine sL_isRailway_263 hΓ 1 6 (Nat.le_of_ble_eq_true rfl) ho (fun κ_263 hΓ_263 => ct_targetSpeed hΓ_263 hS hV hk ?_)
  show AW G κ _ _ 266 _ _ _
  refine sL_isRailway_266 hΓ ?_
  refine sL_isRailway_268 hΓ (fun c268 => absurd c268 f6b) (fun c268 => ?_)
  refine sL_isRailway_271 hΓ rfl ?_
  refine sL_isRailway_272 hΓ rfl ?_
  refine sL_isRailway_274 hΓ 1 6 (Nat.le_of_ble_eq_true rfl) ho (fun κ_274 hΓ_274 => ct_silence hΓ_274 hS hV hk ?_)
  show AW G κ _ _ 277 _ _ _
  refine sL_isRailway_277 hΓ ?_
  refine sL_isRailway_279 hΓ (fun c279 => ?_) (fun c279 => ?_)
  · exact aw_less (by omega) (by omega) kk
  · refine sL_isRailway_282 hΓ rfl ?_
    refine sL_isRailway_283 hΓ rfl ?_
    refine sL_isRailway_285 hΓ 1 6 (Nat.le_of_ble_eq_true rfl) ho (fun κ_285 hΓ_285 => ct_targetSpeed hΓ_285 hS hV hk ?_)
    show AW G κ _ _ 288 _ _ _
    refine sL_isRailway_288 hΓ (fun c288 => absurd (f9 c279) c288) (fun c288 => ?_)
    exact kk
theorem ir_C2 (hΓ : Ok G κ mL_isRailway (d + 9) Q X) (hS : LwS G σ c x am A z B F) (h : GR (B 0) n s τ) (hk : k < n) (h8 : l5 = rForN (B 0) (rQ (B 0)) k) (kk : ∀ (σ1 : Hp) (c1 : Nat → Nat), LwS G σ1 c1 x am A z B F → AW G κ cs ss 434 [lR x, lI l1, lI l2, lI l3, lI l4, o7, o8, lI (nI k), lI l5, o9] [] σ1) : AW G κ (cs + 32) (ss + 300) 291 [lR x, lI l1, lI l2, lI l3, lI l4, o7, o8, lI (nI k), lI l5, o9] [] σ := by
  obtain ⟨fs, ho⟩ := hS.o
  have hV := h.1
  have hn6 := hV.n6
  have hn1 : 1 ≤ n := hV.2.1
  obtain ⟨-, -, ⟨a9, g9, e9, -⟩, -, -⟩ := h.2.2.2.2.2.2.1 k hk
  obtain ⟨a5, g5, e5⟩ := hV.2.2.t (k := k) (w := 5) (M := 28) (by omega) (by decide) rfl
  obtain ⟨a2, g2, e2⟩ := hV.2.2.t (k := k) (w := 2) (M := 9) (by omega) (by decide) rfl
  have h2 : 0 < a2 := by
    rcases Nat.eq_zero_or_pos a2 with q9 | q9
    · exact absurd (by rw [e2, q9]; rfl) (hV.1.1.2.2.2.2.2.2 k hk)
    · exact q9
  have hτ := h.2.2.1
  have f9 : ¬ B 0 0 < B 0 (58 + 15 * k + 9) := by rw [h.2.1, show B 0 (58 + 15 * k + 9) = nI a9 from e9]; exact nI_nlt g9 (by omega)
  have hF := fast_le (ρ := B 0) (n - 1) k (by omega)
  have hFn : rFast (B 0) (n - 1) < n := by have := hF.2; omega
  have fF : ¬ B 0 (58 + 15 * rFast (B 0) (n - 1) + 5) < B 0 (58 + 15 * k + 5) := Int32.not_lt.mpr hF.1
  obtain ⟨b1, b2, b3⟩ := brk_f ⟨a2, by omega⟩ ⟨a5, by omega⟩ h2
  have c1 : (if rBrk false (B 0 (58 + 15 * k + 2)) 28 (B 0 (58 + 15 * k + 5)) 0 = 0 then (1 : Int32) else 0) = if B 0 (58 + 15 * k + 5) = 0 then 1 else 0 := by
    rw [e2, e5]
    by_cases c : a5 = 0
    · rw [if_pos (b1.mpr c), if_pos (by rw [c]; rfl)]
    · rw [if_neg (fun e => c (b1.mp e)), if_neg (nI_ne0 (by omega) (by omega))]
  have c2 : ¬ B 0 (58 + 15 * k + 5) < rBrk false (B 0 (58 + 15 * k + 2)) 28 (B 0 (58 + 15 * k + 5)) 0 := by rw [e2, e5]; exact Int32.not_lt.mpr b2
  have c3 : ¬ B 0 (58 + 15 * k + 5) * rBrk false (B 0 (58 + 15 * k + 2)) 28 (B 0 (58 + 15 * k + 5)) 0 < rBrk true (B 0 (58 + 15 * k + 2)) 28 (B 0 (58 + 15 * k + 5)) 0 := by rw [e2, e5]; exact Int32.not_lt.mpr b3
  refine sL_isRailway_291 hΓ rfl ?_
  refine sL_isRailway_292 hΓ rfl ?_
  refine sL_isRailway_294 hΓ 1 6 (Nat.le_of_ble_eq_true rfl) ho (fun κ_294 hΓ_294 => ct_silence hΓ_294 hS hV hk ?_)
  show AW G κ _ _ 297 _ _ _
  refine sL_isRailway_297 hΓ rfl ?_
  refine sL_isRailway_298 hΓ 0 0 (Nat.le_of_ble_eq_true rfl) ho (fun κ_298 hΓ_298 => ct_tick hΓ_298 hS hV ?_)
  show AW G κ _ _ 301 _ _ _
  refine sL_isRailway_301 hΓ (fun c301 => absurd c301 f9) (fun c301 => ?_)
  refine sL_isRailway_304 hΓ rfl ?_
  refine sL_isRailway_305 hΓ rfl ?_
  refine sL_isRailway_307 hΓ 1 6 (Nat.le_of_ble_eq_true rfl) ho (fun κ_307 hΓ_307 => ct_speed hΓ_307 hS hV hk ?_)
  show AW G κ _ _ 310 _ _ _
  refine sL_isRailway_310 hΓ rfl ?_
  refine sL_isRailway_311 hΓ rfl ?_
  refine sL_isRailway_312 hΓ 0 0 (Nat.le_of_ble_eq_true rfl) ho (fun κ_312 hΓ_312 => ct_fastestTrain hΓ_312 hS hV ?_)
  show AW G κ _ _ 315 _ _ _
  refine sL_isRailway_315 hΓ 1 6 (Nat.le_of_ble_eq_true rfl) ho (fun κ_315 hΓ_315 => ct_speed hΓ_315 hS hV hFn ?_)
  show AW G κ _ _ 318 _ _ _
  refine sL_isRailway_318 hΓ (fun c318 => absurd c318 fF) (fun c318 => ?_)
  refine sL_isRailway_321 hΓ rfl ?_
  refine sL_isRailway_322 hΓ rfl ?_
  refine sL_isRailway_324 hΓ 1 6 (Nat.le_of_ble_eq_true rfl) ho (fun κ_324 hΓ_324 => ct_packetsFor hΓ_324 hS hV hk ?_)
  show AW G κ _ _ 327 _ _ _
  refine sL_isRailway_327 hΓ rfl ?_
  refine sL_isRailway_329 hΓ (fun c329 => absurd h8.symm c329) (fun c329 => ?_)
  refine sL_isRailway_332 hΓ rfl ?_
  refine sL_isRailway_333 hΓ rfl ?_
  refine sL_isRailway_335 hΓ 1 6 (Nat.le_of_ble_eq_true rfl) ho (fun κ_335 hΓ_335 => ct_brakingTicks hΓ_335 hS hV hk ?_)
  show AW G κ _ _ 338 _ _ _
  refine sL_isRailway_338d hΓ ?_
  refine sL_isRailway_346 hΓ rfl ?_
  refine sL_isRailway_347 hΓ rfl ?_
  refine sL_isRailway_349 hΓ 1 6 (Nat.le_of_ble_eq_true rfl) ho (fun κ_349 hΓ_349 => ct_speed hΓ_349 hS hV hk ?_)
  show AW G κ _ _ 352 _ _ _
  refine sL_isRailway_352d hΓ ?_
  refine sL_isRailway_360 hΓ (fun c360 => absurd c1 c360) (fun c360 => ?_)
  refine sL_isRailway_363 hΓ rfl ?_
  refine sL_isRailway_364 hΓ rfl ?_
  refine sL_isRailway_366 hΓ 1 6 (Nat.le_of_ble_eq_true rfl) ho (fun κ_366 hΓ_366 => ct_brakingTicks hΓ_366 hS hV hk ?_)
  show AW G κ _ _ 369 _ _ _
  refine sL_isRailway_369 hΓ rfl ?_
  refine sL_isRailway_370 hΓ rfl ?_
  refine sL_isRailway_372 hΓ 1 6 (Nat.le_of_ble_eq_true rfl) ho (fun κ_372 hΓ_372 => ct_speed hΓ_372 hS hV hk ?_)
  show AW G κ _ _ 375 _ _ _
  refine sL_isRailway_375 hΓ (fun c375 => absurd c375 c2) (fun c375 => ?_)
  refine sL_isRailway_378 hΓ rfl ?_
  refine sL_isRailway_379 hΓ rfl ?_
  refine sL_isRailway_381 hΓ 1 6 (Nat.le_of_ble_eq_true rfl) ho (fun κ_381 hΓ_381 => ct_brakingDistance hΓ_381 hS hV hk ?_)
  show AW G κ _ _ 384 _ _ _
  refine sL_isRailway_384 hΓ rfl ?_
  refine sL_isRailway_385 hΓ rfl ?_
  refine sL_isRailway_387 hΓ 1 6 (Nat.le_of_ble_eq_true rfl) ho (fun κ_387 hΓ_387 => ct_speed hΓ_387 hS hV hk ?_)
  show AW G κ _ _ 390 _ _ _
  refine sL_isRailway_390 hΓ rfl ?_
  refine sL_isRailway_391 hΓ rfl ?_
  refine sL_isRailway_393 hΓ 1 6 (Nat.le_of_ble_eq_true rfl) ho (fun κ_393 hΓ_393 => ct_brakingTicks hΓ_393 hS hV hk ?_)
  show AW G κ _ _ 396 _ _ _
  refine sL_isRailway_396 hΓ ?_
  refine sL_isRailway_397 hΓ (fun c397 => absurd c397 c3) (fun c397 => ?_)
  refine sL_isRailway_400 hΓ rfl ?_
  refine sL_isRailway_401 hΓ rfl ?_
  refine sL_isRailway_403 hΓ ?_
  refine sL_isRailway_404 hΓ 9 108 (Nat.le_of_ble_eq_true rfl) ho (fun κ_404 hΓ_404 => ct_sectionAfter hΓ_404 hS hV (w := 0) hk (by decide) (fun σ1 c1 hS1 => ?_))
  show AW G κ _ _ 407 _ _ _
  obtain ⟨fs1, ho1⟩ := hS1.o
  refine sL_isRailway_407 hΓ rfl ?_
  refine sL_isRailway_408 hΓ rfl ?_
  refine sL_isRailway_410 hΓ 1 6 (Nat.le_of_ble_eq_true rfl) ho1 (fun κ_410 hΓ_410 => ct_sectionOf hΓ_410 hS1 hV hk ?_)
  show AW G κ _ _ 413 _ _ _
  refine sL_isRailway_413 hΓ (fun c413 => absurd rfl c413) (fun c413 => ?_)
  refine sL_isRailway_416 hΓ rfl ?_
  refine sL_isRailway_417 hΓ rfl ?_
  refine sL_isRailway_419 hΓ ?_
  refine sL_isRailway_420 hΓ 9 108 (Nat.le_of_ble_eq_true rfl) ho1 (fun κ_420 hΓ_420 => ct_speedAfter hΓ_420 hS1 hV (w := 0) hk (by decide) (fun σ2 c2 hS2 => ?_))
  show AW G κ _ _ 423 _ _ _
  obtain ⟨fs2, ho2⟩ := hS2.o
  refine sL_isRailway_423 hΓ rfl ?_
  refine sL_isRailway_424 hΓ rfl ?_
  refine sL_isRailway_426 hΓ 1 6 (Nat.le_of_ble_eq_true rfl) ho2 (fun κ_426 hΓ_426 => ct_speed hΓ_426 hS2 hV hk ?_)
  show AW G κ _ _ 429 _ _ _
  refine sL_isRailway_429 hΓ (fun c429 => ?_) (fun c429 => absurd rfl c429)
  exact aw_less (by omega) (by omega) (kk _ _ hS2)
theorem ir_C (hΓ : Ok G κ mL_isRailway (d + 9) Q X) (h : GR (B 0) n s τ) (h6 : B 0 6 = nI q) (hq : q ≤ 12) (kk : ∀ (σ1 : Hp) (c1 : Nat → Nat) (p8 p9 : Option LV), LwS G σ1 c1 x am A z B F → AW G κ cs ss 488 [lR x, lI (sumN (fun k => rFree (B 0) n s (rSec (B 0) k)) n), lI (sumN (fun k => B 0 (58 + 15 * k + 5)) n), lI (sumN (fun k => B 0 (58 + 15 * k + 11)) n), lI (sumN (fun k => B 0 (58 + 15 * k + 11) + B 0 (58 + 15 * k + 12) + B 0 (58 + 15 * k + 13)) n), lI l5, lI l6, lI (nI n), p8, p9] [] σ1) : ∀ j k, k + j = n → ∀ (σ : Hp) (c : Nat → Nat) (p8 p9 : Option LV), LwS G σ c x am A z B F → AW G κ (cs + 140 * j) (ss + 900 * j) 74 [lR x, lI (sumN (fun k => rFree (B 0) n s (rSec (B 0) k)) k), lI (sumN (fun k => B 0 (58 + 15 * k + 5)) k), lI (sumN (fun k => B 0 (58 + 15 * k + 11)) k), lI (sumN (fun k => B 0 (58 + 15 * k + 11) + B 0 (58 + 15 * k + 12) + B 0 (58 + 15 * k + 13)) k), lI l5, lI l6, lI (nI k), p8, p9] [] σ := by
  have hV := h.1
  have hn6 := hV.n6
  have e3 := hV.1.1.1
  have hQ := rQ_lt h6 hq
  intro j
  induction j with
  | zero =>
    intro k hk σ c p8 p9 hS
    obtain ⟨fs, ho⟩ := hS.o
    obtain rfl : k = n := by omega
    refine sL_isRailway_74 hΓ rfl ?_
    refine sL_isRailway_76 hΓ rfl ?_
    refine sL_isRailway_77 hΓ 0 0 (Nat.le_of_ble_eq_true rfl) ho (fun κ_77 hΓ_77 => ct_trainCount hΓ_77 hS hV ?_)
    show AW G κ _ _ 80 _ _ _
    refine sL_isRailway_80 hΓ (fun c80 => ?_) (fun c80 => absurd (by rw [e3]; exact Int32.le_refl _) c80)
    exact kk _ _ _ _ hS
  | succ j ih =>
    intro k hk σ c p8 p9 hS
    obtain ⟨fs, ho⟩ := hS.o
    have hkn : k < n := by omega
    have e2 : ¬ B 0 3 ≤ nI k := by rw [e3]; exact nI_ge (by omega) (by omega)
    refine aw_less (cs2 := cs + 140 * j + 140) (ss2 := ss + 900 * j + 900) (by omega) (by omega) ?_
    refine sL_isRailway_74 hΓ rfl ?_
    refine sL_isRailway_76 hΓ rfl ?_
    refine sL_isRailway_77 hΓ 0 0 (Nat.le_of_ble_eq_true rfl) ho (fun κ_77 hΓ_77 => ct_trainCount hΓ_77 hS hV ?_)
    show AW G κ _ _ 80 _ _ _
    refine sL_isRailway_80 hΓ (fun c80 => absurd c80 e2) (fun c80 => ?_)
    refine sL_isRailway_83 hΓ ?_
    refine sL_isRailway_84 hΓ ?_
    refine sL_isRailway_86 hΓ ?_
    refine sL_isRailway_87 hΓ ?_
    skip
    refine aw_less (cs2 := cs + 140 * j + 20 + 32 + 16 + 3 * q) (ss2 := ss + 900 * j + 120 + 300 + 96 + 18 * q) (by omega) (by omega) ?_
    refine ir_B hΓ hS hV hkn h6 hq ?_ q 0 (Nat.zero_add q)
    refine ir_C1 hΓ hS h hkn ?_
    refine ir_C2 hΓ hS h hkn (by rw [hQ]; rfl) (fun σ1 c1 hS1 => ?_)
    obtain ⟨fs1, ho1⟩ := hS1.o
    refine sL_isRailway_434 hΓ ?_
    refine sL_isRailway_435 hΓ ?_
    skip
    refine aw_less (cs2 := cs + 140 * j + 4 * k) (ss2 := ss + 900 * j + 24 * k) (by omega) (by omega) ?_
    refine ir_D hΓ hS1 h hkn ?_ k 0 (Nat.zero_add k)
    refine sL_isRailway_482 hΓ rfl ?_
    refine sL_isRailway_485 hΓ ?_
    skip
    show AW G κ (cs + 140 * j) (ss + 900 * j) 74 [lR x, lI (sumN (fun k => rFree (B 0) n s (rSec (B 0) k)) (k + 1)), lI (sumN (fun k => B 0 (58 + 15 * k + 5)) (k + 1)), lI (sumN (fun k => B 0 (58 + 15 * k + 11)) (k + 1)), lI (sumN (fun k => B 0 (58 + 15 * k + 11) + B 0 (58 + 15 * k + 12) + B 0 (58 + 15 * k + 13)) (k + 1)), lI l5, lI l6, lI (nI k + 1), _, _] [] σ1
    rw [nI_1]
    exact ih (k + 1) (by omega) σ1 c1 _ _ hS1
theorem fo_cmpf {r : UInt32} (h : fo_s r) (op : CmpOp) : Op.cmpValue (FP.fcmp r r) op = 0 := by
  have e : FP.fcmp r r = some .eq := by
    show FP.Core.order (FP.Core.decode FP.Core.b32 r.toNat) (FP.Core.decode FP.Core.b32 r.toNat) = some .eq
    have h2 := fo_dec h
    generalize FP.Core.decode FP.Core.b32 r.toNat = D at h2
    cases D with
    | nan => exact absurd rfl h2
    | inf s => exact congrArg some (by simp [compare, compareOfLessAndEq])
    | fin s c q => exact congrArg some (by simp [compare, compareOfLessAndEq])
  rw [e]
  rfl
theorem tun_n {ρ : Nat → Int32} {n s : Nat} (hV : RV ρ n s) : sumN (fun j => if bI (ρ (10 + j) == 1) = 0 then (0 : Int32) else 1) s = rCnt ρ 10 s := sumN_cg fun j hj => by
  have hs24 := hV.s4.2.2
  show (if bI (ρ (10 + j) == 1) = 0 then (0 : Int32) else 1) = ρ (10 + j)
  rcases hV.b01 (i := 10 + j) (by omega) (by omega) with e | e
  · rw [e]; rfl
  · rw [e]; rfl
theorem ir_F (hΓ : Ok G κ mL_isRailway (d + 9) Q X) (hS : LwS G σ c x am A z B F) (h : GR (B 0) n s τ) (hq : ∀ (σ1 : Hp) (c1 : Nat → Nat), LwS G σ1 c1 x am A (upd (upd z 9 0) 14 (nI s)) (updA B 13 (rOut (B 0) (B 13) n s)) F → Q (some (.int 1)) σ1) : AW G κ cs ss 527 [lR x, lI (sumN (fun k => rFree (B 0) n s (rSec (B 0) k)) n), lI (rSum (B 0) 5 n), lI (rSum (B 0) 11 n), lI (rSum (B 0) 11 n + rSum (B 0) 12 n + rSum (B 0) 13 n), lI (nI n), lI (rCnt (B 0) 10 s), o7, o8, o9] [] σ := by
  obtain ⟨fs, ho⟩ := hS.o
  have hV := h.1
  have hn6 := hV.n6
  have hn1 : 1 ≤ n := hV.2.1
  have hs24 := hV.s4.2.2
  have e3 := hV.1.1.1
  have e1 := hV.s4.1
  have n0 : nI n ≠ 0 := nI_ne0 (by omega) (by omega)
  have dE : fo_d (FP.ddiv (FP.i2d (rSum (B 0) 5 n)) (FP.i2d (nI n))) := fo_ddiv n0
  have ep : bI (B 0 4 == 0) = if B 0 4 = 0 then 1 else 0 := by
    by_cases e : B 0 4 = 0
    · rw [if_pos e, e]; rfl
    · rw [if_neg e, beq_eq_false_iff_ne.mpr e]; rfl
  have tl : ∀ r : UInt32, r = fo_sh (rSum (B 0) 11 n) (rSum (B 0) 11 n + rSum (B 0) 12 n + rSum (B 0) 13 n) → AW G κ cs ss 612 [lR x, lI (sumN (fun k => rFree (B 0) n s (rSec (B 0) k)) n), lI (rSum (B 0) 5 n), lI (rSum (B 0) 11 n), lI (rSum (B 0) 11 n + rSum (B 0) 12 n + rSum (B 0) 13 n), lI (nI n), lI (rCnt (B 0) 10 s), o7, o8, o9] [.float r, .float (fo_sh (rSum (B 0) 11 n) (rSum (B 0) 11 n + rSum (B 0) 12 n + rSum (B 0) 13 n))] σ := fun r er => by
    subst er
    refine sL_isRailway_612 hΓ ?_
    refine sL_isRailway_613 hΓ (fun c613 => absurd (fo_cmpf fo_sh_s _) c613) (fun c613 => ?_)
    refine sL_isRailway_616 hΓ rfl ?_
    refine sL_isRailway_617 hΓ 0 0 (Nat.le_of_ble_eq_true rfl) ho (fun κ_617 hΓ_617 => ct_writeTrack hΓ_617 hS hV (fun σ1 hS1 => ?_))
    show AW G κ _ _ 620 _ _ _
    obtain ⟨fs1, ho1⟩ := hS1.o
    refine sL_isRailway_620 hΓ rfl ?_
    refine sL_isRailway_621 hΓ 0 0 (Nat.le_of_ble_eq_true rfl) ho1 (fun κ_621 hΓ_621 => ct_sectionCount hΓ_621 hS1 hV ?_)
    show AW G κ _ _ 624 _ _ _
    refine sL_isRailway_624 hΓ (fun c624 => absurd e1.symm c624) (fun c624 => ?_)
    refine sL_isRailway_627 hΓ rfl ?_
    refine sL_isRailway_628 hΓ 0 0 (Nat.le_of_ble_eq_true rfl) ho1 (fun κ_628 hΓ_628 => ct_gap hΓ_628 hS1 hV ?_)
    show AW G κ _ _ 631 _ _ _
    refine sL_isRailway_631 hΓ (fun c631 => absurd h.gap c631) (fun c631 => ?_)
    refine sL_isRailway_634 hΓ ?_
    refine sL_isRailway_635 hΓ ?_
    exact sL_isRailway_639 hΓ (Or.inr rfl) (hq _ _ hS1)
  refine sL_isRailway_527 hΓ rfl ?_
  refine sL_isRailway_529 hΓ rfl ?_
  refine sL_isRailway_530 hΓ 0 0 (Nat.le_of_ble_eq_true rfl) ho (fun κ_530 hΓ_530 => ct_trainCount hΓ_530 hS hV ?_)
  show AW G κ _ _ 533 _ _ _
  refine sL_isRailway_533 hΓ (fun c533 => absurd e3.symm c533) (fun c533 => ?_)
  refine sL_isRailway_536 hΓ rfl ?_
  refine sL_isRailway_538 hΓ rfl ?_
  refine sL_isRailway_539 hΓ 0 0 (Nat.le_of_ble_eq_true rfl) ho (fun κ_539 hΓ_539 => ct_tunnelCount hΓ_539 hS hV ?_)
  show AW G κ _ _ 542 _ _ _
  refine sL_isRailway_542 hΓ (fun c542 => absurd rfl c542) (fun c542 => ?_)
  refine sL_isRailway_545 hΓ rfl ?_
  refine sL_isRailway_546 hΓ rfl ?_
  refine sL_isRailway_547 hΓ 0 0 (Nat.le_of_ble_eq_true rfl) ho (fun κ_547 hΓ_547 => ct_sectionCount hΓ_547 hS hV ?_)
  show AW G κ _ _ 550 _ _ _
  refine sL_isRailway_550 hΓ rfl ?_
  refine sL_isRailway_551 hΓ 0 0 (Nat.le_of_ble_eq_true rfl) ho (fun κ_551 hΓ_551 => ct_trainCount hΓ_551 hS hV ?_)
  show AW G κ _ _ 554 _ _ _
  refine sL_isRailway_554 hΓ ?_
  refine sL_isRailway_555 hΓ (fun c555 => absurd h.free c555) (fun c555 => ?_)
  refine sL_isRailway_558 hΓ rfl ?_
  refine sL_isRailway_559 hΓ 0 0 (Nat.le_of_ble_eq_true rfl) ho (fun κ_559 hΓ_559 => ct_isPowerOn hΓ_559 hS hV ?_)
  show AW G κ _ _ 562 _ _ _
  refine sL_isRailway_562 hΓ rfl ?_
  refine sL_isRailway_563 hΓ 0 0 (Nat.le_of_ble_eq_true rfl) ho (fun κ_563 hΓ_563 => ct_remainingCutoff hΓ_563 hS hV ?_)
  show AW G κ _ _ 566 _ _ _
  refine sL_isRailway_566d hΓ ?_
  refine sL_isRailway_574 hΓ (fun c574 => absurd ep c574) (fun c574 => ?_)
  refine sL_isRailway_577 hΓ rfl ?_
  refine sL_isRailway_578 hΓ 0 0 (Nat.le_of_ble_eq_true rfl) ho (fun κ_578 hΓ_578 => ct_meanSpeed hΓ_578 hS hV ?_)
  show AW G κ _ _ 581 _ _ _
  refine sL_isRailway_581 hΓ rfl ?_
  refine sL_isRailway_582 hΓ ?_
  refine sL_isRailway_583 hΓ rfl ?_
  refine sL_isRailway_584 hΓ 0 0 (Nat.le_of_ble_eq_true rfl) ho (fun κ_584 hΓ_584 => ct_trainCount hΓ_584 hS hV ?_)
  show AW G κ _ _ 587 _ _ _
  rw [e3]
  refine sL_isRailway_587 hΓ ?_
  refine aw_ddiv hΓ dL_isRailway_588 dE ?_
  refine sL_isRailway_589 hΓ ?_
  refine sL_isRailway_590 hΓ (fun c590 => absurd (fo_cmp dE _) c590) (fun c590 => ?_)
  refine sL_isRailway_593 hΓ rfl ?_
  refine sL_isRailway_594 hΓ 0 0 (Nat.le_of_ble_eq_true rfl) ho (fun κ_594 hΓ_594 => ct_obeyedShare hΓ_594 hS hV ?_)
  show AW G κ _ _ 597 _ _ _
  refine sL_isRailway_597 hΓ rfl ?_
  refine sL_isRailway_599 hΓ (fun c599 => ?_) (fun c599 => ?_)
  · have er : fo_sh (rSum (B 0) 11 n) (rSum (B 0) 11 n + rSum (B 0) 12 n + rSum (B 0) 13 n) = FP.fdiv (FP.i2f (rSum (B 0) 11 n)) (FP.i2f (rSum (B 0) 11 n + rSum (B 0) 12 n + rSum (B 0) 13 n)) := by rw [fo_sh, if_neg c599]
    refine sL_isRailway_606 hΓ rfl ?_
    refine sL_isRailway_607 hΓ ?_
    refine sL_isRailway_608 hΓ rfl ?_
    refine sL_isRailway_610 hΓ ?_
    refine aw_fdiv hΓ dL_isRailway_611 (fo_fdiv c599) ?_
    exact tl _ er.symm
  · have er : fo_sh (rSum (B 0) 11 n) (rSum (B 0) 11 n + rSum (B 0) 12 n + rSum (B 0) 13 n) = FP.fconst0 := by rw [fo_sh, if_pos c599]
    refine sL_isRailway_602 hΓ ?_
    refine sL_isRailway_603 hΓ ?_
    exact tl _ er.symm
theorem ct_isRailway (hΓ : Ok G κ mL_isRailway (d + 9) Q X) (hS : LwS G σ c x am A z B F) (h : GR (B 0) n s τ) (hq : ∀ (σ1 : Hp) (c1 : Nat → Nat), LwS G σ1 c1 x am A (upd (upd z 9 0) 14 (nI s)) (updA B 13 (rOut (B 0) (B 13) n s)) F → Q (some (.int 1)) σ1) : AW G κ (cs + 1000) (ss + 7000) 0 [lR x, none, none, none, none, none, none, none, none, none] [] σ := by
  obtain ⟨q, hq12, h6⟩ := h.1.ql
  have hV := h.1
  have hn6 := hV.n6
  have hs24 := hV.s4.2.2
  refine aw_less (cs2 := cs + 4 * q + 140 * n + 2 * s) (ss2 := ss + 24 * q + 900 * n + 12 * s) (by omega) (by omega) ?_
  refine sL_isRailway_0 hΓ ?_
  refine sL_isRailway_1 hΓ ?_
  refine sL_isRailway_2 hΓ ?_
  refine sL_isRailway_3 hΓ ?_
  refine sL_isRailway_4 hΓ ?_
  refine sL_isRailway_5 hΓ ?_
  refine sL_isRailway_6 hΓ ?_
  refine sL_isRailway_7 hΓ ?_
  refine sL_isRailway_9 hΓ ?_
  refine sL_isRailway_10 hΓ ?_
  refine sL_isRailway_12 hΓ ?_
  refine sL_isRailway_13 hΓ ?_
  refine sL_isRailway_15 hΓ ?_
  refine sL_isRailway_16 hΓ ?_
  refine ir_A hΓ hS hV ?_ s 0 (Nat.zero_add s)
  refine sL_isRailway_71 hΓ ?_
  refine sL_isRailway_72 hΓ ?_
  refine ir_C hΓ h h6 hq12 (fun σ1 c1 p8 p9 hS1 => ?_) n 0 (Nat.zero_add n) σ c _ _ hS
  refine sL_isRailway_488 hΓ ?_
  refine sL_isRailway_489 hΓ ?_
  refine ir_E hΓ hS1 hV h6 hq12 ?_ q 0 (Nat.zero_add q)
  rw [h.there, tun_n hV, show sumN (fun k => B 0 (58 + 15 * k + 11) + B 0 (58 + 15 * k + 12) + B 0 (58 + 15 * k + 13)) n = _ from sumN_add3 _ _ _ n]
  exact ir_F hΓ hS1 h hq
end LawRail
