/-! the law's calls: tellings that may throw -/
section LawOpsB
variable {G : Gl} {κ : Kx} {d : Nat} {Q : Option Value → Hp → Prop} {X : String → Hp → Prop} {cs ss : Nat} {σ : Hp} {c A r : Nat → Nat} {s0 x am o n ii : Nat} {yi : Int32} {xs z : Nat → Int32} {B : Nat → Nat → Int32} {f : Nat → Int64} {w5 w6 w7 w8 : Option LV}
theorem lc0 (x : Int64) : lg_cmp x x = 0 := by
  unfold lg_cmp
  rw [if_neg Int64.lt_irrefl, if_pos rfl]
theorem vl0 {f : Nat → Int64} {v : Int64} : vp_updL f 0 v 0 = v := if_pos rfl
theorem RV.v19 {ρ : Nat → Int32} {n s : Nat} (hV : RV ρ n s) : ∀ k, k < n → ∃ m, 1 ≤ m ∧ m ≤ 9 ∧ ρ (58 + 15 * k + 2) = nI m := fun k hk => by
  have hn := hV.n6
  obtain ⟨v2, hv2, ev2⟩ := hV.2.2.t (k := k) (w := 2) (by omega) (by decide) rfl
  refine ⟨v2, ?_, hv2, ev2⟩
  have := hV.1.1.2.2.2.2.2.2 k hk
  rw [ev2] at this
  rcases Nat.eq_zero_or_pos v2 with e | e
  · exact absurd (by rw [e]; rfl) this
  · exact e
theorem RV.s28 {ρ : Nat → Int32} {n s : Nat} (hV : RV ρ n s) : ∀ k, k < n → ∃ m, m ≤ 28 ∧ ρ (58 + 15 * k + 5) = nI m := fun k hk => by
  have hn := hV.n6
  exact hV.2.2.t (k := k) (w := 5) (by omega) (by decide) rfl
theorem op_isTunnel (hΓ : Ok G κ mL_law (d + 24) Q X) (hN : NcK κ) (hA : ArK G κ s0 n xs) (hn : n < 2 ^ 31) (hyi : yi = nI ii) (hb : ii + 6 ≤ n) (hS : LSt G σ c x am o A r z B f) (kk : ∀ (σ1 : Hp) (c1 : Nat → Nat) (z1 : Nat → Int32) (B1 : Nat → Nat → Int32) (f1 : Nat → Int64) (v5 v6 v7 v8 : Option LV), LSt G σ1 c1 x am o A r z1 B1 f1 → AW G κ cs ss 2959 [lR s0, lR x, lR am, lR o, lI yi, v5, v6, v7, v8] [] σ1) : AW G κ (cs + 40) (ss + 400) 477 [lR s0, lR x, lR am, lR o, lI yi, w5, w6, w7, w8] [] σ := by
  refine aw_less (cs2 := cs + 1) (ss2 := ss + 6) (by omega) (by omega) ?_
  obtain ⟨hL, hM, hc, ho, hco⟩ := id hS
  obtain ⟨n0, s, C, n2, C2, Nh, Ch, u, b, l, cd, og, hs, out, ol, hT, hR⟩ := hL
  have hL : RLx G σ c x A am z B := ⟨n0, s, C, n2, C2, Nh, Ch, u, b, l, cd, og, hs, out, ol, hT, hR⟩
  obtain ⟨A', hMV, hB⟩ := id hM
  obtain ⟨⟨hV, hC⟩, -⟩ := id hR
  obtain ⟨t, q, p, tr, g, hcg⟩ := hT.m
  have hW := hV.1.1
  obtain ⟨l9, hl9, hQ9⟩ := hV.ql
  refine sL_law_477 hΓ rfl ?_
  refine sL_law_478 hΓ rfl ?_
  refine sL_law_479 hΓ rfl ?_
  refine sL_law_481 hΓ ?_
  refine sL_law_482 hΓ ?_
  refine sL_law_483 hΓ hA (j := ii + 1) (show _ = nI (ii + 1) by rw [hyi]; exact nI_add ii 1) (by omega) hn ?_
  refine sL_law_484 hΓ rfl ?_
  refine sL_law_485 hΓ hN 1 6 (Nat.le_of_ble_eq_true rfl) (fun κ2 hok hN2 => wL_isTunnel (cs := 0) (ss := 0) (f := f) hok hN2 1 6 hT.o (fun v σ1 => σ1 = σ ∧ rIsS (B 0) (xs (ii + 1)) = true ∧ v = (bI (rFlag (B 0) 10 (xs (ii + 1))))) (fun E σ1 => σ1 = σ ∧ E = "java/lang/IndexOutOfBoundsException" ∧ rIsS (B 0) (xs (ii + 1)) = false) (fun κ3 Q3 X3 hok3 hr ht => tt_isTunnel (cs := 0) (ss := 0) hok3 hT.o g hV hC (fun e => ht _ _ ⟨rfl, rfl, e⟩) (fun e => hr _ _ ⟨rfl, e, rfl⟩)) (fun v σ1 h9 => ?_) (fun E σ1 h9 => ?_))
  · obtain ⟨rfl, ec, rfl⟩ := h9
    refine ⟨ho, ?_⟩
    show AW G κ _ _ 488 _ _ _
    have hS2 := hS.out (vp_updL f 0 (if (bI (rFlag (B 0) 10 (xs (ii + 1)))) = 0 then (0 : Int64) else 1))
    obtain ⟨hL2, hM2, -, ho2, -⟩ := id hS2
    obtain ⟨A2, hMV2, hB2⟩ := id hM2
    refine sL_law_488 hΓ ?_
    refine sL_law_490 hΓ rfl ?_
    refine sL_law_491 hΓ rfl ?_
    refine sL_law_492 hΓ rfl ?_
    refine sL_law_494 hΓ ?_
    refine sL_law_495 hΓ ?_
    refine sL_law_496 hΓ hA (j := ii + 1) (show _ = nI (ii + 1) by rw [hyi]; exact nI_add ii 1) (by omega) hn ?_
    refine sL_law_497 hΓ 0 0 (Nat.le_of_ble_eq_true rfl) hMV2.o (fun κ_497 hΓ_497 => sp_isTunnel hΓ_497 hMV2 hW (fun σ1 h1 f1 => ?_) )
    show AW G κ _ _ 500 _ _ _
    have hS3 := hS2.mod (MP.mk h1 rfl hB2) f1 (hL2.zc zJ9)
    obtain ⟨A3, hMV3, hB3⟩ := id hS3.2.1
    obtain ⟨-, -, -, ho3, -⟩ := id hS3
    refine sL_law_500 hΓ ?_
    refine sL_law_502 hΓ rfl ?_
    refine sL_law_503 hΓ 0 0 (Nat.le_of_ble_eq_true rfl) hMV3.o (fun κ_503 hΓ_503 => sp_thrown hΓ_503 hMV3 ?_)
    show AW G κ _ _ 506 _ _ _
    refine sL_law_506 hΓ rfl ?_
    refine sL_law_508 hΓ (fun _ => ?_) (fun c9 => absurd (show upd z 9 (bI (!rIsS (B 0) (xs (ii + 1)))) 9 = 0 by rw [ec]; rfl) c9)
    refine sL_law_513 hΓ rfl ?_
    refine sL_law_515 hΓ (fun c9 => absurd rfl c9) (fun _ => ?_)
    refine sL_law_518 hΓ rfl ?_
    refine sL_law_519 hΓ ?_
    refine sL_law_520 hΓ ho3 (j := 0) rfl (by decide) (by decide) ?_
    refine sL_law_521 hΓ rfl ?_
    refine sL_law_523 hΓ (fun cz => ?_) (fun cz => ?_)
    · refine sL_law_530 hΓ ?_
      refine sL_law_531 hΓ ?_
      rw [vl0, if_pos cz, lc0]
      refine sL_law_532 hΓ (fun _ => ?_) (fun c9 => absurd rfl c9)
      refine sL_law_537 hΓ ?_
      exact kk σ1 c _ B _ _ _ _ _ hS3
    · refine sL_law_526 hΓ ?_
      refine sL_law_527 hΓ ?_
      refine sL_law_531 hΓ ?_
      rw [vl0, if_neg cz, lc0]
      refine sL_law_532 hΓ (fun _ => ?_) (fun c9 => absurd rfl c9)
      refine sL_law_537 hΓ ?_
      exact kk σ1 c _ B _ _ _ _ _ hS3
  · obtain ⟨rfl, rfl, ec⟩ := h9
    refine ⟨rfl, ?_⟩
    show AW G κ _ _ 488 _ _ _
    have hS2 := hS
    obtain ⟨hL2, hM2, -, ho2, -⟩ := id hS2
    obtain ⟨A2, hMV2, hB2⟩ := id hM2
    refine sL_law_488 hΓ ?_
    refine sL_law_490 hΓ rfl ?_
    refine sL_law_491 hΓ rfl ?_
    refine sL_law_492 hΓ rfl ?_
    refine sL_law_494 hΓ ?_
    refine sL_law_495 hΓ ?_
    refine sL_law_496 hΓ hA (j := ii + 1) (show _ = nI (ii + 1) by rw [hyi]; exact nI_add ii 1) (by omega) hn ?_
    refine sL_law_497 hΓ 0 0 (Nat.le_of_ble_eq_true rfl) hMV2.o (fun κ_497 hΓ_497 => sp_isTunnel hΓ_497 hMV2 hW (fun σ1 h1 f1 => ?_) )
    show AW G κ _ _ 500 _ _ _
    have hS3 := hS2.mod (MP.mk h1 rfl hB2) f1 (hL2.zc zJ9)
    obtain ⟨A3, hMV3, hB3⟩ := id hS3.2.1
    obtain ⟨-, -, -, ho3, -⟩ := id hS3
    refine sL_law_500 hΓ ?_
    refine sL_law_502 hΓ rfl ?_
    refine sL_law_503 hΓ 0 0 (Nat.le_of_ble_eq_true rfl) hMV3.o (fun κ_503 hΓ_503 => sp_thrown hΓ_503 hMV3 ?_)
    show AW G κ _ _ 506 _ _ _
    refine sL_law_506 hΓ rfl ?_
    refine sL_law_508 hΓ (fun _ => ?_) (fun c9 => absurd (show upd z 9 (bI (!rIsS (B 0) (xs (ii + 1)))) 9 = 1 by rw [ec]; rfl) c9)
    refine sL_law_513 hΓ rfl ?_
    refine sL_law_515 hΓ (fun _ => ?_) (fun c9 => absurd c9 (by decide))
    refine sL_law_537 hΓ ?_
    exact kk σ1 c _ B f _ _ _ _ hS3
theorem op_hasShort (hΓ : Ok G κ mL_law (d + 24) Q X) (hN : NcK κ) (hA : ArK G κ s0 n xs) (hn : n < 2 ^ 31) (hyi : yi = nI ii) (hb : ii + 6 ≤ n) (hS : LSt G σ c x am o A r z B f) (kk : ∀ (σ1 : Hp) (c1 : Nat → Nat) (z1 : Nat → Int32) (B1 : Nat → Nat → Int32) (f1 : Nat → Int64) (v5 v6 v7 v8 : Option LV), LSt G σ1 c1 x am o A r z1 B1 f1 → AW G κ cs ss 2959 [lR s0, lR x, lR am, lR o, lI yi, v5, v6, v7, v8] [] σ1) : AW G κ (cs + 40) (ss + 400) 540 [lR s0, lR x, lR am, lR o, lI yi, w5, w6, w7, w8] [] σ := by
  refine aw_less (cs2 := cs + 1) (ss2 := ss + 6) (by omega) (by omega) ?_
  obtain ⟨hL, hM, hc, ho, hco⟩ := id hS
  obtain ⟨n0, s, C, n2, C2, Nh, Ch, u, b, l, cd, og, hs, out, ol, hT, hR⟩ := hL
  have hL : RLx G σ c x A am z B := ⟨n0, s, C, n2, C2, Nh, Ch, u, b, l, cd, og, hs, out, ol, hT, hR⟩
  obtain ⟨A', hMV, hB⟩ := id hM
  obtain ⟨⟨hV, hC⟩, -⟩ := id hR
  obtain ⟨t, q, p, tr, g, hcg⟩ := hT.m
  have hW := hV.1.1
  obtain ⟨l9, hl9, hQ9⟩ := hV.ql
  refine sL_law_540 hΓ rfl ?_
  refine sL_law_541 hΓ rfl ?_
  refine sL_law_542 hΓ rfl ?_
  refine sL_law_544 hΓ ?_
  refine sL_law_545 hΓ ?_
  refine sL_law_546 hΓ hA (j := ii + 1) (show _ = nI (ii + 1) by rw [hyi]; exact nI_add ii 1) (by omega) hn ?_
  refine sL_law_547 hΓ rfl ?_
  refine sL_law_548 hΓ hN 1 6 (Nat.le_of_ble_eq_true rfl) (fun κ2 hok hN2 => wL_hasShort (cs := 0) (ss := 0) (f := f) hok hN2 1 6 hT.o (fun v σ1 => σ1 = σ ∧ rIsS (B 0) (xs (ii + 1)) = true ∧ v = (bI (rFlag (B 0) 34 (xs (ii + 1))))) (fun E σ1 => σ1 = σ ∧ E = "java/lang/IndexOutOfBoundsException" ∧ rIsS (B 0) (xs (ii + 1)) = false) (fun κ3 Q3 X3 hok3 hr ht => tt_hasShort (cs := 0) (ss := 0) hok3 hT.o g hV hC (fun e => ht _ _ ⟨rfl, rfl, e⟩) (fun e => hr _ _ ⟨rfl, e, rfl⟩)) (fun v σ1 h9 => ?_) (fun E σ1 h9 => ?_))
  · obtain ⟨rfl, ec, rfl⟩ := h9
    refine ⟨ho, ?_⟩
    show AW G κ _ _ 551 _ _ _
    have hS2 := hS.out (vp_updL f 0 (if (bI (rFlag (B 0) 34 (xs (ii + 1)))) = 0 then (0 : Int64) else 1))
    obtain ⟨hL2, hM2, -, ho2, -⟩ := id hS2
    obtain ⟨A2, hMV2, hB2⟩ := id hM2
    refine sL_law_551 hΓ ?_
    refine sL_law_553 hΓ rfl ?_
    refine sL_law_554 hΓ rfl ?_
    refine sL_law_555 hΓ rfl ?_
    refine sL_law_557 hΓ ?_
    refine sL_law_558 hΓ ?_
    refine sL_law_559 hΓ hA (j := ii + 1) (show _ = nI (ii + 1) by rw [hyi]; exact nI_add ii 1) (by omega) hn ?_
    refine sL_law_560 hΓ 0 0 (Nat.le_of_ble_eq_true rfl) hMV2.o (fun κ_560 hΓ_560 => sp_hasShort hΓ_560 hMV2 hW (fun σ1 h1 f1 => ?_) )
    show AW G κ _ _ 563 _ _ _
    have hS3 := hS2.mod (MP.mk h1 rfl hB2) f1 (hL2.zc zJ9)
    obtain ⟨A3, hMV3, hB3⟩ := id hS3.2.1
    obtain ⟨-, -, -, ho3, -⟩ := id hS3
    refine sL_law_563 hΓ ?_
    refine sL_law_565 hΓ rfl ?_
    refine sL_law_566 hΓ 0 0 (Nat.le_of_ble_eq_true rfl) hMV3.o (fun κ_566 hΓ_566 => sp_thrown hΓ_566 hMV3 ?_)
    show AW G κ _ _ 569 _ _ _
    refine sL_law_569 hΓ rfl ?_
    refine sL_law_571 hΓ (fun _ => ?_) (fun c9 => absurd (show upd z 9 (bI (!rIsS (B 0) (xs (ii + 1)))) 9 = 0 by rw [ec]; rfl) c9)
    refine sL_law_576 hΓ rfl ?_
    refine sL_law_578 hΓ (fun c9 => absurd rfl c9) (fun _ => ?_)
    refine sL_law_581 hΓ rfl ?_
    refine sL_law_582 hΓ ?_
    refine sL_law_583 hΓ ho3 (j := 0) rfl (by decide) (by decide) ?_
    refine sL_law_584 hΓ rfl ?_
    refine sL_law_586 hΓ (fun cz => ?_) (fun cz => ?_)
    · refine sL_law_593 hΓ ?_
      refine sL_law_594 hΓ ?_
      rw [vl0, if_pos cz, lc0]
      refine sL_law_595 hΓ (fun _ => ?_) (fun c9 => absurd rfl c9)
      refine sL_law_600 hΓ ?_
      exact kk σ1 c _ B _ _ _ _ _ hS3
    · refine sL_law_589 hΓ ?_
      refine sL_law_590 hΓ ?_
      refine sL_law_594 hΓ ?_
      rw [vl0, if_neg cz, lc0]
      refine sL_law_595 hΓ (fun _ => ?_) (fun c9 => absurd rfl c9)
      refine sL_law_600 hΓ ?_
      exact kk σ1 c _ B _ _ _ _ _ hS3
  · obtain ⟨rfl, rfl, ec⟩ := h9
    refine ⟨rfl, ?_⟩
    show AW G κ _ _ 551 _ _ _
    have hS2 := hS
    obtain ⟨hL2, hM2, -, ho2, -⟩ := id hS2
    obtain ⟨A2, hMV2, hB2⟩ := id hM2
    refine sL_law_551 hΓ ?_
    refine sL_law_553 hΓ rfl ?_
    refine sL_law_554 hΓ rfl ?_
    refine sL_law_555 hΓ rfl ?_
    refine sL_law_557 hΓ ?_
    refine sL_law_558 hΓ ?_
    refine sL_law_559 hΓ hA (j := ii + 1) (show _ = nI (ii + 1) by rw [hyi]; exact nI_add ii 1) (by omega) hn ?_
    refine sL_law_560 hΓ 0 0 (Nat.le_of_ble_eq_true rfl) hMV2.o (fun κ_560 hΓ_560 => sp_hasShort hΓ_560 hMV2 hW (fun σ1 h1 f1 => ?_) )
    show AW G κ _ _ 563 _ _ _
    have hS3 := hS2.mod (MP.mk h1 rfl hB2) f1 (hL2.zc zJ9)
    obtain ⟨A3, hMV3, hB3⟩ := id hS3.2.1
    obtain ⟨-, -, -, ho3, -⟩ := id hS3
    refine sL_law_563 hΓ ?_
    refine sL_law_565 hΓ rfl ?_
    refine sL_law_566 hΓ 0 0 (Nat.le_of_ble_eq_true rfl) hMV3.o (fun κ_566 hΓ_566 => sp_thrown hΓ_566 hMV3 ?_)
    show AW G κ _ _ 569 _ _ _
    refine sL_law_569 hΓ rfl ?_
    refine sL_law_571 hΓ (fun _ => ?_) (fun c9 => absurd (show upd z 9 (bI (!rIsS (B 0) (xs (ii + 1)))) 9 = 1 by rw [ec]; rfl) c9)
    refine sL_law_576 hΓ rfl ?_
    refine sL_law_578 hΓ (fun _ => ?_) (fun c9 => absurd c9 (by decide))
    refine sL_law_600 hΓ ?_
    exact kk σ1 c _ B f _ _ _ _ hS3
theorem op_trainIn (hΓ : Ok G κ mL_law (d + 24) Q X) (hN : NcK κ) (hA : ArK G κ s0 n xs) (hn : n < 2 ^ 31) (hyi : yi = nI ii) (hb : ii + 6 ≤ n) (hS : LSt G σ c x am o A r z B f) (kk : ∀ (σ1 : Hp) (c1 : Nat → Nat) (z1 : Nat → Int32) (B1 : Nat → Nat → Int32) (f1 : Nat → Int64) (v5 v6 v7 v8 : Option LV), LSt G σ1 c1 x am o A r z1 B1 f1 → AW G κ cs ss 2959 [lR s0, lR x, lR am, lR o, lI yi, v5, v6, v7, v8] [] σ1) : AW G κ (cs + 40) (ss + 400) 603 [lR s0, lR x, lR am, lR o, lI yi, w5, w6, w7, w8] [] σ := by
  refine aw_less (cs2 := cs + 1) (ss2 := ss + 6) (by omega) (by omega) ?_
  obtain ⟨hL, hM, hc, ho, hco⟩ := id hS
  obtain ⟨n0, s, C, n2, C2, Nh, Ch, u, b, l, cd, og, hs, out, ol, hT, hR⟩ := hL
  have hL : RLx G σ c x A am z B := ⟨n0, s, C, n2, C2, Nh, Ch, u, b, l, cd, og, hs, out, ol, hT, hR⟩
  obtain ⟨A', hMV, hB⟩ := id hM
  obtain ⟨⟨hV, hC⟩, -⟩ := id hR
  obtain ⟨t, q, p, tr, g, hcg⟩ := hT.m
  have hW := hV.1.1
  obtain ⟨l9, hl9, hQ9⟩ := hV.ql
  refine sL_law_603 hΓ rfl ?_
  refine sL_law_604 hΓ rfl ?_
  refine sL_law_605 hΓ rfl ?_
  refine sL_law_607 hΓ ?_
  refine sL_law_608 hΓ ?_
  refine sL_law_609 hΓ hA (j := ii + 1) (show _ = nI (ii + 1) by rw [hyi]; exact nI_add ii 1) (by omega) hn ?_
  refine sL_law_610 hΓ rfl ?_
  refine sL_law_611 hΓ hN 1 6 (Nat.le_of_ble_eq_true rfl) (fun κ2 hok hN2 => wL_trainIn (cs := 0) (ss := 0) (f := f) hok hN2 1 6 hT.o (fun v σ1 => σ1 = σ ∧ rIsS (B 0) (xs (ii + 1)) = true ∧ v = (rInS (B 0) n0 (xs (ii + 1)))) (fun E σ1 => σ1 = σ ∧ E = "java/lang/IndexOutOfBoundsException" ∧ rIsS (B 0) (xs (ii + 1)) = false) (fun κ3 Q3 X3 hok3 hr ht => tt_trainIn (cs := 0) (ss := 0) hok3 hT.o g hV hC (fun e => ht _ _ ⟨rfl, rfl, e⟩) (fun e => hr _ _ ⟨rfl, e, rfl⟩)) (fun v σ1 h9 => ?_) (fun E σ1 h9 => ?_))
  · obtain ⟨rfl, ec, rfl⟩ := h9
    refine ⟨ho, ?_⟩
    show AW G κ _ _ 614 _ _ _
    have hS2 := hS.out (vp_updL f 0 ((rInS (B 0) n0 (xs (ii + 1)))).toInt64)
    obtain ⟨hL2, hM2, -, ho2, -⟩ := id hS2
    obtain ⟨A2, hMV2, hB2⟩ := id hM2
    refine sL_law_614 hΓ ?_
    refine sL_law_616 hΓ rfl ?_
    refine sL_law_617 hΓ rfl ?_
    refine sL_law_618 hΓ rfl ?_
    refine sL_law_620 hΓ ?_
    refine sL_law_621 hΓ ?_
    refine sL_law_622 hΓ hA (j := ii + 1) (show _ = nI (ii + 1) by rw [hyi]; exact nI_add ii 1) (by omega) hn ?_
    refine sL_law_623 hΓ 0 0 (Nat.le_of_ble_eq_true rfl) hMV2.o (fun κ_623 hΓ_623 => sp_trainIn hΓ_623 hMV2 hW (fun σ1 h1 f1 => ?_) )
    show AW G κ _ _ 626 _ _ _
    have hS3 := hS2.mod (MP.mk h1 rfl hB2) f1 (hL2.zc zJ9)
    obtain ⟨A3, hMV3, hB3⟩ := id hS3.2.1
    obtain ⟨-, -, -, ho3, -⟩ := id hS3
    refine sL_law_626 hΓ ?_
    refine sL_law_628 hΓ rfl ?_
    refine sL_law_629 hΓ 0 0 (Nat.le_of_ble_eq_true rfl) hMV3.o (fun κ_629 hΓ_629 => sp_thrown hΓ_629 hMV3 ?_)
    show AW G κ _ _ 632 _ _ _
    refine sL_law_632 hΓ rfl ?_
    refine sL_law_634 hΓ (fun _ => ?_) (fun c9 => absurd (show upd z 9 (bI (!rIsS (B 0) (xs (ii + 1)))) 9 = 0 by rw [ec]; rfl) c9)
    refine sL_law_639 hΓ rfl ?_
    refine sL_law_641 hΓ (fun c9 => absurd rfl c9) (fun _ => ?_)
    refine sL_law_644 hΓ rfl ?_
    refine sL_law_645 hΓ ?_
    refine sL_law_646 hΓ ho3 (j := 0) rfl (by decide) (by decide) ?_
    refine sL_law_647 hΓ rfl ?_
    refine sL_law_649 hΓ ?_
    refine sL_law_650 hΓ ?_
    rw [vl0, lc0]
    refine sL_law_651 hΓ (fun _ => ?_) (fun c9 => absurd rfl c9)
    refine sL_law_656 hΓ ?_
    exact kk σ1 c _ B _ _ _ _ _ hS3
  · obtain ⟨rfl, rfl, ec⟩ := h9
    refine ⟨rfl, ?_⟩
    show AW G κ _ _ 614 _ _ _
    have hS2 := hS
    obtain ⟨hL2, hM2, -, ho2, -⟩ := id hS2
    obtain ⟨A2, hMV2, hB2⟩ := id hM2
    refine sL_law_614 hΓ ?_
    refine sL_law_616 hΓ rfl ?_
    refine sL_law_617 hΓ rfl ?_
    refine sL_law_618 hΓ rfl ?_
    refine sL_law_620 hΓ ?_
    refine sL_law_621 hΓ ?_
    refine sL_law_622 hΓ hA (j := ii + 1) (show _ = nI (ii + 1) by rw [hyi]; exact nI_add ii 1) (by omega) hn ?_
    refine sL_law_623 hΓ 0 0 (Nat.le_of_ble_eq_true rfl) hMV2.o (fun κ_623 hΓ_623 => sp_trainIn hΓ_623 hMV2 hW (fun σ1 h1 f1 => ?_) )
    show AW G κ _ _ 626 _ _ _
    have hS3 := hS2.mod (MP.mk h1 rfl hB2) f1 (hL2.zc zJ9)
    obtain ⟨A3, hMV3, hB3⟩ := id hS3.2.1
    obtain ⟨-, -, -, ho3, -⟩ := id hS3
    refine sL_law_626 hΓ ?_
    refine sL_law_628 hΓ rfl ?_
    refine sL_law_629 hΓ 0 0 (Nat.le_of_ble_eq_true rfl) hMV3.o (fun κ_629 hΓ_629 => sp_thrown hΓ_629 hMV3 ?_)
    show AW G κ _ _ 632 _ _ _
    refine sL_law_632 hΓ rfl ?_
    refine sL_law_634 hΓ (fun _ => ?_) (fun c9 => absurd (show upd z 9 (bI (!rIsS (B 0) (xs (ii + 1)))) 9 = 1 by rw [ec]; rfl) c9)
    refine sL_law_639 hΓ rfl ?_
    refine sL_law_641 hΓ (fun _ => ?_) (fun c9 => absurd c9 (by decide))
    refine sL_law_656 hΓ ?_
    exact kk σ1 c _ B f _ _ _ _ hS3
theorem op_address (hΓ : Ok G κ mL_law (d + 24) Q X) (hN : NcK κ) (hA : ArK G κ s0 n xs) (hn : n < 2 ^ 31) (hyi : yi = nI ii) (hb : ii + 6 ≤ n) (hS : LSt G σ c x am o A r z B f) (kk : ∀ (σ1 : Hp) (c1 : Nat → Nat) (z1 : Nat → Int32) (B1 : Nat → Nat → Int32) (f1 : Nat → Int64) (v5 v6 v7 v8 : Option LV), LSt G σ1 c1 x am o A r z1 B1 f1 → AW G κ cs ss 2959 [lR s0, lR x, lR am, lR o, lI yi, v5, v6, v7, v8] [] σ1) : AW G κ (cs + 40) (ss + 400) 724 [lR s0, lR x, lR am, lR o, lI yi, w5, w6, w7, w8] [] σ := by
  refine aw_less (cs2 := cs + 1) (ss2 := ss + 6) (by omega) (by omega) ?_
  obtain ⟨hL, hM, hc, ho, hco⟩ := id hS
  obtain ⟨n0, s, C, n2, C2, Nh, Ch, u, b, l, cd, og, hs, out, ol, hT, hR⟩ := hL
  have hL : RLx G σ c x A am z B := ⟨n0, s, C, n2, C2, Nh, Ch, u, b, l, cd, og, hs, out, ol, hT, hR⟩
  obtain ⟨A', hMV, hB⟩ := id hM
  obtain ⟨⟨hV, hC⟩, -⟩ := id hR
  obtain ⟨t, q, p, tr, g, hcg⟩ := hT.m
  have hW := hV.1.1
  obtain ⟨l9, hl9, hQ9⟩ := hV.ql
  refine sL_law_724 hΓ rfl ?_
  refine sL_law_725 hΓ rfl ?_
  refine sL_law_726 hΓ rfl ?_
  refine sL_law_728 hΓ ?_
  refine sL_law_729 hΓ ?_
  refine sL_law_730 hΓ hA (j := ii + 1) (show _ = nI (ii + 1) by rw [hyi]; exact nI_add ii 1) (by omega) hn ?_
  refine sL_law_731 hΓ rfl ?_
  refine sL_law_732 hΓ hN 1 6 (Nat.le_of_ble_eq_true rfl) (fun κ2 hok hN2 => wL_address (cs := 0) (ss := 0) (f := f) hok hN2 1 6 hT.o (fun v σ1 => σ1 = σ ∧ rIsT (B 0) (xs (ii + 1)) = true ∧ v = (rTold (B 0) (xs (ii + 1)) 0)) (fun E σ1 => σ1 = σ ∧ E = "java/lang/IndexOutOfBoundsException" ∧ rIsT (B 0) (xs (ii + 1)) = false) (fun κ3 Q3 X3 hok3 hr ht => tt_address (cs := 0) (ss := 0) hok3 hT.o g hV hC (fun e => ht _ _ ⟨rfl, rfl, e⟩) (fun e => hr _ _ ⟨rfl, e, rfl⟩)) (fun v σ1 h9 => ?_) (fun E σ1 h9 => ?_))
  · obtain ⟨rfl, ec, rfl⟩ := h9
    refine ⟨ho, ?_⟩
    show AW G κ _ _ 735 _ _ _
    have hS2 := hS.out (vp_updL f 0 ((rTold (B 0) (xs (ii + 1)) 0)).toInt64)
    obtain ⟨hL2, hM2, -, ho2, -⟩ := id hS2
    obtain ⟨A2, hMV2, hB2⟩ := id hM2
    refine sL_law_735 hΓ ?_
    refine sL_law_737 hΓ rfl ?_
    refine sL_law_738 hΓ rfl ?_
    refine sL_law_739 hΓ rfl ?_
    refine sL_law_741 hΓ ?_
    refine sL_law_742 hΓ ?_
    refine sL_law_743 hΓ hA (j := ii + 1) (show _ = nI (ii + 1) by rw [hyi]; exact nI_add ii 1) (by omega) hn ?_
    refine sL_law_744 hΓ 0 0 (Nat.le_of_ble_eq_true rfl) hMV2.o (fun κ_744 hΓ_744 => sp_address hΓ_744 hMV2 hW (fun σ1 h1 f1 => ?_) )
    show AW G κ _ _ 747 _ _ _
    have hS3 := hS2.mod (MP.mk h1 rfl hB2) f1 (hL2.zc zJ9)
    obtain ⟨A3, hMV3, hB3⟩ := id hS3.2.1
    obtain ⟨-, -, -, ho3, -⟩ := id hS3
    refine sL_law_747 hΓ ?_
    refine sL_law_749 hΓ rfl ?_
    refine sL_law_750 hΓ 0 0 (Nat.le_of_ble_eq_true rfl) hMV3.o (fun κ_750 hΓ_750 => sp_thrown hΓ_750 hMV3 ?_)
    show AW G κ _ _ 753 _ _ _
    refine sL_law_753 hΓ rfl ?_
    refine sL_law_755 hΓ (fun _ => ?_) (fun c9 => absurd (show upd z 9 (bI (!rIsT (B 0) (xs (ii + 1)))) 9 = 0 by rw [ec]; rfl) c9)
    refine sL_law_760 hΓ rfl ?_
    refine sL_law_762 hΓ (fun c9 => absurd rfl c9) (fun _ => ?_)
    refine sL_law_765 hΓ rfl ?_
    refine sL_law_766 hΓ ?_
    refine sL_law_767 hΓ ho3 (j := 0) rfl (by decide) (by decide) ?_
    refine sL_law_768 hΓ rfl ?_
    refine sL_law_770 hΓ ?_
    refine sL_law_771 hΓ ?_
    rw [vl0, lc0]
    refine sL_law_772 hΓ (fun _ => ?_) (fun c9 => absurd rfl c9)
    refine sL_law_777 hΓ ?_
    exact kk σ1 c _ B _ _ _ _ _ hS3
  · obtain ⟨rfl, rfl, ec⟩ := h9
    refine ⟨rfl, ?_⟩
    show AW G κ _ _ 735 _ _ _
    have hS2 := hS
    obtain ⟨hL2, hM2, -, ho2, -⟩ := id hS2
    obtain ⟨A2, hMV2, hB2⟩ := id hM2
    refine sL_law_735 hΓ ?_
    refine sL_law_737 hΓ rfl ?_
    refine sL_law_738 hΓ rfl ?_
    refine sL_law_739 hΓ rfl ?_
    refine sL_law_741 hΓ ?_
    refine sL_law_742 hΓ ?_
    refine sL_law_743 hΓ hA (j := ii + 1) (show _ = nI (ii + 1) by rw [hyi]; exact nI_add ii 1) (by omega) hn ?_
    refine sL_law_744 hΓ 0 0 (Nat.le_of_ble_eq_true rfl) hMV2.o (fun κ_744 hΓ_744 => sp_address hΓ_744 hMV2 hW (fun σ1 h1 f1 => ?_) )
    show AW G κ _ _ 747 _ _ _
    have hS3 := hS2.mod (MP.mk h1 rfl hB2) f1 (hL2.zc zJ9)
    obtain ⟨A3, hMV3, hB3⟩ := id hS3.2.1
    obtain ⟨-, -, -, ho3, -⟩ := id hS3
    refine sL_law_747 hΓ ?_
    refine sL_law_749 hΓ rfl ?_
    refine sL_law_750 hΓ 0 0 (Nat.le_of_ble_eq_true rfl) hMV3.o (fun κ_750 hΓ_750 => sp_thrown hΓ_750 hMV3 ?_)
    show AW G κ _ _ 753 _ _ _
    refine sL_law_753 hΓ rfl ?_
    refine sL_law_755 hΓ (fun _ => ?_) (fun c9 => absurd (show upd z 9 (bI (!rIsT (B 0) (xs (ii + 1)))) 9 = 1 by rw [ec]; rfl) c9)
    refine sL_law_760 hΓ rfl ?_
    refine sL_law_762 hΓ (fun _ => ?_) (fun c9 => absurd c9 (by decide))
    refine sL_law_777 hΓ ?_
    exact kk σ1 c _ B f _ _ _ _ hS3
theorem op_sectionOf (hΓ : Ok G κ mL_law (d + 24) Q X) (hN : NcK κ) (hA : ArK G κ s0 n xs) (hn : n < 2 ^ 31) (hyi : yi = nI ii) (hb : ii + 6 ≤ n) (hS : LSt G σ c x am o A r z B f) (kk : ∀ (σ1 : Hp) (c1 : Nat → Nat) (z1 : Nat → Int32) (B1 : Nat → Nat → Int32) (f1 : Nat → Int64) (v5 v6 v7 v8 : Option LV), LSt G σ1 c1 x am o A r z1 B1 f1 → AW G κ cs ss 2959 [lR s0, lR x, lR am, lR o, lI yi, v5, v6, v7, v8] [] σ1) : AW G κ (cs + 40) (ss + 400) 805 [lR s0, lR x, lR am, lR o, lI yi, w5, w6, w7, w8] [] σ := by
  refine aw_less (cs2 := cs + 1) (ss2 := ss + 6) (by omega) (by omega) ?_
  obtain ⟨hL, hM, hc, ho, hco⟩ := id hS
  obtain ⟨n0, s, C, n2, C2, Nh, Ch, u, b, l, cd, og, hs, out, ol, hT, hR⟩ := hL
  have hL : RLx G σ c x A am z B := ⟨n0, s, C, n2, C2, Nh, Ch, u, b, l, cd, og, hs, out, ol, hT, hR⟩
  obtain ⟨A', hMV, hB⟩ := id hM
  obtain ⟨⟨hV, hC⟩, -⟩ := id hR
  obtain ⟨t, q, p, tr, g, hcg⟩ := hT.m
  have hW := hV.1.1
  obtain ⟨l9, hl9, hQ9⟩ := hV.ql
  refine sL_law_805 hΓ rfl ?_
  refine sL_law_806 hΓ rfl ?_
  refine sL_law_807 hΓ rfl ?_
  refine sL_law_809 hΓ ?_
  refine sL_law_810 hΓ ?_
  refine sL_law_811 hΓ hA (j := ii + 1) (show _ = nI (ii + 1) by rw [hyi]; exact nI_add ii 1) (by omega) hn ?_
  refine sL_law_812 hΓ rfl ?_
  refine sL_law_813 hΓ hN 1 6 (Nat.le_of_ble_eq_true rfl) (fun κ2 hok hN2 => wL_sectionOf (cs := 0) (ss := 0) (f := f) hok hN2 1 6 hT.o (fun v σ1 => σ1 = σ ∧ rIsT (B 0) (xs (ii + 1)) = true ∧ v = (rTold (B 0) (xs (ii + 1)) 3)) (fun E σ1 => σ1 = σ ∧ E = "java/lang/IndexOutOfBoundsException" ∧ rIsT (B 0) (xs (ii + 1)) = false) (fun κ3 Q3 X3 hok3 hr ht => tt_sectionOf (cs := 0) (ss := 0) hok3 hT.o g hV hC (fun e => ht _ _ ⟨rfl, rfl, e⟩) (fun e => hr _ _ ⟨rfl, e, rfl⟩)) (fun v σ1 h9 => ?_) (fun E σ1 h9 => ?_))
  · obtain ⟨rfl, ec, rfl⟩ := h9
    refine ⟨ho, ?_⟩
    show AW G κ _ _ 816 _ _ _
    have hS2 := hS.out (vp_updL f 0 ((rTold (B 0) (xs (ii + 1)) 3)).toInt64)
    obtain ⟨hL2, hM2, -, ho2, -⟩ := id hS2
    obtain ⟨A2, hMV2, hB2⟩ := id hM2
    refine sL_law_816 hΓ ?_
    refine sL_law_818 hΓ rfl ?_
    refine sL_law_819 hΓ rfl ?_
    refine sL_law_820 hΓ rfl ?_
    refine sL_law_822 hΓ ?_
    refine sL_law_823 hΓ ?_
    refine sL_law_824 hΓ hA (j := ii + 1) (show _ = nI (ii + 1) by rw [hyi]; exact nI_add ii 1) (by omega) hn ?_
    refine sL_law_825 hΓ 0 0 (Nat.le_of_ble_eq_true rfl) hMV2.o (fun κ_825 hΓ_825 => sp_sectionOf hΓ_825 hMV2 hW (fun σ1 h1 f1 => ?_) )
    show AW G κ _ _ 828 _ _ _
    have hS3 := hS2.mod (MP.mk h1 rfl hB2) f1 (hL2.zc zJ9)
    obtain ⟨A3, hMV3, hB3⟩ := id hS3.2.1
    obtain ⟨-, -, -, ho3, -⟩ := id hS3
    refine sL_law_828 hΓ ?_
    refine sL_law_830 hΓ rfl ?_
    refine sL_law_831 hΓ 0 0 (Nat.le_of_ble_eq_true rfl) hMV3.o (fun κ_831 hΓ_831 => sp_thrown hΓ_831 hMV3 ?_)
    show AW G κ _ _ 834 _ _ _
    refine sL_law_834 hΓ rfl ?_
    refine sL_law_836 hΓ (fun _ => ?_) (fun c9 => absurd (show upd z 9 (bI (!rIsT (B 0) (xs (ii + 1)))) 9 = 0 by rw [ec]; rfl) c9)
    refine sL_law_841 hΓ rfl ?_
    refine sL_law_843 hΓ (fun c9 => absurd rfl c9) (fun _ => ?_)
    refine sL_law_846 hΓ rfl ?_
    refine sL_law_847 hΓ ?_
    refine sL_law_848 hΓ ho3 (j := 0) rfl (by decide) (by decide) ?_
    refine sL_law_849 hΓ rfl ?_
    refine sL_law_851 hΓ ?_
    refine sL_law_852 hΓ ?_
    rw [vl0, lc0]
    refine sL_law_853 hΓ (fun _ => ?_) (fun c9 => absurd rfl c9)
    refine sL_law_858 hΓ ?_
    exact kk σ1 c _ B _ _ _ _ _ hS3
  · obtain ⟨rfl, rfl, ec⟩ := h9
    refine ⟨rfl, ?_⟩
    show AW G κ _ _ 816 _ _ _
    have hS2 := hS
    obtain ⟨hL2, hM2, -, ho2, -⟩ := id hS2
    obtain ⟨A2, hMV2, hB2⟩ := id hM2
    refine sL_law_816 hΓ ?_
    refine sL_law_818 hΓ rfl ?_
    refine sL_law_819 hΓ rfl ?_
    refine sL_law_820 hΓ rfl ?_
    refine sL_law_822 hΓ ?_
    refine sL_law_823 hΓ ?_
    refine sL_law_824 hΓ hA (j := ii + 1) (show _ = nI (ii + 1) by rw [hyi]; exact nI_add ii 1) (by omega) hn ?_
    refine sL_law_825 hΓ 0 0 (Nat.le_of_ble_eq_true rfl) hMV2.o (fun κ_825 hΓ_825 => sp_sectionOf hΓ_825 hMV2 hW (fun σ1 h1 f1 => ?_) )
    show AW G κ _ _ 828 _ _ _
    have hS3 := hS2.mod (MP.mk h1 rfl hB2) f1 (hL2.zc zJ9)
    obtain ⟨A3, hMV3, hB3⟩ := id hS3.2.1
    obtain ⟨-, -, -, ho3, -⟩ := id hS3
    refine sL_law_828 hΓ ?_
    refine sL_law_830 hΓ rfl ?_
    refine sL_law_831 hΓ 0 0 (Nat.le_of_ble_eq_true rfl) hMV3.o (fun κ_831 hΓ_831 => sp_thrown hΓ_831 hMV3 ?_)
    show AW G κ _ _ 834 _ _ _
    refine sL_law_834 hΓ rfl ?_
    refine sL_law_836 hΓ (fun _ => ?_) (fun c9 => absurd (show upd z 9 (bI (!rIsT (B 0) (xs (ii + 1)))) 9 = 1 by rw [ec]; rfl) c9)
    refine sL_law_841 hΓ rfl ?_
    refine sL_law_843 hΓ (fun _ => ?_) (fun c9 => absurd c9 (by decide))
    refine sL_law_858 hΓ ?_
    exact kk σ1 c _ B f _ _ _ _ hS3
theorem op_advance (hΓ : Ok G κ mL_law (d + 24) Q X) (hN : NcK κ) (hA : ArK G κ s0 n xs) (hn : n < 2 ^ 31) (hyi : yi = nI ii) (hb : ii + 6 ≤ n) (hS : LSt G σ c x am o A r z B f) (kk : ∀ (σ1 : Hp) (c1 : Nat → Nat) (z1 : Nat → Int32) (B1 : Nat → Nat → Int32) (f1 : Nat → Int64) (v5 v6 v7 v8 : Option LV), LSt G σ1 c1 x am o A r z1 B1 f1 → AW G κ cs ss 2959 [lR s0, lR x, lR am, lR o, lI yi, v5, v6, v7, v8] [] σ1) : AW G κ (cs + 40) (ss + 400) 861 [lR s0, lR x, lR am, lR o, lI yi, w5, w6, w7, w8] [] σ := by
  refine aw_less (cs2 := cs + 1) (ss2 := ss + 6) (by omega) (by omega) ?_
  obtain ⟨hL, hM, hc, ho, hco⟩ := id hS
  obtain ⟨n0, s, C, n2, C2, Nh, Ch, u, b, l, cd, og, hs, out, ol, hT, hR⟩ := hL
  have hL : RLx G σ c x A am z B := ⟨n0, s, C, n2, C2, Nh, Ch, u, b, l, cd, og, hs, out, ol, hT, hR⟩
  obtain ⟨A', hMV, hB⟩ := id hM
  obtain ⟨⟨hV, hC⟩, -⟩ := id hR
  obtain ⟨t, q, p, tr, g, hcg⟩ := hT.m
  have hW := hV.1.1
  obtain ⟨l9, hl9, hQ9⟩ := hV.ql
  refine sL_law_861 hΓ rfl ?_
  refine sL_law_862 hΓ rfl ?_
  refine sL_law_863 hΓ rfl ?_
  refine sL_law_865 hΓ ?_
  refine sL_law_866 hΓ ?_
  refine sL_law_867 hΓ hA (j := ii + 1) (show _ = nI (ii + 1) by rw [hyi]; exact nI_add ii 1) (by omega) hn ?_
  refine sL_law_868 hΓ rfl ?_
  refine sL_law_869 hΓ hN 1 6 (Nat.le_of_ble_eq_true rfl) (fun κ2 hok hN2 => wL_advance (cs := 0) (ss := 0) (f := f) hok hN2 1 6 hT.o (fun v σ1 => σ1 = σ ∧ rIsT (B 0) (xs (ii + 1)) = true ∧ v = (rTold (B 0) (xs (ii + 1)) 4)) (fun E σ1 => σ1 = σ ∧ E = "java/lang/IndexOutOfBoundsException" ∧ rIsT (B 0) (xs (ii + 1)) = false) (fun κ3 Q3 X3 hok3 hr ht => tt_advance (cs := 0) (ss := 0) hok3 hT.o g hV hC (fun e => ht _ _ ⟨rfl, rfl, e⟩) (fun e => hr _ _ ⟨rfl, e, rfl⟩)) (fun v σ1 h9 => ?_) (fun E σ1 h9 => ?_))
  · obtain ⟨rfl, ec, rfl⟩ := h9
    refine ⟨ho, ?_⟩
    show AW G κ _ _ 872 _ _ _
    have hS2 := hS.out (vp_updL f 0 ((rTold (B 0) (xs (ii + 1)) 4)).toInt64)
    obtain ⟨hL2, hM2, -, ho2, -⟩ := id hS2
    obtain ⟨A2, hMV2, hB2⟩ := id hM2
    refine sL_law_872 hΓ ?_
    refine sL_law_874 hΓ rfl ?_
    refine sL_law_875 hΓ rfl ?_
    refine sL_law_876 hΓ rfl ?_
    refine sL_law_878 hΓ ?_
    refine sL_law_879 hΓ ?_
    refine sL_law_880 hΓ hA (j := ii + 1) (show _ = nI (ii + 1) by rw [hyi]; exact nI_add ii 1) (by omega) hn ?_
    refine sL_law_881 hΓ 0 0 (Nat.le_of_ble_eq_true rfl) hMV2.o (fun κ_881 hΓ_881 => sp_advance hΓ_881 hMV2 hW (fun σ1 h1 f1 => ?_) )
    show AW G κ _ _ 884 _ _ _
    have hS3 := hS2.mod (MP.mk h1 rfl hB2) f1 (hL2.zc zJ9)
    obtain ⟨A3, hMV3, hB3⟩ := id hS3.2.1
    obtain ⟨-, -, -, ho3, -⟩ := id hS3
    refine sL_law_884 hΓ ?_
    refine sL_law_886 hΓ rfl ?_
    refine sL_law_887 hΓ 0 0 (Nat.le_of_ble_eq_true rfl) hMV3.o (fun κ_887 hΓ_887 => sp_thrown hΓ_887 hMV3 ?_)
    show AW G κ _ _ 890 _ _ _
    refine sL_law_890 hΓ rfl ?_
    refine sL_law_892 hΓ (fun _ => ?_) (fun c9 => absurd (show upd z 9 (bI (!rIsT (B 0) (xs (ii + 1)))) 9 = 0 by rw [ec]; rfl) c9)
    refine sL_law_897 hΓ rfl ?_
    refine sL_law_899 hΓ (fun c9 => absurd rfl c9) (fun _ => ?_)
    refine sL_law_902 hΓ rfl ?_
    refine sL_law_903 hΓ ?_
    refine sL_law_904 hΓ ho3 (j := 0) rfl (by decide) (by decide) ?_
    refine sL_law_905 hΓ rfl ?_
    refine sL_law_907 hΓ ?_
    refine sL_law_908 hΓ ?_
    rw [vl0, lc0]
    refine sL_law_909 hΓ (fun _ => ?_) (fun c9 => absurd rfl c9)
    refine sL_law_914 hΓ ?_
    exact kk σ1 c _ B _ _ _ _ _ hS3
  · obtain ⟨rfl, rfl, ec⟩ := h9
    refine ⟨rfl, ?_⟩
    show AW G κ _ _ 872 _ _ _
    have hS2 := hS
    obtain ⟨hL2, hM2, -, ho2, -⟩ := id hS2
    obtain ⟨A2, hMV2, hB2⟩ := id hM2
    refine sL_law_872 hΓ ?_
    refine sL_law_874 hΓ rfl ?_
    refine sL_law_875 hΓ rfl ?_
    refine sL_law_876 hΓ rfl ?_
    refine sL_law_878 hΓ ?_
    refine sL_law_879 hΓ ?_
    refine sL_law_880 hΓ hA (j := ii + 1) (show _ = nI (ii + 1) by rw [hyi]; exact nI_add ii 1) (by omega) hn ?_
    refine sL_law_881 hΓ 0 0 (Nat.le_of_ble_eq_true rfl) hMV2.o (fun κ_881 hΓ_881 => sp_advance hΓ_881 hMV2 hW (fun σ1 h1 f1 => ?_) )
    show AW G κ _ _ 884 _ _ _
    have hS3 := hS2.mod (MP.mk h1 rfl hB2) f1 (hL2.zc zJ9)
    obtain ⟨A3, hMV3, hB3⟩ := id hS3.2.1
    obtain ⟨-, -, -, ho3, -⟩ := id hS3
    refine sL_law_884 hΓ ?_
    refine sL_law_886 hΓ rfl ?_
    refine sL_law_887 hΓ 0 0 (Nat.le_of_ble_eq_true rfl) hMV3.o (fun κ_887 hΓ_887 => sp_thrown hΓ_887 hMV3 ?_)
    show AW G κ _ _ 890 _ _ _
    refine sL_law_890 hΓ rfl ?_
    refine sL_law_892 hΓ (fun _ => ?_) (fun c9 => absurd (show upd z 9 (bI (!rIsT (B 0) (xs (ii + 1)))) 9 = 1 by rw [ec]; rfl) c9)
    refine sL_law_897 hΓ rfl ?_
    refine sL_law_899 hΓ (fun _ => ?_) (fun c9 => absurd c9 (by decide))
    refine sL_law_914 hΓ ?_
    exact kk σ1 c _ B f _ _ _ _ hS3
theorem op_speed (hΓ : Ok G κ mL_law (d + 24) Q X) (hN : NcK κ) (hA : ArK G κ s0 n xs) (hn : n < 2 ^ 31) (hyi : yi = nI ii) (hb : ii + 6 ≤ n) (hS : LSt G σ c x am o A r z B f) (kk : ∀ (σ1 : Hp) (c1 : Nat → Nat) (z1 : Nat → Int32) (B1 : Nat → Nat → Int32) (f1 : Nat → Int64) (v5 v6 v7 v8 : Option LV), LSt G σ1 c1 x am o A r z1 B1 f1 → AW G κ cs ss 2959 [lR s0, lR x, lR am, lR o, lI yi, v5, v6, v7, v8] [] σ1) : AW G κ (cs + 40) (ss + 400) 917 [lR s0, lR x, lR am, lR o, lI yi, w5, w6, w7, w8] [] σ := by
  refine aw_less (cs2 := cs + 1) (ss2 := ss + 6) (by omega) (by omega) ?_
  obtain ⟨hL, hM, hc, ho, hco⟩ := id hS
  obtain ⟨n0, s, C, n2, C2, Nh, Ch, u, b, l, cd, og, hs, out, ol, hT, hR⟩ := hL
  have hL : RLx G σ c x A am z B := ⟨n0, s, C, n2, C2, Nh, Ch, u, b, l, cd, og, hs, out, ol, hT, hR⟩
  obtain ⟨A', hMV, hB⟩ := id hM
  obtain ⟨⟨hV, hC⟩, -⟩ := id hR
  obtain ⟨t, q, p, tr, g, hcg⟩ := hT.m
  have hW := hV.1.1
  obtain ⟨l9, hl9, hQ9⟩ := hV.ql
  refine sL_law_917 hΓ rfl ?_
  refine sL_law_918 hΓ rfl ?_
  refine sL_law_919 hΓ rfl ?_
  refine sL_law_921 hΓ ?_
  refine sL_law_922 hΓ ?_
  refine sL_law_923 hΓ hA (j := ii + 1) (show _ = nI (ii + 1) by rw [hyi]; exact nI_add ii 1) (by omega) hn ?_
  refine sL_law_924 hΓ rfl ?_
  refine sL_law_925 hΓ hN 1 6 (Nat.le_of_ble_eq_true rfl) (fun κ2 hok hN2 => wL_speed (cs := 0) (ss := 0) (f := f) hok hN2 1 6 hT.o (fun v σ1 => σ1 = σ ∧ rIsT (B 0) (xs (ii + 1)) = true ∧ v = (rTold (B 0) (xs (ii + 1)) 5)) (fun E σ1 => σ1 = σ ∧ E = "java/lang/IndexOutOfBoundsException" ∧ rIsT (B 0) (xs (ii + 1)) = false) (fun κ3 Q3 X3 hok3 hr ht => tt_speed (cs := 0) (ss := 0) hok3 hT.o g hV hC (fun e => ht _ _ ⟨rfl, rfl, e⟩) (fun e => hr _ _ ⟨rfl, e, rfl⟩)) (fun v σ1 h9 => ?_) (fun E σ1 h9 => ?_))
  · obtain ⟨rfl, ec, rfl⟩ := h9
    refine ⟨ho, ?_⟩
    show AW G κ _ _ 928 _ _ _
    have hS2 := hS.out (vp_updL f 0 ((rTold (B 0) (xs (ii + 1)) 5)).toInt64)
    obtain ⟨hL2, hM2, -, ho2, -⟩ := id hS2
    obtain ⟨A2, hMV2, hB2⟩ := id hM2
    refine sL_law_928 hΓ ?_
    refine sL_law_930 hΓ rfl ?_
    refine sL_law_931 hΓ rfl ?_
    refine sL_law_932 hΓ rfl ?_
    refine sL_law_934 hΓ ?_
    refine sL_law_935 hΓ ?_
    refine sL_law_936 hΓ hA (j := ii + 1) (show _ = nI (ii + 1) by rw [hyi]; exact nI_add ii 1) (by omega) hn ?_
    refine sL_law_937 hΓ 0 0 (Nat.le_of_ble_eq_true rfl) hMV2.o (fun κ_937 hΓ_937 => sp_speed hΓ_937 hMV2 hW (fun σ1 h1 f1 => ?_) )
    show AW G κ _ _ 940 _ _ _
    have hS3 := hS2.mod (MP.mk h1 rfl hB2) f1 (hL2.zc zJ9)
    obtain ⟨A3, hMV3, hB3⟩ := id hS3.2.1
    obtain ⟨-, -, -, ho3, -⟩ := id hS3
    refine sL_law_940 hΓ ?_
    refine sL_law_942 hΓ rfl ?_
    refine sL_law_943 hΓ 0 0 (Nat.le_of_ble_eq_true rfl) hMV3.o (fun κ_943 hΓ_943 => sp_thrown hΓ_943 hMV3 ?_)
    show AW G κ _ _ 946 _ _ _
    refine sL_law_946 hΓ rfl ?_
    refine sL_law_948 hΓ (fun _ => ?_) (fun c9 => absurd (show upd z 9 (bI (!rIsT (B 0) (xs (ii + 1)))) 9 = 0 by rw [ec]; rfl) c9)
    refine sL_law_953 hΓ rfl ?_
    refine sL_law_955 hΓ (fun c9 => absurd rfl c9) (fun _ => ?_)
    refine sL_law_958 hΓ rfl ?_
    refine sL_law_959 hΓ ?_
    refine sL_law_960 hΓ ho3 (j := 0) rfl (by decide) (by decide) ?_
    refine sL_law_961 hΓ rfl ?_
    refine sL_law_963 hΓ ?_
    refine sL_law_964 hΓ ?_
    rw [vl0, lc0]
    refine sL_law_965 hΓ (fun _ => ?_) (fun c9 => absurd rfl c9)
    refine sL_law_970 hΓ ?_
    exact kk σ1 c _ B _ _ _ _ _ hS3
  · obtain ⟨rfl, rfl, ec⟩ := h9
    refine ⟨rfl, ?_⟩
    show AW G κ _ _ 928 _ _ _
    have hS2 := hS
    obtain ⟨hL2, hM2, -, ho2, -⟩ := id hS2
    obtain ⟨A2, hMV2, hB2⟩ := id hM2
    refine sL_law_928 hΓ ?_
    refine sL_law_930 hΓ rfl ?_
    refine sL_law_931 hΓ rfl ?_
    refine sL_law_932 hΓ rfl ?_
    refine sL_law_934 hΓ ?_
    refine sL_law_935 hΓ ?_
    refine sL_law_936 hΓ hA (j := ii + 1) (show _ = nI (ii + 1) by rw [hyi]; exact nI_add ii 1) (by omega) hn ?_
    refine sL_law_937 hΓ 0 0 (Nat.le_of_ble_eq_true rfl) hMV2.o (fun κ_937 hΓ_937 => sp_speed hΓ_937 hMV2 hW (fun σ1 h1 f1 => ?_) )
    show AW G κ _ _ 940 _ _ _
    have hS3 := hS2.mod (MP.mk h1 rfl hB2) f1 (hL2.zc zJ9)
    obtain ⟨A3, hMV3, hB3⟩ := id hS3.2.1
    obtain ⟨-, -, -, ho3, -⟩ := id hS3
    refine sL_law_940 hΓ ?_
    refine sL_law_942 hΓ rfl ?_
    refine sL_law_943 hΓ 0 0 (Nat.le_of_ble_eq_true rfl) hMV3.o (fun κ_943 hΓ_943 => sp_thrown hΓ_943 hMV3 ?_)
    show AW G κ _ _ 946 _ _ _
    refine sL_law_946 hΓ rfl ?_
    refine sL_law_948 hΓ (fun _ => ?_) (fun c9 => absurd (show upd z 9 (bI (!rIsT (B 0) (xs (ii + 1)))) 9 = 1 by rw [ec]; rfl) c9)
    refine sL_law_953 hΓ rfl ?_
    refine sL_law_955 hΓ (fun _ => ?_) (fun c9 => absurd c9 (by decide))
    refine sL_law_970 hΓ ?_
    exact kk σ1 c _ B f _ _ _ _ hS3
theorem op_targetSpeed (hΓ : Ok G κ mL_law (d + 24) Q X) (hN : NcK κ) (hA : ArK G κ s0 n xs) (hn : n < 2 ^ 31) (hyi : yi = nI ii) (hb : ii + 6 ≤ n) (hS : LSt G σ c x am o A r z B f) (kk : ∀ (σ1 : Hp) (c1 : Nat → Nat) (z1 : Nat → Int32) (B1 : Nat → Nat → Int32) (f1 : Nat → Int64) (v5 v6 v7 v8 : Option LV), LSt G σ1 c1 x am o A r z1 B1 f1 → AW G κ cs ss 2959 [lR s0, lR x, lR am, lR o, lI yi, v5, v6, v7, v8] [] σ1) : AW G κ (cs + 40) (ss + 400) 973 [lR s0, lR x, lR am, lR o, lI yi, w5, w6, w7, w8] [] σ := by
  refine aw_less (cs2 := cs + 1) (ss2 := ss + 6) (by omega) (by omega) ?_
  obtain ⟨hL, hM, hc, ho, hco⟩ := id hS
  obtain ⟨n0, s, C, n2, C2, Nh, Ch, u, b, l, cd, og, hs, out, ol, hT, hR⟩ := hL
  have hL : RLx G σ c x A am z B := ⟨n0, s, C, n2, C2, Nh, Ch, u, b, l, cd, og, hs, out, ol, hT, hR⟩
  obtain ⟨A', hMV, hB⟩ := id hM
  obtain ⟨⟨hV, hC⟩, -⟩ := id hR
  obtain ⟨t, q, p, tr, g, hcg⟩ := hT.m
  have hW := hV.1.1
  obtain ⟨l9, hl9, hQ9⟩ := hV.ql
  refine sL_law_973 hΓ rfl ?_
  refine sL_law_974 hΓ rfl ?_
  refine sL_law_975 hΓ rfl ?_
  refine sL_law_977 hΓ ?_
  refine sL_law_978 hΓ ?_
  refine sL_law_979 hΓ hA (j := ii + 1) (show _ = nI (ii + 1) by rw [hyi]; exact nI_add ii 1) (by omega) hn ?_
  refine sL_law_980 hΓ rfl ?_
  refine sL_law_981 hΓ hN 1 6 (Nat.le_of_ble_eq_true rfl) (fun κ2 hok hN2 => wL_targetSpeed (cs := 0) (ss := 0) (f := f) hok hN2 1 6 hT.o (fun v σ1 => σ1 = σ ∧ rIsT (B 0) (xs (ii + 1)) = true ∧ v = (rTold (B 0) (xs (ii + 1)) 6)) (fun E σ1 => σ1 = σ ∧ E = "java/lang/IndexOutOfBoundsException" ∧ rIsT (B 0) (xs (ii + 1)) = false) (fun κ3 Q3 X3 hok3 hr ht => tt_targetSpeed (cs := 0) (ss := 0) hok3 hT.o g hV hC (fun e => ht _ _ ⟨rfl, rfl, e⟩) (fun e => hr _ _ ⟨rfl, e, rfl⟩)) (fun v σ1 h9 => ?_) (fun E σ1 h9 => ?_))
  · obtain ⟨rfl, ec, rfl⟩ := h9
    refine ⟨ho, ?_⟩
    show AW G κ _ _ 984 _ _ _
    have hS2 := hS.out (vp_updL f 0 ((rTold (B 0) (xs (ii + 1)) 6)).toInt64)
    obtain ⟨hL2, hM2, -, ho2, -⟩ := id hS2
    obtain ⟨A2, hMV2, hB2⟩ := id hM2
    refine sL_law_984 hΓ ?_
    refine sL_law_986 hΓ rfl ?_
    refine sL_law_987 hΓ rfl ?_
    refine sL_law_988 hΓ rfl ?_
    refine sL_law_990 hΓ ?_
    refine sL_law_991 hΓ ?_
    refine sL_law_992 hΓ hA (j := ii + 1) (show _ = nI (ii + 1) by rw [hyi]; exact nI_add ii 1) (by omega) hn ?_
    refine sL_law_993 hΓ 0 0 (Nat.le_of_ble_eq_true rfl) hMV2.o (fun κ_993 hΓ_993 => sp_targetSpeed hΓ_993 hMV2 hW (fun σ1 h1 f1 => ?_) )
    show AW G κ _ _ 996 _ _ _
    have hS3 := hS2.mod (MP.mk h1 rfl hB2) f1 (hL2.zc zJ9)
    obtain ⟨A3, hMV3, hB3⟩ := id hS3.2.1
    obtain ⟨-, -, -, ho3, -⟩ := id hS3
    refine sL_law_996 hΓ ?_
    refine sL_law_998 hΓ rfl ?_
    refine sL_law_999 hΓ 0 0 (Nat.le_of_ble_eq_true rfl) hMV3.o (fun κ_999 hΓ_999 => sp_thrown hΓ_999 hMV3 ?_)
    show AW G κ _ _ 1002 _ _ _
    refine sL_law_1002 hΓ rfl ?_
    refine sL_law_1004 hΓ (fun _ => ?_) (fun c9 => absurd (show upd z 9 (bI (!rIsT (B 0) (xs (ii + 1)))) 9 = 0 by rw [ec]; rfl) c9)
    refine sL_law_1009 hΓ rfl ?_
    refine sL_law_1011 hΓ (fun c9 => absurd rfl c9) (fun _ => ?_)
    refine sL_law_1014 hΓ rfl ?_
    refine sL_law_1015 hΓ ?_
    refine sL_law_1016 hΓ ho3 (j := 0) rfl (by decide) (by decide) ?_
    refine sL_law_1017 hΓ rfl ?_
    refine sL_law_1019 hΓ ?_
    refine sL_law_1020 hΓ ?_
    rw [vl0, lc0]
    refine sL_law_1021 hΓ (fun _ => ?_) (fun c9 => absurd rfl c9)
    refine sL_law_1026 hΓ ?_
    exact kk σ1 c _ B _ _ _ _ _ hS3
  · obtain ⟨rfl, rfl, ec⟩ := h9
    refine ⟨rfl, ?_⟩
    show AW G κ _ _ 984 _ _ _
    have hS2 := hS
    obtain ⟨hL2, hM2, -, ho2, -⟩ := id hS2
    obtain ⟨A2, hMV2, hB2⟩ := id hM2
    refine sL_law_984 hΓ ?_
    refine sL_law_986 hΓ rfl ?_
    refine sL_law_987 hΓ rfl ?_
    refine sL_law_988 hΓ rfl ?_
    refine sL_law_990 hΓ ?_
    refine sL_law_991 hΓ ?_
    refine sL_law_992 hΓ hA (j := ii + 1) (show _ = nI (ii + 1) by rw [hyi]; exact nI_add ii 1) (by omega) hn ?_
    refine sL_law_993 hΓ 0 0 (Nat.le_of_ble_eq_true rfl) hMV2.o (fun κ_993 hΓ_993 => sp_targetSpeed hΓ_993 hMV2 hW (fun σ1 h1 f1 => ?_) )
    show AW G κ _ _ 996 _ _ _
    have hS3 := hS2.mod (MP.mk h1 rfl hB2) f1 (hL2.zc zJ9)
    obtain ⟨A3, hMV3, hB3⟩ := id hS3.2.1
    obtain ⟨-, -, -, ho3, -⟩ := id hS3
    refine sL_law_996 hΓ ?_
    refine sL_law_998 hΓ rfl ?_
    refine sL_law_999 hΓ 0 0 (Nat.le_of_ble_eq_true rfl) hMV3.o (fun κ_999 hΓ_999 => sp_thrown hΓ_999 hMV3 ?_)
    show AW G κ _ _ 1002 _ _ _
    refine sL_law_1002 hΓ rfl ?_
    refine sL_law_1004 hΓ (fun _ => ?_) (fun c9 => absurd (show upd z 9 (bI (!rIsT (B 0) (xs (ii + 1)))) 9 = 1 by rw [ec]; rfl) c9)
    refine sL_law_1009 hΓ rfl ?_
    refine sL_law_1011 hΓ (fun _ => ?_) (fun c9 => absurd c9 (by decide))
    refine sL_law_1026 hΓ ?_
    exact kk σ1 c _ B f _ _ _ _ hS3
theorem op_brightness (hΓ : Ok G κ mL_law (d + 24) Q X) (hN : NcK κ) (hA : ArK G κ s0 n xs) (hn : n < 2 ^ 31) (hyi : yi = nI ii) (hb : ii + 6 ≤ n) (hS : LSt G σ c x am o A r z B f) (kk : ∀ (σ1 : Hp) (c1 : Nat → Nat) (z1 : Nat → Int32) (B1 : Nat → Nat → Int32) (f1 : Nat → Int64) (v5 v6 v7 v8 : Option LV), LSt G σ1 c1 x am o A r z1 B1 f1 → AW G κ cs ss 2959 [lR s0, lR x, lR am, lR o, lI yi, v5, v6, v7, v8] [] σ1) : AW G κ (cs + 40) (ss + 400) 1029 [lR s0, lR x, lR am, lR o, lI yi, w5, w6, w7, w8] [] σ := by
  refine aw_less (cs2 := cs + 1) (ss2 := ss + 6) (by omega) (by omega) ?_
  obtain ⟨hL, hM, hc, ho, hco⟩ := id hS
  obtain ⟨n0, s, C, n2, C2, Nh, Ch, u, b, l, cd, og, hs, out, ol, hT, hR⟩ := hL
  have hL : RLx G σ c x A am z B := ⟨n0, s, C, n2, C2, Nh, Ch, u, b, l, cd, og, hs, out, ol, hT, hR⟩
  obtain ⟨A', hMV, hB⟩ := id hM
  obtain ⟨⟨hV, hC⟩, -⟩ := id hR
  obtain ⟨t, q, p, tr, g, hcg⟩ := hT.m
  have hW := hV.1.1
  obtain ⟨l9, hl9, hQ9⟩ := hV.ql
  refine sL_law_1029 hΓ rfl ?_
  refine sL_law_1030 hΓ rfl ?_
  refine sL_law_1031 hΓ rfl ?_
  refine sL_law_1033 hΓ ?_
  refine sL_law_1034 hΓ ?_
  refine sL_law_1035 hΓ hA (j := ii + 1) (show _ = nI (ii + 1) by rw [hyi]; exact nI_add ii 1) (by omega) hn ?_
  refine sL_law_1036 hΓ rfl ?_
  refine sL_law_1037 hΓ hN 1 6 (Nat.le_of_ble_eq_true rfl) (fun κ2 hok hN2 => wL_brightness (cs := 0) (ss := 0) (f := f) hok hN2 1 6 hT.o (fun v σ1 => σ1 = σ ∧ rIsT (B 0) (xs (ii + 1)) = true ∧ v = (rTold (B 0) (xs (ii + 1)) 7)) (fun E σ1 => σ1 = σ ∧ E = "java/lang/IndexOutOfBoundsException" ∧ rIsT (B 0) (xs (ii + 1)) = false) (fun κ3 Q3 X3 hok3 hr ht => tt_brightness (cs := 0) (ss := 0) hok3 hT.o g hV hC (fun e => ht _ _ ⟨rfl, rfl, e⟩) (fun e => hr _ _ ⟨rfl, e, rfl⟩)) (fun v σ1 h9 => ?_) (fun E σ1 h9 => ?_))
  · obtain ⟨rfl, ec, rfl⟩ := h9
    refine ⟨ho, ?_⟩
    show AW G κ _ _ 1040 _ _ _
    have hS2 := hS.out (vp_updL f 0 ((rTold (B 0) (xs (ii + 1)) 7)).toInt64)
    obtain ⟨hL2, hM2, -, ho2, -⟩ := id hS2
    obtain ⟨A2, hMV2, hB2⟩ := id hM2
    refine sL_law_1040 hΓ ?_
    refine sL_law_1042 hΓ rfl ?_
    refine sL_law_1043 hΓ rfl ?_
    refine sL_law_1044 hΓ rfl ?_
    refine sL_law_1046 hΓ ?_
    refine sL_law_1047 hΓ ?_
    refine sL_law_1048 hΓ hA (j := ii + 1) (show _ = nI (ii + 1) by rw [hyi]; exact nI_add ii 1) (by omega) hn ?_
    refine sL_law_1049 hΓ 0 0 (Nat.le_of_ble_eq_true rfl) hMV2.o (fun κ_1049 hΓ_1049 => sp_brightness hΓ_1049 hMV2 hW (fun σ1 h1 f1 => ?_) )
    show AW G κ _ _ 1052 _ _ _
    have hS3 := hS2.mod (MP.mk h1 rfl hB2) f1 (hL2.zc zJ9)
    obtain ⟨A3, hMV3, hB3⟩ := id hS3.2.1
    obtain ⟨-, -, -, ho3, -⟩ := id hS3
    refine sL_law_1052 hΓ ?_
    refine sL_law_1054 hΓ rfl ?_
    refine sL_law_1055 hΓ 0 0 (Nat.le_of_ble_eq_true rfl) hMV3.o (fun κ_1055 hΓ_1055 => sp_thrown hΓ_1055 hMV3 ?_)
    show AW G κ _ _ 1058 _ _ _
    refine sL_law_1058 hΓ rfl ?_
    refine sL_law_1060 hΓ (fun _ => ?_) (fun c9 => absurd (show upd z 9 (bI (!rIsT (B 0) (xs (ii + 1)))) 9 = 0 by rw [ec]; rfl) c9)
    refine sL_law_1065 hΓ rfl ?_
    refine sL_law_1067 hΓ (fun c9 => absurd rfl c9) (fun _ => ?_)
    refine sL_law_1070 hΓ rfl ?_
    refine sL_law_1071 hΓ ?_
    refine sL_law_1072 hΓ ho3 (j := 0) rfl (by decide) (by decide) ?_
    refine sL_law_1073 hΓ rfl ?_
    refine sL_law_1075 hΓ ?_
    refine sL_law_1076 hΓ ?_
    rw [vl0, lc0]
    refine sL_law_1077 hΓ (fun _ => ?_) (fun c9 => absurd rfl c9)
    refine sL_law_1082 hΓ ?_
    exact kk σ1 c _ B _ _ _ _ _ hS3
  · obtain ⟨rfl, rfl, ec⟩ := h9
    refine ⟨rfl, ?_⟩
    show AW G κ _ _ 1040 _ _ _
    have hS2 := hS
    obtain ⟨hL2, hM2, -, ho2, -⟩ := id hS2
    obtain ⟨A2, hMV2, hB2⟩ := id hM2
    refine sL_law_1040 hΓ ?_
    refine sL_law_1042 hΓ rfl ?_
    refine sL_law_1043 hΓ rfl ?_
    refine sL_law_1044 hΓ rfl ?_
    refine sL_law_1046 hΓ ?_
    refine sL_law_1047 hΓ ?_
    refine sL_law_1048 hΓ hA (j := ii + 1) (show _ = nI (ii + 1) by rw [hyi]; exact nI_add ii 1) (by omega) hn ?_
    refine sL_law_1049 hΓ 0 0 (Nat.le_of_ble_eq_true rfl) hMV2.o (fun κ_1049 hΓ_1049 => sp_brightness hΓ_1049 hMV2 hW (fun σ1 h1 f1 => ?_) )
    show AW G κ _ _ 1052 _ _ _
    have hS3 := hS2.mod (MP.mk h1 rfl hB2) f1 (hL2.zc zJ9)
    obtain ⟨A3, hMV3, hB3⟩ := id hS3.2.1
    obtain ⟨-, -, -, ho3, -⟩ := id hS3
    refine sL_law_1052 hΓ ?_
    refine sL_law_1054 hΓ rfl ?_
    refine sL_law_1055 hΓ 0 0 (Nat.le_of_ble_eq_true rfl) hMV3.o (fun κ_1055 hΓ_1055 => sp_thrown hΓ_1055 hMV3 ?_)
    show AW G κ _ _ 1058 _ _ _
    refine sL_law_1058 hΓ rfl ?_
    refine sL_law_1060 hΓ (fun _ => ?_) (fun c9 => absurd (show upd z 9 (bI (!rIsT (B 0) (xs (ii + 1)))) 9 = 1 by rw [ec]; rfl) c9)
    refine sL_law_1065 hΓ rfl ?_
    refine sL_law_1067 hΓ (fun _ => ?_) (fun c9 => absurd c9 (by decide))
    refine sL_law_1082 hΓ ?_
    exact kk σ1 c _ B f _ _ _ _ hS3
theorem op_duty (hΓ : Ok G κ mL_law (d + 24) Q X) (hN : NcK κ) (hA : ArK G κ s0 n xs) (hn : n < 2 ^ 31) (hyi : yi = nI ii) (hb : ii + 6 ≤ n) (hS : LSt G σ c x am o A r z B f) (kk : ∀ (σ1 : Hp) (c1 : Nat → Nat) (z1 : Nat → Int32) (B1 : Nat → Nat → Int32) (f1 : Nat → Int64) (v5 v6 v7 v8 : Option LV), LSt G σ1 c1 x am o A r z1 B1 f1 → AW G κ cs ss 2959 [lR s0, lR x, lR am, lR o, lI yi, v5, v6, v7, v8] [] σ1) : AW G κ (cs + 40) (ss + 400) 1085 [lR s0, lR x, lR am, lR o, lI yi, w5, w6, w7, w8] [] σ := by
  refine aw_less (cs2 := cs + 1) (ss2 := ss + 6) (by omega) (by omega) ?_
  obtain ⟨hL, hM, hc, ho, hco⟩ := id hS
  obtain ⟨n0, s, C, n2, C2, Nh, Ch, u, b, l, cd, og, hs, out, ol, hT, hR⟩ := hL
  have hL : RLx G σ c x A am z B := ⟨n0, s, C, n2, C2, Nh, Ch, u, b, l, cd, og, hs, out, ol, hT, hR⟩
  obtain ⟨A', hMV, hB⟩ := id hM
  obtain ⟨⟨hV, hC⟩, -⟩ := id hR
  obtain ⟨t, q, p, tr, g, hcg⟩ := hT.m
  have hW := hV.1.1
  obtain ⟨l9, hl9, hQ9⟩ := hV.ql
  refine sL_law_1085 hΓ rfl ?_
  refine sL_law_1086 hΓ rfl ?_
  refine sL_law_1087 hΓ rfl ?_
  refine sL_law_1089 hΓ ?_
  refine sL_law_1090 hΓ ?_
  refine sL_law_1091 hΓ hA (j := ii + 1) (show _ = nI (ii + 1) by rw [hyi]; exact nI_add ii 1) (by omega) hn ?_
  refine sL_law_1092 hΓ rfl ?_
  refine sL_law_1093 hΓ hN 1 6 (Nat.le_of_ble_eq_true rfl) (fun κ2 hok hN2 => wL_duty (cs := 0) (ss := 0) (f := f) hok hN2 1 6 hT.o (fun v σ1 => σ1 = σ ∧ rIsT (B 0) (xs (ii + 1)) = true ∧ v = (rTold (B 0) (xs (ii + 1)) 8)) (fun E σ1 => σ1 = σ ∧ E = "java/lang/IndexOutOfBoundsException" ∧ rIsT (B 0) (xs (ii + 1)) = false) (fun κ3 Q3 X3 hok3 hr ht => tt_duty (cs := 0) (ss := 0) hok3 hT.o g hV hC (fun e => ht _ _ ⟨rfl, rfl, e⟩) (fun e => hr _ _ ⟨rfl, e, rfl⟩)) (fun v σ1 h9 => ?_) (fun E σ1 h9 => ?_))
  · obtain ⟨rfl, ec, rfl⟩ := h9
    refine ⟨ho, ?_⟩
    show AW G κ _ _ 1096 _ _ _
    have hS2 := hS.out (vp_updL f 0 ((rTold (B 0) (xs (ii + 1)) 8)).toInt64)
    obtain ⟨hL2, hM2, -, ho2, -⟩ := id hS2
    obtain ⟨A2, hMV2, hB2⟩ := id hM2
    refine sL_law_1096 hΓ ?_
    refine sL_law_1098 hΓ rfl ?_
    refine sL_law_1099 hΓ rfl ?_
    refine sL_law_1100 hΓ rfl ?_
    refine sL_law_1102 hΓ ?_
    refine sL_law_1103 hΓ ?_
    refine sL_law_1104 hΓ hA (j := ii + 1) (show _ = nI (ii + 1) by rw [hyi]; exact nI_add ii 1) (by omega) hn ?_
    refine sL_law_1105 hΓ 0 0 (Nat.le_of_ble_eq_true rfl) hMV2.o (fun κ_1105 hΓ_1105 => sp_duty hΓ_1105 hMV2 hW (fun σ1 h1 f1 => ?_) )
    show AW G κ _ _ 1108 _ _ _
    have hS3 := hS2.mod (MP.mk h1 rfl hB2) f1 (hL2.zc zJ9)
    obtain ⟨A3, hMV3, hB3⟩ := id hS3.2.1
    obtain ⟨-, -, -, ho3, -⟩ := id hS3
    refine sL_law_1108 hΓ ?_
    refine sL_law_1110 hΓ rfl ?_
    refine sL_law_1111 hΓ 0 0 (Nat.le_of_ble_eq_true rfl) hMV3.o (fun κ_1111 hΓ_1111 => sp_thrown hΓ_1111 hMV3 ?_)
    show AW G κ _ _ 1114 _ _ _
    refine sL_law_1114 hΓ rfl ?_
    refine sL_law_1116 hΓ (fun _ => ?_) (fun c9 => absurd (show upd z 9 (bI (!rIsT (B 0) (xs (ii + 1)))) 9 = 0 by rw [ec]; rfl) c9)
    refine sL_law_1121 hΓ rfl ?_
    refine sL_law_1123 hΓ (fun c9 => absurd rfl c9) (fun _ => ?_)
    refine sL_law_1126 hΓ rfl ?_
    refine sL_law_1127 hΓ ?_
    refine sL_law_1128 hΓ ho3 (j := 0) rfl (by decide) (by decide) ?_
    refine sL_law_1129 hΓ rfl ?_
    refine sL_law_1131 hΓ ?_
    refine sL_law_1132 hΓ ?_
    rw [vl0, lc0]
    refine sL_law_1133 hΓ (fun _ => ?_) (fun c9 => absurd rfl c9)
    refine sL_law_1138 hΓ ?_
    exact kk σ1 c _ B _ _ _ _ _ hS3
  · obtain ⟨rfl, rfl, ec⟩ := h9
    refine ⟨rfl, ?_⟩
    show AW G κ _ _ 1096 _ _ _
    have hS2 := hS
    obtain ⟨hL2, hM2, -, ho2, -⟩ := id hS2
    obtain ⟨A2, hMV2, hB2⟩ := id hM2
    refine sL_law_1096 hΓ ?_
    refine sL_law_1098 hΓ rfl ?_
    refine sL_law_1099 hΓ rfl ?_
    refine sL_law_1100 hΓ rfl ?_
    refine sL_law_1102 hΓ ?_
    refine sL_law_1103 hΓ ?_
    refine sL_law_1104 hΓ hA (j := ii + 1) (show _ = nI (ii + 1) by rw [hyi]; exact nI_add ii 1) (by omega) hn ?_
    refine sL_law_1105 hΓ 0 0 (Nat.le_of_ble_eq_true rfl) hMV2.o (fun κ_1105 hΓ_1105 => sp_duty hΓ_1105 hMV2 hW (fun σ1 h1 f1 => ?_) )
    show AW G κ _ _ 1108 _ _ _
    have hS3 := hS2.mod (MP.mk h1 rfl hB2) f1 (hL2.zc zJ9)
    obtain ⟨A3, hMV3, hB3⟩ := id hS3.2.1
    obtain ⟨-, -, -, ho3, -⟩ := id hS3
    refine sL_law_1108 hΓ ?_
    refine sL_law_1110 hΓ rfl ?_
    refine sL_law_1111 hΓ 0 0 (Nat.le_of_ble_eq_true rfl) hMV3.o (fun κ_1111 hΓ_1111 => sp_thrown hΓ_1111 hMV3 ?_)
    show AW G κ _ _ 1114 _ _ _
    refine sL_law_1114 hΓ rfl ?_
    refine sL_law_1116 hΓ (fun _ => ?_) (fun c9 => absurd (show upd z 9 (bI (!rIsT (B 0) (xs (ii + 1)))) 9 = 1 by rw [ec]; rfl) c9)
    refine sL_law_1121 hΓ rfl ?_
    refine sL_law_1123 hΓ (fun _ => ?_) (fun c9 => absurd c9 (by decide))
    refine sL_law_1138 hΓ ?_
    exact kk σ1 c _ B f _ _ _ _ hS3
theorem op_silence (hΓ : Ok G κ mL_law (d + 24) Q X) (hN : NcK κ) (hA : ArK G κ s0 n xs) (hn : n < 2 ^ 31) (hyi : yi = nI ii) (hb : ii + 6 ≤ n) (hS : LSt G σ c x am o A r z B f) (kk : ∀ (σ1 : Hp) (c1 : Nat → Nat) (z1 : Nat → Int32) (B1 : Nat → Nat → Int32) (f1 : Nat → Int64) (v5 v6 v7 v8 : Option LV), LSt G σ1 c1 x am o A r z1 B1 f1 → AW G κ cs ss 2959 [lR s0, lR x, lR am, lR o, lI yi, v5, v6, v7, v8] [] σ1) : AW G κ (cs + 40) (ss + 400) 1141 [lR s0, lR x, lR am, lR o, lI yi, w5, w6, w7, w8] [] σ := by
  refine aw_less (cs2 := cs + 1) (ss2 := ss + 6) (by omega) (by omega) ?_
  obtain ⟨hL, hM, hc, ho, hco⟩ := id hS
  obtain ⟨n0, s, C, n2, C2, Nh, Ch, u, b, l, cd, og, hs, out, ol, hT, hR⟩ := hL
  have hL : RLx G σ c x A am z B := ⟨n0, s, C, n2, C2, Nh, Ch, u, b, l, cd, og, hs, out, ol, hT, hR⟩
  obtain ⟨A', hMV, hB⟩ := id hM
  obtain ⟨⟨hV, hC⟩, -⟩ := id hR
  obtain ⟨t, q, p, tr, g, hcg⟩ := hT.m
  have hW := hV.1.1
  obtain ⟨l9, hl9, hQ9⟩ := hV.ql
  refine sL_law_1141 hΓ rfl ?_
  refine sL_law_1142 hΓ rfl ?_
  refine sL_law_1143 hΓ rfl ?_
  refine sL_law_1145 hΓ ?_
  refine sL_law_1146 hΓ ?_
  refine sL_law_1147 hΓ hA (j := ii + 1) (show _ = nI (ii + 1) by rw [hyi]; exact nI_add ii 1) (by omega) hn ?_
  refine sL_law_1148 hΓ rfl ?_
  refine sL_law_1149 hΓ hN 1 6 (Nat.le_of_ble_eq_true rfl) (fun κ2 hok hN2 => wL_silence (cs := 0) (ss := 0) (f := f) hok hN2 1 6 hT.o (fun v σ1 => σ1 = σ ∧ rIsT (B 0) (xs (ii + 1)) = true ∧ v = (rTold (B 0) (xs (ii + 1)) 9)) (fun E σ1 => σ1 = σ ∧ E = "java/lang/IndexOutOfBoundsException" ∧ rIsT (B 0) (xs (ii + 1)) = false) (fun κ3 Q3 X3 hok3 hr ht => tt_silence (cs := 0) (ss := 0) hok3 hT.o g hV hC (fun e => ht _ _ ⟨rfl, rfl, e⟩) (fun e => hr _ _ ⟨rfl, e, rfl⟩)) (fun v σ1 h9 => ?_) (fun E σ1 h9 => ?_))
  · obtain ⟨rfl, ec, rfl⟩ := h9
    refine ⟨ho, ?_⟩
    show AW G κ _ _ 1152 _ _ _
    have hS2 := hS.out (vp_updL f 0 ((rTold (B 0) (xs (ii + 1)) 9)).toInt64)
    obtain ⟨hL2, hM2, -, ho2, -⟩ := id hS2
    obtain ⟨A2, hMV2, hB2⟩ := id hM2
    refine sL_law_1152 hΓ ?_
    refine sL_law_1154 hΓ rfl ?_
    refine sL_law_1155 hΓ rfl ?_
    refine sL_law_1156 hΓ rfl ?_
    refine sL_law_1158 hΓ ?_
    refine sL_law_1159 hΓ ?_
    refine sL_law_1160 hΓ hA (j := ii + 1) (show _ = nI (ii + 1) by rw [hyi]; exact nI_add ii 1) (by omega) hn ?_
    refine sL_law_1161 hΓ 0 0 (Nat.le_of_ble_eq_true rfl) hMV2.o (fun κ_1161 hΓ_1161 => sp_silence hΓ_1161 hMV2 hW (fun σ1 h1 f1 => ?_) )
    show AW G κ _ _ 1164 _ _ _
    have hS3 := hS2.mod (MP.mk h1 rfl hB2) f1 (hL2.zc zJ9)
    obtain ⟨A3, hMV3, hB3⟩ := id hS3.2.1
    obtain ⟨-, -, -, ho3, -⟩ := id hS3
    refine sL_law_1164 hΓ ?_
    refine sL_law_1166 hΓ rfl ?_
    refine sL_law_1167 hΓ 0 0 (Nat.le_of_ble_eq_true rfl) hMV3.o (fun κ_1167 hΓ_1167 => sp_thrown hΓ_1167 hMV3 ?_)
    show AW G κ _ _ 1170 _ _ _
    refine sL_law_1170 hΓ rfl ?_
    refine sL_law_1172 hΓ (fun _ => ?_) (fun c9 => absurd (show upd z 9 (bI (!rIsT (B 0) (xs (ii + 1)))) 9 = 0 by rw [ec]; rfl) c9)
    refine sL_law_1177 hΓ rfl ?_
    refine sL_law_1179 hΓ (fun c9 => absurd rfl c9) (fun _ => ?_)
    refine sL_law_1182 hΓ rfl ?_
    refine sL_law_1183 hΓ ?_
    refine sL_law_1184 hΓ ho3 (j := 0) rfl (by decide) (by decide) ?_
    refine sL_law_1185 hΓ rfl ?_
    refine sL_law_1187 hΓ ?_
    refine sL_law_1188 hΓ ?_
    rw [vl0, lc0]
    refine sL_law_1189 hΓ (fun _ => ?_) (fun c9 => absurd rfl c9)
    refine sL_law_1194 hΓ ?_
    exact kk σ1 c _ B _ _ _ _ _ hS3
  · obtain ⟨rfl, rfl, ec⟩ := h9
    refine ⟨rfl, ?_⟩
    show AW G κ _ _ 1152 _ _ _
    have hS2 := hS
    obtain ⟨hL2, hM2, -, ho2, -⟩ := id hS2
    obtain ⟨A2, hMV2, hB2⟩ := id hM2
    refine sL_law_1152 hΓ ?_
    refine sL_law_1154 hΓ rfl ?_
    refine sL_law_1155 hΓ rfl ?_
    refine sL_law_1156 hΓ rfl ?_
    refine sL_law_1158 hΓ ?_
    refine sL_law_1159 hΓ ?_
    refine sL_law_1160 hΓ hA (j := ii + 1) (show _ = nI (ii + 1) by rw [hyi]; exact nI_add ii 1) (by omega) hn ?_
    refine sL_law_1161 hΓ 0 0 (Nat.le_of_ble_eq_true rfl) hMV2.o (fun κ_1161 hΓ_1161 => sp_silence hΓ_1161 hMV2 hW (fun σ1 h1 f1 => ?_) )
    show AW G κ _ _ 1164 _ _ _
    have hS3 := hS2.mod (MP.mk h1 rfl hB2) f1 (hL2.zc zJ9)
    obtain ⟨A3, hMV3, hB3⟩ := id hS3.2.1
    obtain ⟨-, -, -, ho3, -⟩ := id hS3
    refine sL_law_1164 hΓ ?_
    refine sL_law_1166 hΓ rfl ?_
    refine sL_law_1167 hΓ 0 0 (Nat.le_of_ble_eq_true rfl) hMV3.o (fun κ_1167 hΓ_1167 => sp_thrown hΓ_1167 hMV3 ?_)
    show AW G κ _ _ 1170 _ _ _
    refine sL_law_1170 hΓ rfl ?_
    refine sL_law_1172 hΓ (fun _ => ?_) (fun c9 => absurd (show upd z 9 (bI (!rIsT (B 0) (xs (ii + 1)))) 9 = 1 by rw [ec]; rfl) c9)
    refine sL_law_1177 hΓ rfl ?_
    refine sL_law_1179 hΓ (fun _ => ?_) (fun c9 => absurd c9 (by decide))
    refine sL_law_1194 hΓ ?_
    exact kk σ1 c _ B f _ _ _ _ hS3
theorem op_sectionsEntered (hΓ : Ok G κ mL_law (d + 24) Q X) (hN : NcK κ) (hA : ArK G κ s0 n xs) (hn : n < 2 ^ 31) (hyi : yi = nI ii) (hb : ii + 6 ≤ n) (hS : LSt G σ c x am o A r z B f) (kk : ∀ (σ1 : Hp) (c1 : Nat → Nat) (z1 : Nat → Int32) (B1 : Nat → Nat → Int32) (f1 : Nat → Int64) (v5 v6 v7 v8 : Option LV), LSt G σ1 c1 x am o A r z1 B1 f1 → AW G κ cs ss 2959 [lR s0, lR x, lR am, lR o, lI yi, v5, v6, v7, v8] [] σ1) : AW G κ (cs + 40) (ss + 400) 1197 [lR s0, lR x, lR am, lR o, lI yi, w5, w6, w7, w8] [] σ := by
  refine aw_less (cs2 := cs + 1) (ss2 := ss + 6) (by omega) (by omega) ?_
  obtain ⟨hL, hM, hc, ho, hco⟩ := id hS
  obtain ⟨n0, s, C, n2, C2, Nh, Ch, u, b, l, cd, og, hs, out, ol, hT, hR⟩ := hL
  have hL : RLx G σ c x A am z B := ⟨n0, s, C, n2, C2, Nh, Ch, u, b, l, cd, og, hs, out, ol, hT, hR⟩
  obtain ⟨A', hMV, hB⟩ := id hM
  obtain ⟨⟨hV, hC⟩, -⟩ := id hR
  obtain ⟨t, q, p, tr, g, hcg⟩ := hT.m
  have hW := hV.1.1
  obtain ⟨l9, hl9, hQ9⟩ := hV.ql
  refine sL_law_1197 hΓ rfl ?_
  refine sL_law_1198 hΓ rfl ?_
  refine sL_law_1199 hΓ rfl ?_
  refine sL_law_1201 hΓ ?_
  refine sL_law_1202 hΓ ?_
  refine sL_law_1203 hΓ hA (j := ii + 1) (show _ = nI (ii + 1) by rw [hyi]; exact nI_add ii 1) (by omega) hn ?_
  refine sL_law_1204 hΓ rfl ?_
  refine sL_law_1205 hΓ hN 1 6 (Nat.le_of_ble_eq_true rfl) (fun κ2 hok hN2 => wL_sectionsEntered (cs := 0) (ss := 0) (f := f) hok hN2 1 6 hT.o (fun v σ1 => σ1 = σ ∧ rIsT (B 0) (xs (ii + 1)) = true ∧ v = (rTold (B 0) (xs (ii + 1)) 10)) (fun E σ1 => σ1 = σ ∧ E = "java/lang/IndexOutOfBoundsException" ∧ rIsT (B 0) (xs (ii + 1)) = false) (fun κ3 Q3 X3 hok3 hr ht => tt_sectionsEntered (cs := 0) (ss := 0) hok3 hT.o g hV hC (fun e => ht _ _ ⟨rfl, rfl, e⟩) (fun e => hr _ _ ⟨rfl, e, rfl⟩)) (fun v σ1 h9 => ?_) (fun E σ1 h9 => ?_))
  · obtain ⟨rfl, ec, rfl⟩ := h9
    refine ⟨ho, ?_⟩
    show AW G κ _ _ 1208 _ _ _
    have hS2 := hS.out (vp_updL f 0 ((rTold (B 0) (xs (ii + 1)) 10)).toInt64)
    obtain ⟨hL2, hM2, -, ho2, -⟩ := id hS2
    obtain ⟨A2, hMV2, hB2⟩ := id hM2
    refine sL_law_1208 hΓ ?_
    refine sL_law_1210 hΓ rfl ?_
    refine sL_law_1211 hΓ rfl ?_
    refine sL_law_1212 hΓ rfl ?_
    refine sL_law_1214 hΓ ?_
    refine sL_law_1215 hΓ ?_
    refine sL_law_1216 hΓ hA (j := ii + 1) (show _ = nI (ii + 1) by rw [hyi]; exact nI_add ii 1) (by omega) hn ?_
    refine sL_law_1217 hΓ 0 0 (Nat.le_of_ble_eq_true rfl) hMV2.o (fun κ_1217 hΓ_1217 => sp_sectionsEntered hΓ_1217 hMV2 hW (fun σ1 h1 f1 => ?_) )
    show AW G κ _ _ 1220 _ _ _
    have hS3 := hS2.mod (MP.mk h1 rfl hB2) f1 (hL2.zc zJ9)
    obtain ⟨A3, hMV3, hB3⟩ := id hS3.2.1
    obtain ⟨-, -, -, ho3, -⟩ := id hS3
    refine sL_law_1220 hΓ ?_
    refine sL_law_1222 hΓ rfl ?_
    refine sL_law_1223 hΓ 0 0 (Nat.le_of_ble_eq_true rfl) hMV3.o (fun κ_1223 hΓ_1223 => sp_thrown hΓ_1223 hMV3 ?_)
    show AW G κ _ _ 1226 _ _ _
    refine sL_law_1226 hΓ rfl ?_
    refine sL_law_1228 hΓ (fun _ => ?_) (fun c9 => absurd (show upd z 9 (bI (!rIsT (B 0) (xs (ii + 1)))) 9 = 0 by rw [ec]; rfl) c9)
    refine sL_law_1233 hΓ rfl ?_
    refine sL_law_1235 hΓ (fun c9 => absurd rfl c9) (fun _ => ?_)
    refine sL_law_1238 hΓ rfl ?_
    refine sL_law_1239 hΓ ?_
    refine sL_law_1240 hΓ ho3 (j := 0) rfl (by decide) (by decide) ?_
    refine sL_law_1241 hΓ rfl ?_
    refine sL_law_1243 hΓ ?_
    refine sL_law_1244 hΓ ?_
    rw [vl0, lc0]
    refine sL_law_1245 hΓ (fun _ => ?_) (fun c9 => absurd rfl c9)
    refine sL_law_1250 hΓ ?_
    exact kk σ1 c _ B _ _ _ _ _ hS3
  · obtain ⟨rfl, rfl, ec⟩ := h9
    refine ⟨rfl, ?_⟩
    show AW G κ _ _ 1208 _ _ _
    have hS2 := hS
    obtain ⟨hL2, hM2, -, ho2, -⟩ := id hS2
    obtain ⟨A2, hMV2, hB2⟩ := id hM2
    refine sL_law_1208 hΓ ?_
    refine sL_law_1210 hΓ rfl ?_
    refine sL_law_1211 hΓ rfl ?_
    refine sL_law_1212 hΓ rfl ?_
    refine sL_law_1214 hΓ ?_
    refine sL_law_1215 hΓ ?_
    refine sL_law_1216 hΓ hA (j := ii + 1) (show _ = nI (ii + 1) by rw [hyi]; exact nI_add ii 1) (by omega) hn ?_
    refine sL_law_1217 hΓ 0 0 (Nat.le_of_ble_eq_true rfl) hMV2.o (fun κ_1217 hΓ_1217 => sp_sectionsEntered hΓ_1217 hMV2 hW (fun σ1 h1 f1 => ?_) )
    show AW G κ _ _ 1220 _ _ _
    have hS3 := hS2.mod (MP.mk h1 rfl hB2) f1 (hL2.zc zJ9)
    obtain ⟨A3, hMV3, hB3⟩ := id hS3.2.1
    obtain ⟨-, -, -, ho3, -⟩ := id hS3
    refine sL_law_1220 hΓ ?_
    refine sL_law_1222 hΓ rfl ?_
    refine sL_law_1223 hΓ 0 0 (Nat.le_of_ble_eq_true rfl) hMV3.o (fun κ_1223 hΓ_1223 => sp_thrown hΓ_1223 hMV3 ?_)
    show AW G κ _ _ 1226 _ _ _
    refine sL_law_1226 hΓ rfl ?_
    refine sL_law_1228 hΓ (fun _ => ?_) (fun c9 => absurd (show upd z 9 (bI (!rIsT (B 0) (xs (ii + 1)))) 9 = 1 by rw [ec]; rfl) c9)
    refine sL_law_1233 hΓ rfl ?_
    refine sL_law_1235 hΓ (fun _ => ?_) (fun c9 => absurd c9 (by decide))
    refine sL_law_1250 hΓ ?_
    exact kk σ1 c _ B f _ _ _ _ hS3
theorem op_obeyed (hΓ : Ok G κ mL_law (d + 24) Q X) (hN : NcK κ) (hA : ArK G κ s0 n xs) (hn : n < 2 ^ 31) (hyi : yi = nI ii) (hb : ii + 6 ≤ n) (hS : LSt G σ c x am o A r z B f) (kk : ∀ (σ1 : Hp) (c1 : Nat → Nat) (z1 : Nat → Int32) (B1 : Nat → Nat → Int32) (f1 : Nat → Int64) (v5 v6 v7 v8 : Option LV), LSt G σ1 c1 x am o A r z1 B1 f1 → AW G κ cs ss 2959 [lR s0, lR x, lR am, lR o, lI yi, v5, v6, v7, v8] [] σ1) : AW G κ (cs + 40) (ss + 400) 1253 [lR s0, lR x, lR am, lR o, lI yi, w5, w6, w7, w8] [] σ := by
  refine aw_less (cs2 := cs + 1) (ss2 := ss + 6) (by omega) (by omega) ?_
  obtain ⟨hL, hM, hc, ho, hco⟩ := id hS
  obtain ⟨n0, s, C, n2, C2, Nh, Ch, u, b, l, cd, og, hs, out, ol, hT, hR⟩ := hL
  have hL : RLx G σ c x A am z B := ⟨n0, s, C, n2, C2, Nh, Ch, u, b, l, cd, og, hs, out, ol, hT, hR⟩
  obtain ⟨A', hMV, hB⟩ := id hM
  obtain ⟨⟨hV, hC⟩, -⟩ := id hR
  obtain ⟨t, q, p, tr, g, hcg⟩ := hT.m
  have hW := hV.1.1
  obtain ⟨l9, hl9, hQ9⟩ := hV.ql
  refine sL_law_1253 hΓ rfl ?_
  refine sL_law_1254 hΓ rfl ?_
  refine sL_law_1255 hΓ rfl ?_
  refine sL_law_1257 hΓ ?_
  refine sL_law_1258 hΓ ?_
  refine sL_law_1259 hΓ hA (j := ii + 1) (show _ = nI (ii + 1) by rw [hyi]; exact nI_add ii 1) (by omega) hn ?_
  refine sL_law_1260 hΓ rfl ?_
  refine sL_law_1261 hΓ hN 1 6 (Nat.le_of_ble_eq_true rfl) (fun κ2 hok hN2 => wL_obeyed (cs := 0) (ss := 0) (f := f) hok hN2 1 6 hT.o (fun v σ1 => σ1 = σ ∧ rIsT (B 0) (xs (ii + 1)) = true ∧ v = (rTold (B 0) (xs (ii + 1)) 11)) (fun E σ1 => σ1 = σ ∧ E = "java/lang/IndexOutOfBoundsException" ∧ rIsT (B 0) (xs (ii + 1)) = false) (fun κ3 Q3 X3 hok3 hr ht => tt_obeyed (cs := 0) (ss := 0) hok3 hT.o g hV hC (fun e => ht _ _ ⟨rfl, rfl, e⟩) (fun e => hr _ _ ⟨rfl, e, rfl⟩)) (fun v σ1 h9 => ?_) (fun E σ1 h9 => ?_))
  · obtain ⟨rfl, ec, rfl⟩ := h9
    refine ⟨ho, ?_⟩
    show AW G κ _ _ 1264 _ _ _
    have hS2 := hS.out (vp_updL f 0 ((rTold (B 0) (xs (ii + 1)) 11)).toInt64)
    obtain ⟨hL2, hM2, -, ho2, -⟩ := id hS2
    obtain ⟨A2, hMV2, hB2⟩ := id hM2
    refine sL_law_1264 hΓ ?_
    refine sL_law_1266 hΓ rfl ?_
    refine sL_law_1267 hΓ rfl ?_
    refine sL_law_1268 hΓ rfl ?_
    refine sL_law_1270 hΓ ?_
    refine sL_law_1271 hΓ ?_
    refine sL_law_1272 hΓ hA (j := ii + 1) (show _ = nI (ii + 1) by rw [hyi]; exact nI_add ii 1) (by omega) hn ?_
    refine sL_law_1273 hΓ 0 0 (Nat.le_of_ble_eq_true rfl) hMV2.o (fun κ_1273 hΓ_1273 => sp_obeyed hΓ_1273 hMV2 hW (fun σ1 h1 f1 => ?_) )
    show AW G κ _ _ 1276 _ _ _
    have hS3 := hS2.mod (MP.mk h1 rfl hB2) f1 (hL2.zc zJ9)
    obtain ⟨A3, hMV3, hB3⟩ := id hS3.2.1
    obtain ⟨-, -, -, ho3, -⟩ := id hS3
    refine sL_law_1276 hΓ ?_
    refine sL_law_1278 hΓ rfl ?_
    refine sL_law_1279 hΓ 0 0 (Nat.le_of_ble_eq_true rfl) hMV3.o (fun κ_1279 hΓ_1279 => sp_thrown hΓ_1279 hMV3 ?_)
    show AW G κ _ _ 1282 _ _ _
    refine sL_law_1282 hΓ rfl ?_
    refine sL_law_1284 hΓ (fun _ => ?_) (fun c9 => absurd (show upd z 9 (bI (!rIsT (B 0) (xs (ii + 1)))) 9 = 0 by rw [ec]; rfl) c9)
    refine sL_law_1289 hΓ rfl ?_
    refine sL_law_1291 hΓ (fun c9 => absurd rfl c9) (fun _ => ?_)
    refine sL_law_1294 hΓ rfl ?_
    refine sL_law_1295 hΓ ?_
    refine sL_law_1296 hΓ ho3 (j := 0) rfl (by decide) (by decide) ?_
    refine sL_law_1297 hΓ rfl ?_
    refine sL_law_1299 hΓ ?_
    refine sL_law_1300 hΓ ?_
    rw [vl0, lc0]
    refine sL_law_1301 hΓ (fun _ => ?_) (fun c9 => absurd rfl c9)
    refine sL_law_1306 hΓ ?_
    exact kk σ1 c _ B _ _ _ _ _ hS3
  · obtain ⟨rfl, rfl, ec⟩ := h9
    refine ⟨rfl, ?_⟩
    show AW G κ _ _ 1264 _ _ _
    have hS2 := hS
    obtain ⟨hL2, hM2, -, ho2, -⟩ := id hS2
    obtain ⟨A2, hMV2, hB2⟩ := id hM2
    refine sL_law_1264 hΓ ?_
    refine sL_law_1266 hΓ rfl ?_
    refine sL_law_1267 hΓ rfl ?_
    refine sL_law_1268 hΓ rfl ?_
    refine sL_law_1270 hΓ ?_
    refine sL_law_1271 hΓ ?_
    refine sL_law_1272 hΓ hA (j := ii + 1) (show _ = nI (ii + 1) by rw [hyi]; exact nI_add ii 1) (by omega) hn ?_
    refine sL_law_1273 hΓ 0 0 (Nat.le_of_ble_eq_true rfl) hMV2.o (fun κ_1273 hΓ_1273 => sp_obeyed hΓ_1273 hMV2 hW (fun σ1 h1 f1 => ?_) )
    show AW G κ _ _ 1276 _ _ _
    have hS3 := hS2.mod (MP.mk h1 rfl hB2) f1 (hL2.zc zJ9)
    obtain ⟨A3, hMV3, hB3⟩ := id hS3.2.1
    obtain ⟨-, -, -, ho3, -⟩ := id hS3
    refine sL_law_1276 hΓ ?_
    refine sL_law_1278 hΓ rfl ?_
    refine sL_law_1279 hΓ 0 0 (Nat.le_of_ble_eq_true rfl) hMV3.o (fun κ_1279 hΓ_1279 => sp_thrown hΓ_1279 hMV3 ?_)
    show AW G κ _ _ 1282 _ _ _
    refine sL_law_1282 hΓ rfl ?_
    refine sL_law_1284 hΓ (fun _ => ?_) (fun c9 => absurd (show upd z 9 (bI (!rIsT (B 0) (xs (ii + 1)))) 9 = 1 by rw [ec]; rfl) c9)
    refine sL_law_1289 hΓ rfl ?_
    refine sL_law_1291 hΓ (fun _ => ?_) (fun c9 => absurd c9 (by decide))
    refine sL_law_1306 hΓ ?_
    exact kk σ1 c _ B f _ _ _ _ hS3
theorem op_rejected (hΓ : Ok G κ mL_law (d + 24) Q X) (hN : NcK κ) (hA : ArK G κ s0 n xs) (hn : n < 2 ^ 31) (hyi : yi = nI ii) (hb : ii + 6 ≤ n) (hS : LSt G σ c x am o A r z B f) (kk : ∀ (σ1 : Hp) (c1 : Nat → Nat) (z1 : Nat → Int32) (B1 : Nat → Nat → Int32) (f1 : Nat → Int64) (v5 v6 v7 v8 : Option LV), LSt G σ1 c1 x am o A r z1 B1 f1 → AW G κ cs ss 2959 [lR s0, lR x, lR am, lR o, lI yi, v5, v6, v7, v8] [] σ1) : AW G κ (cs + 40) (ss + 400) 1309 [lR s0, lR x, lR am, lR o, lI yi, w5, w6, w7, w8] [] σ := by
  refine aw_less (cs2 := cs + 1) (ss2 := ss + 6) (by omega) (by omega) ?_
  obtain ⟨hL, hM, hc, ho, hco⟩ := id hS
  obtain ⟨n0, s, C, n2, C2, Nh, Ch, u, b, l, cd, og, hs, out, ol, hT, hR⟩ := hL
  have hL : RLx G σ c x A am z B := ⟨n0, s, C, n2, C2, Nh, Ch, u, b, l, cd, og, hs, out, ol, hT, hR⟩
  obtain ⟨A', hMV, hB⟩ := id hM
  obtain ⟨⟨hV, hC⟩, -⟩ := id hR
  obtain ⟨t, q, p, tr, g, hcg⟩ := hT.m
  have hW := hV.1.1
  obtain ⟨l9, hl9, hQ9⟩ := hV.ql
  refine sL_law_1309 hΓ rfl ?_
  refine sL_law_1310 hΓ rfl ?_
  refine sL_law_1311 hΓ rfl ?_
  refine sL_law_1313 hΓ ?_
  refine sL_law_1314 hΓ ?_
  refine sL_law_1315 hΓ hA (j := ii + 1) (show _ = nI (ii + 1) by rw [hyi]; exact nI_add ii 1) (by omega) hn ?_
  refine sL_law_1316 hΓ rfl ?_
  refine sL_law_1317 hΓ hN 1 6 (Nat.le_of_ble_eq_true rfl) (fun κ2 hok hN2 => wL_rejected (cs := 0) (ss := 0) (f := f) hok hN2 1 6 hT.o (fun v σ1 => σ1 = σ ∧ rIsT (B 0) (xs (ii + 1)) = true ∧ v = (rTold (B 0) (xs (ii + 1)) 12)) (fun E σ1 => σ1 = σ ∧ E = "java/lang/IndexOutOfBoundsException" ∧ rIsT (B 0) (xs (ii + 1)) = false) (fun κ3 Q3 X3 hok3 hr ht => tt_rejected (cs := 0) (ss := 0) hok3 hT.o g hV hC (fun e => ht _ _ ⟨rfl, rfl, e⟩) (fun e => hr _ _ ⟨rfl, e, rfl⟩)) (fun v σ1 h9 => ?_) (fun E σ1 h9 => ?_))
  · obtain ⟨rfl, ec, rfl⟩ := h9
    refine ⟨ho, ?_⟩
    show AW G κ _ _ 1320 _ _ _
    have hS2 := hS.out (vp_updL f 0 ((rTold (B 0) (xs (ii + 1)) 12)).toInt64)
    obtain ⟨hL2, hM2, -, ho2, -⟩ := id hS2
    obtain ⟨A2, hMV2, hB2⟩ := id hM2
    refine sL_law_1320 hΓ ?_
    refine sL_law_1322 hΓ rfl ?_
    refine sL_law_1323 hΓ rfl ?_
    refine sL_law_1324 hΓ rfl ?_
    refine sL_law_1326 hΓ ?_
    refine sL_law_1327 hΓ ?_
    refine sL_law_1328 hΓ hA (j := ii + 1) (show _ = nI (ii + 1) by rw [hyi]; exact nI_add ii 1) (by omega) hn ?_
    refine sL_law_1329 hΓ 0 0 (Nat.le_of_ble_eq_true rfl) hMV2.o (fun κ_1329 hΓ_1329 => sp_rejected hΓ_1329 hMV2 hW (fun σ1 h1 f1 => ?_) )
    show AW G κ _ _ 1332 _ _ _
    have hS3 := hS2.mod (MP.mk h1 rfl hB2) f1 (hL2.zc zJ9)
    obtain ⟨A3, hMV3, hB3⟩ := id hS3.2.1
    obtain ⟨-, -, -, ho3, -⟩ := id hS3
    refine sL_law_1332 hΓ ?_
    refine sL_law_1334 hΓ rfl ?_
    refine sL_law_1335 hΓ 0 0 (Nat.le_of_ble_eq_true rfl) hMV3.o (fun κ_1335 hΓ_1335 => sp_thrown hΓ_1335 hMV3 ?_)
    show AW G κ _ _ 1338 _ _ _
    refine sL_law_1338 hΓ rfl ?_
    refine sL_law_1340 hΓ (fun _ => ?_) (fun c9 => absurd (show upd z 9 (bI (!rIsT (B 0) (xs (ii + 1)))) 9 = 0 by rw [ec]; rfl) c9)
    refine sL_law_1345 hΓ rfl ?_
    refine sL_law_1347 hΓ (fun c9 => absurd rfl c9) (fun _ => ?_)
    refine sL_law_1350 hΓ rfl ?_
    refine sL_law_1351 hΓ ?_
    refine sL_law_1352 hΓ ho3 (j := 0) rfl (by decide) (by decide) ?_
    refine sL_law_1353 hΓ rfl ?_
    refine sL_law_1355 hΓ ?_
    refine sL_law_1356 hΓ ?_
    rw [vl0, lc0]
    refine sL_law_1357 hΓ (fun _ => ?_) (fun c9 => absurd rfl c9)
    refine sL_law_1362 hΓ ?_
    exact kk σ1 c _ B _ _ _ _ _ hS3
  · obtain ⟨rfl, rfl, ec⟩ := h9
    refine ⟨rfl, ?_⟩
    show AW G κ _ _ 1320 _ _ _
    have hS2 := hS
    obtain ⟨hL2, hM2, -, ho2, -⟩ := id hS2
    obtain ⟨A2, hMV2, hB2⟩ := id hM2
    refine sL_law_1320 hΓ ?_
    refine sL_law_1322 hΓ rfl ?_
    refine sL_law_1323 hΓ rfl ?_
    refine sL_law_1324 hΓ rfl ?_
    refine sL_law_1326 hΓ ?_
    refine sL_law_1327 hΓ ?_
    refine sL_law_1328 hΓ hA (j := ii + 1) (show _ = nI (ii + 1) by rw [hyi]; exact nI_add ii 1) (by omega) hn ?_
    refine sL_law_1329 hΓ 0 0 (Nat.le_of_ble_eq_true rfl) hMV2.o (fun κ_1329 hΓ_1329 => sp_rejected hΓ_1329 hMV2 hW (fun σ1 h1 f1 => ?_) )
    show AW G κ _ _ 1332 _ _ _
    have hS3 := hS2.mod (MP.mk h1 rfl hB2) f1 (hL2.zc zJ9)
    obtain ⟨A3, hMV3, hB3⟩ := id hS3.2.1
    obtain ⟨-, -, -, ho3, -⟩ := id hS3
    refine sL_law_1332 hΓ ?_
    refine sL_law_1334 hΓ rfl ?_
    refine sL_law_1335 hΓ 0 0 (Nat.le_of_ble_eq_true rfl) hMV3.o (fun κ_1335 hΓ_1335 => sp_thrown hΓ_1335 hMV3 ?_)
    show AW G κ _ _ 1338 _ _ _
    refine sL_law_1338 hΓ rfl ?_
    refine sL_law_1340 hΓ (fun _ => ?_) (fun c9 => absurd (show upd z 9 (bI (!rIsT (B 0) (xs (ii + 1)))) 9 = 1 by rw [ec]; rfl) c9)
    refine sL_law_1345 hΓ rfl ?_
    refine sL_law_1347 hΓ (fun _ => ?_) (fun c9 => absurd c9 (by decide))
    refine sL_law_1362 hΓ ?_
    exact kk σ1 c _ B f _ _ _ _ hS3
theorem op_unheard (hΓ : Ok G κ mL_law (d + 24) Q X) (hN : NcK κ) (hA : ArK G κ s0 n xs) (hn : n < 2 ^ 31) (hyi : yi = nI ii) (hb : ii + 6 ≤ n) (hS : LSt G σ c x am o A r z B f) (kk : ∀ (σ1 : Hp) (c1 : Nat → Nat) (z1 : Nat → Int32) (B1 : Nat → Nat → Int32) (f1 : Nat → Int64) (v5 v6 v7 v8 : Option LV), LSt G σ1 c1 x am o A r z1 B1 f1 → AW G κ cs ss 2959 [lR s0, lR x, lR am, lR o, lI yi, v5, v6, v7, v8] [] σ1) : AW G κ (cs + 40) (ss + 400) 1365 [lR s0, lR x, lR am, lR o, lI yi, w5, w6, w7, w8] [] σ := by
  refine aw_less (cs2 := cs + 1) (ss2 := ss + 6) (by omega) (by omega) ?_
  obtain ⟨hL, hM, hc, ho, hco⟩ := id hS
  obtain ⟨n0, s, C, n2, C2, Nh, Ch, u, b, l, cd, og, hs, out, ol, hT, hR⟩ := hL
  have hL : RLx G σ c x A am z B := ⟨n0, s, C, n2, C2, Nh, Ch, u, b, l, cd, og, hs, out, ol, hT, hR⟩
  obtain ⟨A', hMV, hB⟩ := id hM
  obtain ⟨⟨hV, hC⟩, -⟩ := id hR
  obtain ⟨t, q, p, tr, g, hcg⟩ := hT.m
  have hW := hV.1.1
  obtain ⟨l9, hl9, hQ9⟩ := hV.ql
  refine sL_law_1365 hΓ rfl ?_
  refine sL_law_1366 hΓ rfl ?_
  refine sL_law_1367 hΓ rfl ?_
  refine sL_law_1369 hΓ ?_
  refine sL_law_1370 hΓ ?_
  refine sL_law_1371 hΓ hA (j := ii + 1) (show _ = nI (ii + 1) by rw [hyi]; exact nI_add ii 1) (by omega) hn ?_
  refine sL_law_1372 hΓ rfl ?_
  refine sL_law_1373 hΓ hN 1 6 (Nat.le_of_ble_eq_true rfl) (fun κ2 hok hN2 => wL_unheard (cs := 0) (ss := 0) (f := f) hok hN2 1 6 hT.o (fun v σ1 => σ1 = σ ∧ rIsT (B 0) (xs (ii + 1)) = true ∧ v = (rTold (B 0) (xs (ii + 1)) 13)) (fun E σ1 => σ1 = σ ∧ E = "java/lang/IndexOutOfBoundsException" ∧ rIsT (B 0) (xs (ii + 1)) = false) (fun κ3 Q3 X3 hok3 hr ht => tt_unheard (cs := 0) (ss := 0) hok3 hT.o g hV hC (fun e => ht _ _ ⟨rfl, rfl, e⟩) (fun e => hr _ _ ⟨rfl, e, rfl⟩)) (fun v σ1 h9 => ?_) (fun E σ1 h9 => ?_))
  · obtain ⟨rfl, ec, rfl⟩ := h9
    refine ⟨ho, ?_⟩
    show AW G κ _ _ 1376 _ _ _
    have hS2 := hS.out (vp_updL f 0 ((rTold (B 0) (xs (ii + 1)) 13)).toInt64)
    obtain ⟨hL2, hM2, -, ho2, -⟩ := id hS2
    obtain ⟨A2, hMV2, hB2⟩ := id hM2
    refine sL_law_1376 hΓ ?_
    refine sL_law_1378 hΓ rfl ?_
    refine sL_law_1379 hΓ rfl ?_
    refine sL_law_1380 hΓ rfl ?_
    refine sL_law_1382 hΓ ?_
    refine sL_law_1383 hΓ ?_
    refine sL_law_1384 hΓ hA (j := ii + 1) (show _ = nI (ii + 1) by rw [hyi]; exact nI_add ii 1) (by omega) hn ?_
    refine sL_law_1385 hΓ 0 0 (Nat.le_of_ble_eq_true rfl) hMV2.o (fun κ_1385 hΓ_1385 => sp_unheard hΓ_1385 hMV2 hW (fun σ1 h1 f1 => ?_) )
    show AW G κ _ _ 1388 _ _ _
    have hS3 := hS2.mod (MP.mk h1 rfl hB2) f1 (hL2.zc zJ9)
    obtain ⟨A3, hMV3, hB3⟩ := id hS3.2.1
    obtain ⟨-, -, -, ho3, -⟩ := id hS3
    refine sL_law_1388 hΓ ?_
    refine sL_law_1390 hΓ rfl ?_
    refine sL_law_1391 hΓ 0 0 (Nat.le_of_ble_eq_true rfl) hMV3.o (fun κ_1391 hΓ_1391 => sp_thrown hΓ_1391 hMV3 ?_)
    show AW G κ _ _ 1394 _ _ _
    refine sL_law_1394 hΓ rfl ?_
    refine sL_law_1396 hΓ (fun _ => ?_) (fun c9 => absurd (show upd z 9 (bI (!rIsT (B 0) (xs (ii + 1)))) 9 = 0 by rw [ec]; rfl) c9)
    refine sL_law_1401 hΓ rfl ?_
    refine sL_law_1403 hΓ (fun c9 => absurd rfl c9) (fun _ => ?_)
    refine sL_law_1406 hΓ rfl ?_
    refine sL_law_1407 hΓ ?_
    refine sL_law_1408 hΓ ho3 (j := 0) rfl (by decide) (by decide) ?_
    refine sL_law_1409 hΓ rfl ?_
    refine sL_law_1411 hΓ ?_
    refine sL_law_1412 hΓ ?_
    rw [vl0, lc0]
    refine sL_law_1413 hΓ (fun _ => ?_) (fun c9 => absurd rfl c9)
    refine sL_law_1418 hΓ ?_
    exact kk σ1 c _ B _ _ _ _ _ hS3
  · obtain ⟨rfl, rfl, ec⟩ := h9
    refine ⟨rfl, ?_⟩
    show AW G κ _ _ 1376 _ _ _
    have hS2 := hS
    obtain ⟨hL2, hM2, -, ho2, -⟩ := id hS2
    obtain ⟨A2, hMV2, hB2⟩ := id hM2
    refine sL_law_1376 hΓ ?_
    refine sL_law_1378 hΓ rfl ?_
    refine sL_law_1379 hΓ rfl ?_
    refine sL_law_1380 hΓ rfl ?_
    refine sL_law_1382 hΓ ?_
    refine sL_law_1383 hΓ ?_
    refine sL_law_1384 hΓ hA (j := ii + 1) (show _ = nI (ii + 1) by rw [hyi]; exact nI_add ii 1) (by omega) hn ?_
    refine sL_law_1385 hΓ 0 0 (Nat.le_of_ble_eq_true rfl) hMV2.o (fun κ_1385 hΓ_1385 => sp_unheard hΓ_1385 hMV2 hW (fun σ1 h1 f1 => ?_) )
    show AW G κ _ _ 1388 _ _ _
    have hS3 := hS2.mod (MP.mk h1 rfl hB2) f1 (hL2.zc zJ9)
    obtain ⟨A3, hMV3, hB3⟩ := id hS3.2.1
    obtain ⟨-, -, -, ho3, -⟩ := id hS3
    refine sL_law_1388 hΓ ?_
    refine sL_law_1390 hΓ rfl ?_
    refine sL_law_1391 hΓ 0 0 (Nat.le_of_ble_eq_true rfl) hMV3.o (fun κ_1391 hΓ_1391 => sp_thrown hΓ_1391 hMV3 ?_)
    show AW G κ _ _ 1394 _ _ _
    refine sL_law_1394 hΓ rfl ?_
    refine sL_law_1396 hΓ (fun _ => ?_) (fun c9 => absurd (show upd z 9 (bI (!rIsT (B 0) (xs (ii + 1)))) 9 = 1 by rw [ec]; rfl) c9)
    refine sL_law_1401 hΓ rfl ?_
    refine sL_law_1403 hΓ (fun _ => ?_) (fun c9 => absurd c9 (by decide))
    refine sL_law_1418 hΓ ?_
    exact kk σ1 c _ B f _ _ _ _ hS3
theorem op_blockedTicks (hΓ : Ok G κ mL_law (d + 24) Q X) (hN : NcK κ) (hA : ArK G κ s0 n xs) (hn : n < 2 ^ 31) (hyi : yi = nI ii) (hb : ii + 6 ≤ n) (hS : LSt G σ c x am o A r z B f) (kk : ∀ (σ1 : Hp) (c1 : Nat → Nat) (z1 : Nat → Int32) (B1 : Nat → Nat → Int32) (f1 : Nat → Int64) (v5 v6 v7 v8 : Option LV), LSt G σ1 c1 x am o A r z1 B1 f1 → AW G κ cs ss 2959 [lR s0, lR x, lR am, lR o, lI yi, v5, v6, v7, v8] [] σ1) : AW G κ (cs + 40) (ss + 400) 1421 [lR s0, lR x, lR am, lR o, lI yi, w5, w6, w7, w8] [] σ := by
  refine aw_less (cs2 := cs + 1) (ss2 := ss + 6) (by omega) (by omega) ?_
  obtain ⟨hL, hM, hc, ho, hco⟩ := id hS
  obtain ⟨n0, s, C, n2, C2, Nh, Ch, u, b, l, cd, og, hs, out, ol, hT, hR⟩ := hL
  have hL : RLx G σ c x A am z B := ⟨n0, s, C, n2, C2, Nh, Ch, u, b, l, cd, og, hs, out, ol, hT, hR⟩
  obtain ⟨A', hMV, hB⟩ := id hM
  obtain ⟨⟨hV, hC⟩, -⟩ := id hR
  obtain ⟨t, q, p, tr, g, hcg⟩ := hT.m
  have hW := hV.1.1
  obtain ⟨l9, hl9, hQ9⟩ := hV.ql
  refine sL_law_1421 hΓ rfl ?_
  refine sL_law_1422 hΓ rfl ?_
  refine sL_law_1423 hΓ rfl ?_
  refine sL_law_1425 hΓ ?_
  refine sL_law_1426 hΓ ?_
  refine sL_law_1427 hΓ hA (j := ii + 1) (show _ = nI (ii + 1) by rw [hyi]; exact nI_add ii 1) (by omega) hn ?_
  refine sL_law_1428 hΓ rfl ?_
  refine sL_law_1429 hΓ hN 1 6 (Nat.le_of_ble_eq_true rfl) (fun κ2 hok hN2 => wL_blockedTicks (cs := 0) (ss := 0) (f := f) hok hN2 1 6 hT.o (fun v σ1 => σ1 = σ ∧ rIsT (B 0) (xs (ii + 1)) = true ∧ v = (rTold (B 0) (xs (ii + 1)) 14)) (fun E σ1 => σ1 = σ ∧ E = "java/lang/IndexOutOfBoundsException" ∧ rIsT (B 0) (xs (ii + 1)) = false) (fun κ3 Q3 X3 hok3 hr ht => tt_blockedTicks (cs := 0) (ss := 0) hok3 hT.o g hV hC (fun e => ht _ _ ⟨rfl, rfl, e⟩) (fun e => hr _ _ ⟨rfl, e, rfl⟩)) (fun v σ1 h9 => ?_) (fun E σ1 h9 => ?_))
  · obtain ⟨rfl, ec, rfl⟩ := h9
    refine ⟨ho, ?_⟩
    show AW G κ _ _ 1432 _ _ _
    have hS2 := hS.out (vp_updL f 0 ((rTold (B 0) (xs (ii + 1)) 14)).toInt64)
    obtain ⟨hL2, hM2, -, ho2, -⟩ := id hS2
    obtain ⟨A2, hMV2, hB2⟩ := id hM2
    refine sL_law_1432 hΓ ?_
    refine sL_law_1434 hΓ rfl ?_
    refine sL_law_1435 hΓ rfl ?_
    refine sL_law_1436 hΓ rfl ?_
    refine sL_law_1438 hΓ ?_
    refine sL_law_1439 hΓ ?_
    refine sL_law_1440 hΓ hA (j := ii + 1) (show _ = nI (ii + 1) by rw [hyi]; exact nI_add ii 1) (by omega) hn ?_
    refine sL_law_1441 hΓ 0 0 (Nat.le_of_ble_eq_true rfl) hMV2.o (fun κ_1441 hΓ_1441 => sp_blockedTicks hΓ_1441 hMV2 hW (fun σ1 h1 f1 => ?_) )
    show AW G κ _ _ 1444 _ _ _
    have hS3 := hS2.mod (MP.mk h1 rfl hB2) f1 (hL2.zc zJ9)
    obtain ⟨A3, hMV3, hB3⟩ := id hS3.2.1
    obtain ⟨-, -, -, ho3, -⟩ := id hS3
    refine sL_law_1444 hΓ ?_
    refine sL_law_1446 hΓ rfl ?_
    refine sL_law_1447 hΓ 0 0 (Nat.le_of_ble_eq_true rfl) hMV3.o (fun κ_1447 hΓ_1447 => sp_thrown hΓ_1447 hMV3 ?_)
    show AW G κ _ _ 1450 _ _ _
    refine sL_law_1450 hΓ rfl ?_
    refine sL_law_1452 hΓ (fun _ => ?_) (fun c9 => absurd (show upd z 9 (bI (!rIsT (B 0) (xs (ii + 1)))) 9 = 0 by rw [ec]; rfl) c9)
    refine sL_law_1457 hΓ rfl ?_
    refine sL_law_1459 hΓ (fun c9 => absurd rfl c9) (fun _ => ?_)
    refine sL_law_1462 hΓ rfl ?_
    refine sL_law_1463 hΓ ?_
    refine sL_law_1464 hΓ ho3 (j := 0) rfl (by decide) (by decide) ?_
    refine sL_law_1465 hΓ rfl ?_
    refine sL_law_1467 hΓ ?_
    refine sL_law_1468 hΓ ?_
    rw [vl0, lc0]
    refine sL_law_1469 hΓ (fun _ => ?_) (fun c9 => absurd rfl c9)
    refine sL_law_1474 hΓ ?_
    exact kk σ1 c _ B _ _ _ _ _ hS3
  · obtain ⟨rfl, rfl, ec⟩ := h9
    refine ⟨rfl, ?_⟩
    show AW G κ _ _ 1432 _ _ _
    have hS2 := hS
    obtain ⟨hL2, hM2, -, ho2, -⟩ := id hS2
    obtain ⟨A2, hMV2, hB2⟩ := id hM2
    refine sL_law_1432 hΓ ?_
    refine sL_law_1434 hΓ rfl ?_
    refine sL_law_1435 hΓ rfl ?_
    refine sL_law_1436 hΓ rfl ?_
    refine sL_law_1438 hΓ ?_
    refine sL_law_1439 hΓ ?_
    refine sL_law_1440 hΓ hA (j := ii + 1) (show _ = nI (ii + 1) by rw [hyi]; exact nI_add ii 1) (by omega) hn ?_
    refine sL_law_1441 hΓ 0 0 (Nat.le_of_ble_eq_true rfl) hMV2.o (fun κ_1441 hΓ_1441 => sp_blockedTicks hΓ_1441 hMV2 hW (fun σ1 h1 f1 => ?_) )
    show AW G κ _ _ 1444 _ _ _
    have hS3 := hS2.mod (MP.mk h1 rfl hB2) f1 (hL2.zc zJ9)
    obtain ⟨A3, hMV3, hB3⟩ := id hS3.2.1
    obtain ⟨-, -, -, ho3, -⟩ := id hS3
    refine sL_law_1444 hΓ ?_
    refine sL_law_1446 hΓ rfl ?_
    refine sL_law_1447 hΓ 0 0 (Nat.le_of_ble_eq_true rfl) hMV3.o (fun κ_1447 hΓ_1447 => sp_thrown hΓ_1447 hMV3 ?_)
    show AW G κ _ _ 1450 _ _ _
    refine sL_law_1450 hΓ rfl ?_
    refine sL_law_1452 hΓ (fun _ => ?_) (fun c9 => absurd (show upd z 9 (bI (!rIsT (B 0) (xs (ii + 1)))) 9 = 1 by rw [ec]; rfl) c9)
    refine sL_law_1457 hΓ rfl ?_
    refine sL_law_1459 hΓ (fun _ => ?_) (fun c9 => absurd c9 (by decide))
    refine sL_law_1474 hΓ ?_
    exact kk σ1 c _ B f _ _ _ _ hS3
theorem op_freeAhead (hΓ : Ok G κ mL_law (d + 24) Q X) (hN : NcK κ) (hA : ArK G κ s0 n xs) (hn : n < 2 ^ 31) (hyi : yi = nI ii) (hb : ii + 6 ≤ n) (hS : LSt G σ c x am o A r z B f) (kk : ∀ (σ1 : Hp) (c1 : Nat → Nat) (z1 : Nat → Int32) (B1 : Nat → Nat → Int32) (f1 : Nat → Int64) (v5 v6 v7 v8 : Option LV), LSt G σ1 c1 x am o A r z1 B1 f1 → AW G κ cs ss 2959 [lR s0, lR x, lR am, lR o, lI yi, v5, v6, v7, v8] [] σ1) : AW G κ (cs + 40) (ss + 400) 1490 [lR s0, lR x, lR am, lR o, lI yi, w5, w6, w7, w8] [] σ := by
  refine aw_less (cs2 := cs + 1) (ss2 := ss + 6) (by omega) (by omega) ?_
  obtain ⟨hL, hM, hc, ho, hco⟩ := id hS
  obtain ⟨n0, s, C, n2, C2, Nh, Ch, u, b, l, cd, og, hs, out, ol, hT, hR⟩ := hL
  have hL : RLx G σ c x A am z B := ⟨n0, s, C, n2, C2, Nh, Ch, u, b, l, cd, og, hs, out, ol, hT, hR⟩
  obtain ⟨A', hMV, hB⟩ := id hM
  obtain ⟨⟨hV, hC⟩, -⟩ := id hR
  obtain ⟨t, q, p, tr, g, hcg⟩ := hT.m
  have hW := hV.1.1
  obtain ⟨l9, hl9, hQ9⟩ := hV.ql
  refine sL_law_1490 hΓ rfl ?_
  refine sL_law_1491 hΓ rfl ?_
  refine sL_law_1492 hΓ rfl ?_
  refine sL_law_1494 hΓ ?_
  refine sL_law_1495 hΓ ?_
  refine sL_law_1496 hΓ hA (j := ii + 1) (show _ = nI (ii + 1) by rw [hyi]; exact nI_add ii 1) (by omega) hn ?_
  refine sL_law_1497 hΓ rfl ?_
  refine sL_law_1498 hΓ hN 1 6 (Nat.le_of_ble_eq_true rfl) (fun κ2 hok hN2 => wL_freeAhead (cs := 0) (ss := 0) (f := f) hok hN2 1 6 hT.o (fun v σ1 => σ1 = σ ∧ rIsT (B 0) (xs (ii + 1)) = true ∧ v = (rFreeA (B 0) n0 s (xs (ii + 1)))) (fun E σ1 => σ1 = σ ∧ E = "java/lang/IndexOutOfBoundsException" ∧ rIsT (B 0) (xs (ii + 1)) = false) (fun κ3 Q3 X3 hok3 hr ht => tt_freeAhead (cs := 0) (ss := 0) hok3 hT.o g hV hC (fun e => ht _ _ ⟨rfl, rfl, e⟩) (fun e => hr _ _ ⟨rfl, e, rfl⟩)) (fun v σ1 h9 => ?_) (fun E σ1 h9 => ?_))
  · obtain ⟨rfl, ec, rfl⟩ := h9
    refine ⟨ho, ?_⟩
    show AW G κ _ _ 1501 _ _ _
    have hS2 := hS.out (vp_updL f 0 ((rFreeA (B 0) n0 s (xs (ii + 1)))).toInt64)
    obtain ⟨hL2, hM2, -, ho2, -⟩ := id hS2
    obtain ⟨A2, hMV2, hB2⟩ := id hM2
    refine sL_law_1501 hΓ ?_
    refine sL_law_1503 hΓ rfl ?_
    refine sL_law_1504 hΓ rfl ?_
    refine sL_law_1505 hΓ rfl ?_
    refine sL_law_1507 hΓ ?_
    refine sL_law_1508 hΓ ?_
    refine sL_law_1509 hΓ hA (j := ii + 1) (show _ = nI (ii + 1) by rw [hyi]; exact nI_add ii 1) (by omega) hn ?_
    refine sL_law_1510 hΓ 0 0 (Nat.le_of_ble_eq_true rfl) hMV2.o (fun κ_1510 hΓ_1510 => sp_freeAhead hΓ_1510 hMV2 hW (fun σ1 h1 f1 => ?_) )
    show AW G κ _ _ 1513 _ _ _
    have hS3 := hS2.mod (MP.mk h1 rfl hB2) f1 (hL2.zc zJ9)
    obtain ⟨A3, hMV3, hB3⟩ := id hS3.2.1
    obtain ⟨-, -, -, ho3, -⟩ := id hS3
    refine sL_law_1513 hΓ ?_
    refine sL_law_1515 hΓ rfl ?_
    refine sL_law_1516 hΓ 0 0 (Nat.le_of_ble_eq_true rfl) hMV3.o (fun κ_1516 hΓ_1516 => sp_thrown hΓ_1516 hMV3 ?_)
    show AW G κ _ _ 1519 _ _ _
    refine sL_law_1519 hΓ rfl ?_
    refine sL_law_1521 hΓ (fun _ => ?_) (fun c9 => absurd (show upd z 9 (bI (!rIsT (B 0) (xs (ii + 1)))) 9 = 0 by rw [ec]; rfl) c9)
    refine sL_law_1526 hΓ rfl ?_
    refine sL_law_1528 hΓ (fun c9 => absurd rfl c9) (fun _ => ?_)
    refine sL_law_1531 hΓ rfl ?_
    refine sL_law_1532 hΓ ?_
    refine sL_law_1533 hΓ ho3 (j := 0) rfl (by decide) (by decide) ?_
    refine sL_law_1534 hΓ rfl ?_
    refine sL_law_1536 hΓ ?_
    refine sL_law_1537 hΓ ?_
    rw [vl0, lc0]
    refine sL_law_1538 hΓ (fun _ => ?_) (fun c9 => absurd rfl c9)
    refine sL_law_1543 hΓ ?_
    exact kk σ1 c _ B _ _ _ _ _ hS3
  · obtain ⟨rfl, rfl, ec⟩ := h9
    refine ⟨rfl, ?_⟩
    show AW G κ _ _ 1501 _ _ _
    have hS2 := hS
    obtain ⟨hL2, hM2, -, ho2, -⟩ := id hS2
    obtain ⟨A2, hMV2, hB2⟩ := id hM2
    refine sL_law_1501 hΓ ?_
    refine sL_law_1503 hΓ rfl ?_
    refine sL_law_1504 hΓ rfl ?_
    refine sL_law_1505 hΓ rfl ?_
    refine sL_law_1507 hΓ ?_
    refine sL_law_1508 hΓ ?_
    refine sL_law_1509 hΓ hA (j := ii + 1) (show _ = nI (ii + 1) by rw [hyi]; exact nI_add ii 1) (by omega) hn ?_
    refine sL_law_1510 hΓ 0 0 (Nat.le_of_ble_eq_true rfl) hMV2.o (fun κ_1510 hΓ_1510 => sp_freeAhead hΓ_1510 hMV2 hW (fun σ1 h1 f1 => ?_) )
    show AW G κ _ _ 1513 _ _ _
    have hS3 := hS2.mod (MP.mk h1 rfl hB2) f1 (hL2.zc zJ9)
    obtain ⟨A3, hMV3, hB3⟩ := id hS3.2.1
    obtain ⟨-, -, -, ho3, -⟩ := id hS3
    refine sL_law_1513 hΓ ?_
    refine sL_law_1515 hΓ rfl ?_
    refine sL_law_1516 hΓ 0 0 (Nat.le_of_ble_eq_true rfl) hMV3.o (fun κ_1516 hΓ_1516 => sp_thrown hΓ_1516 hMV3 ?_)
    show AW G κ _ _ 1519 _ _ _
    refine sL_law_1519 hΓ rfl ?_
    refine sL_law_1521 hΓ (fun _ => ?_) (fun c9 => absurd (show upd z 9 (bI (!rIsT (B 0) (xs (ii + 1)))) 9 = 1 by rw [ec]; rfl) c9)
    refine sL_law_1526 hΓ rfl ?_
    refine sL_law_1528 hΓ (fun _ => ?_) (fun c9 => absurd c9 (by decide))
    refine sL_law_1543 hΓ ?_
    exact kk σ1 c _ B f _ _ _ _ hS3
theorem op_packetAddress (hΓ : Ok G κ mL_law (d + 24) Q X) (hN : NcK κ) (hA : ArK G κ s0 n xs) (hn : n < 2 ^ 31) (hyi : yi = nI ii) (hb : ii + 6 ≤ n) (hS : LSt G σ c x am o A r z B f) (kk : ∀ (σ1 : Hp) (c1 : Nat → Nat) (z1 : Nat → Int32) (B1 : Nat → Nat → Int32) (f1 : Nat → Int64) (v5 v6 v7 v8 : Option LV), LSt G σ1 c1 x am o A r z1 B1 f1 → AW G κ cs ss 2959 [lR s0, lR x, lR am, lR o, lI yi, v5, v6, v7, v8] [] σ1) : AW G κ (cs + 40) (ss + 400) 1643 [lR s0, lR x, lR am, lR o, lI yi, w5, w6, w7, w8] [] σ := by
  refine aw_less (cs2 := cs + 1) (ss2 := ss + 6) (by omega) (by omega) ?_
  obtain ⟨hL, hM, hc, ho, hco⟩ := id hS
  obtain ⟨n0, s, C, n2, C2, Nh, Ch, u, b, l, cd, og, hs, out, ol, hT, hR⟩ := hL
  have hL : RLx G σ c x A am z B := ⟨n0, s, C, n2, C2, Nh, Ch, u, b, l, cd, og, hs, out, ol, hT, hR⟩
  obtain ⟨A', hMV, hB⟩ := id hM
  obtain ⟨⟨hV, hC⟩, -⟩ := id hR
  obtain ⟨t, q, p, tr, g, hcg⟩ := hT.m
  have hW := hV.1.1
  obtain ⟨l9, hl9, hQ9⟩ := hV.ql
  refine sL_law_1643 hΓ rfl ?_
  refine sL_law_1644 hΓ rfl ?_
  refine sL_law_1645 hΓ rfl ?_
  refine sL_law_1647 hΓ ?_
  refine sL_law_1648 hΓ ?_
  refine sL_law_1649 hΓ hA (j := ii + 1) (show _ = nI (ii + 1) by rw [hyi]; exact nI_add ii 1) (by omega) hn ?_
  refine sL_law_1650 hΓ rfl ?_
  refine sL_law_1651 hΓ hN 1 6 (Nat.le_of_ble_eq_true rfl) (fun κ2 hok hN2 => wL_packetAddress (cs := 0) (ss := 0) (f := f) hok hN2 1 6 hT.o (fun v σ1 => σ1 = σ ∧ rIsP (B 0) (xs (ii + 1)) = true ∧ v = (rToldP (B 0) (xs (ii + 1)) 0)) (fun E σ1 => σ1 = σ ∧ E = "java/lang/IndexOutOfBoundsException" ∧ rIsP (B 0) (xs (ii + 1)) = false) (fun κ3 Q3 X3 hok3 hr ht => tt_packetAddress (cs := 0) (ss := 0) hok3 hT.o g hV hC (fun e => ht _ _ ⟨rfl, rfl, e⟩) (fun e => hr _ _ ⟨rfl, e, rfl⟩)) (fun v σ1 h9 => ?_) (fun E σ1 h9 => ?_))
  · obtain ⟨rfl, ec, rfl⟩ := h9
    refine ⟨ho, ?_⟩
    show AW G κ _ _ 1654 _ _ _
    have hS2 := hS.out (vp_updL f 0 ((rToldP (B 0) (xs (ii + 1)) 0)).toInt64)
    obtain ⟨hL2, hM2, -, ho2, -⟩ := id hS2
    obtain ⟨A2, hMV2, hB2⟩ := id hM2
    refine sL_law_1654 hΓ ?_
    refine sL_law_1656 hΓ rfl ?_
    refine sL_law_1657 hΓ rfl ?_
    refine sL_law_1658 hΓ rfl ?_
    refine sL_law_1660 hΓ ?_
    refine sL_law_1661 hΓ ?_
    refine sL_law_1662 hΓ hA (j := ii + 1) (show _ = nI (ii + 1) by rw [hyi]; exact nI_add ii 1) (by omega) hn ?_
    refine sL_law_1663 hΓ 0 0 (Nat.le_of_ble_eq_true rfl) hMV2.o (fun κ_1663 hΓ_1663 => sp_packetAddress hΓ_1663 hMV2 hW hQ9 hl9 (fun σ1 h1 f1 => ?_) )
    show AW G κ _ _ 1666 _ _ _
    have hS3 := hS2.mod (MP.mk h1 rfl hB2) f1 (hL2.zc zJ9)
    obtain ⟨A3, hMV3, hB3⟩ := id hS3.2.1
    obtain ⟨-, -, -, ho3, -⟩ := id hS3
    refine sL_law_1666 hΓ ?_
    refine sL_law_1668 hΓ rfl ?_
    refine sL_law_1669 hΓ 0 0 (Nat.le_of_ble_eq_true rfl) hMV3.o (fun κ_1669 hΓ_1669 => sp_thrown hΓ_1669 hMV3 ?_)
    show AW G κ _ _ 1672 _ _ _
    refine sL_law_1672 hΓ rfl ?_
    refine sL_law_1674 hΓ (fun _ => ?_) (fun c9 => absurd (show upd z 9 (bI (!rIsP (B 0) (xs (ii + 1)))) 9 = 0 by rw [ec]; rfl) c9)
    refine sL_law_1679 hΓ rfl ?_
    refine sL_law_1681 hΓ (fun c9 => absurd rfl c9) (fun _ => ?_)
    refine sL_law_1684 hΓ rfl ?_
    refine sL_law_1685 hΓ ?_
    refine sL_law_1686 hΓ ho3 (j := 0) rfl (by decide) (by decide) ?_
    refine sL_law_1687 hΓ rfl ?_
    refine sL_law_1689 hΓ ?_
    refine sL_law_1690 hΓ ?_
    rw [vl0, lc0]
    refine sL_law_1691 hΓ (fun _ => ?_) (fun c9 => absurd rfl c9)
    refine sL_law_1696 hΓ ?_
    exact kk σ1 c _ B _ _ _ _ _ hS3
  · obtain ⟨rfl, rfl, ec⟩ := h9
    refine ⟨rfl, ?_⟩
    show AW G κ _ _ 1654 _ _ _
    have hS2 := hS
    obtain ⟨hL2, hM2, -, ho2, -⟩ := id hS2
    obtain ⟨A2, hMV2, hB2⟩ := id hM2
    refine sL_law_1654 hΓ ?_
    refine sL_law_1656 hΓ rfl ?_
    refine sL_law_1657 hΓ rfl ?_
    refine sL_law_1658 hΓ rfl ?_
    refine sL_law_1660 hΓ ?_
    refine sL_law_1661 hΓ ?_
    refine sL_law_1662 hΓ hA (j := ii + 1) (show _ = nI (ii + 1) by rw [hyi]; exact nI_add ii 1) (by omega) hn ?_
    refine sL_law_1663 hΓ 0 0 (Nat.le_of_ble_eq_true rfl) hMV2.o (fun κ_1663 hΓ_1663 => sp_packetAddress hΓ_1663 hMV2 hW hQ9 hl9 (fun σ1 h1 f1 => ?_) )
    show AW G κ _ _ 1666 _ _ _
    have hS3 := hS2.mod (MP.mk h1 rfl hB2) f1 (hL2.zc zJ9)
    obtain ⟨A3, hMV3, hB3⟩ := id hS3.2.1
    obtain ⟨-, -, -, ho3, -⟩ := id hS3
    refine sL_law_1666 hΓ ?_
    refine sL_law_1668 hΓ rfl ?_
    refine sL_law_1669 hΓ 0 0 (Nat.le_of_ble_eq_true rfl) hMV3.o (fun κ_1669 hΓ_1669 => sp_thrown hΓ_1669 hMV3 ?_)
    show AW G κ _ _ 1672 _ _ _
    refine sL_law_1672 hΓ rfl ?_
    refine sL_law_1674 hΓ (fun _ => ?_) (fun c9 => absurd (show upd z 9 (bI (!rIsP (B 0) (xs (ii + 1)))) 9 = 1 by rw [ec]; rfl) c9)
    refine sL_law_1679 hΓ rfl ?_
    refine sL_law_1681 hΓ (fun _ => ?_) (fun c9 => absurd c9 (by decide))
    refine sL_law_1696 hΓ ?_
    exact kk σ1 c _ B f _ _ _ _ hS3
theorem op_packetCommand (hΓ : Ok G κ mL_law (d + 24) Q X) (hN : NcK κ) (hA : ArK G κ s0 n xs) (hn : n < 2 ^ 31) (hyi : yi = nI ii) (hb : ii + 6 ≤ n) (hS : LSt G σ c x am o A r z B f) (kk : ∀ (σ1 : Hp) (c1 : Nat → Nat) (z1 : Nat → Int32) (B1 : Nat → Nat → Int32) (f1 : Nat → Int64) (v5 v6 v7 v8 : Option LV), LSt G σ1 c1 x am o A r z1 B1 f1 → AW G κ cs ss 2959 [lR s0, lR x, lR am, lR o, lI yi, v5, v6, v7, v8] [] σ1) : AW G κ (cs + 40) (ss + 400) 1699 [lR s0, lR x, lR am, lR o, lI yi, w5, w6, w7, w8] [] σ := by
  refine aw_less (cs2 := cs + 1) (ss2 := ss + 6) (by omega) (by omega) ?_
  obtain ⟨hL, hM, hc, ho, hco⟩ := id hS
  obtain ⟨n0, s, C, n2, C2, Nh, Ch, u, b, l, cd, og, hs, out, ol, hT, hR⟩ := hL
  have hL : RLx G σ c x A am z B := ⟨n0, s, C, n2, C2, Nh, Ch, u, b, l, cd, og, hs, out, ol, hT, hR⟩
  obtain ⟨A', hMV, hB⟩ := id hM
  obtain ⟨⟨hV, hC⟩, -⟩ := id hR
  obtain ⟨t, q, p, tr, g, hcg⟩ := hT.m
  have hW := hV.1.1
  obtain ⟨l9, hl9, hQ9⟩ := hV.ql
  refine sL_law_1699 hΓ rfl ?_
  refine sL_law_1700 hΓ rfl ?_
  refine sL_law_1701 hΓ rfl ?_
  refine sL_law_1703 hΓ ?_
  refine sL_law_1704 hΓ ?_
  refine sL_law_1705 hΓ hA (j := ii + 1) (show _ = nI (ii + 1) by rw [hyi]; exact nI_add ii 1) (by omega) hn ?_
  refine sL_law_1706 hΓ rfl ?_
  refine sL_law_1707 hΓ hN 1 6 (Nat.le_of_ble_eq_true rfl) (fun κ2 hok hN2 => wL_packetCommand (cs := 0) (ss := 0) (f := f) hok hN2 1 6 hT.o (fun v σ1 => σ1 = σ ∧ rIsP (B 0) (xs (ii + 1)) = true ∧ v = (rToldP (B 0) (xs (ii + 1)) 1)) (fun E σ1 => σ1 = σ ∧ E = "java/lang/IndexOutOfBoundsException" ∧ rIsP (B 0) (xs (ii + 1)) = false) (fun κ3 Q3 X3 hok3 hr ht => tt_packetCommand (cs := 0) (ss := 0) hok3 hT.o g hV hC (fun e => ht _ _ ⟨rfl, rfl, e⟩) (fun e => hr _ _ ⟨rfl, e, rfl⟩)) (fun v σ1 h9 => ?_) (fun E σ1 h9 => ?_))
  · obtain ⟨rfl, ec, rfl⟩ := h9
    refine ⟨ho, ?_⟩
    show AW G κ _ _ 1710 _ _ _
    have hS2 := hS.out (vp_updL f 0 ((rToldP (B 0) (xs (ii + 1)) 1)).toInt64)
    obtain ⟨hL2, hM2, -, ho2, -⟩ := id hS2
    obtain ⟨A2, hMV2, hB2⟩ := id hM2
    refine sL_law_1710 hΓ ?_
    refine sL_law_1712 hΓ rfl ?_
    refine sL_law_1713 hΓ rfl ?_
    refine sL_law_1714 hΓ rfl ?_
    refine sL_law_1716 hΓ ?_
    refine sL_law_1717 hΓ ?_
    refine sL_law_1718 hΓ hA (j := ii + 1) (show _ = nI (ii + 1) by rw [hyi]; exact nI_add ii 1) (by omega) hn ?_
    refine sL_law_1719 hΓ 0 0 (Nat.le_of_ble_eq_true rfl) hMV2.o (fun κ_1719 hΓ_1719 => sp_packetCommand hΓ_1719 hMV2 hW hQ9 hl9 (fun σ1 h1 f1 => ?_) )
    show AW G κ _ _ 1722 _ _ _
    have hS3 := hS2.mod (MP.mk h1 rfl hB2) f1 (hL2.zc zJ9)
    obtain ⟨A3, hMV3, hB3⟩ := id hS3.2.1
    obtain ⟨-, -, -, ho3, -⟩ := id hS3
    refine sL_law_1722 hΓ ?_
    refine sL_law_1724 hΓ rfl ?_
    refine sL_law_1725 hΓ 0 0 (Nat.le_of_ble_eq_true rfl) hMV3.o (fun κ_1725 hΓ_1725 => sp_thrown hΓ_1725 hMV3 ?_)
    show AW G κ _ _ 1728 _ _ _
    refine sL_law_1728 hΓ rfl ?_
    refine sL_law_1730 hΓ (fun _ => ?_) (fun c9 => absurd (show upd z 9 (bI (!rIsP (B 0) (xs (ii + 1)))) 9 = 0 by rw [ec]; rfl) c9)
    refine sL_law_1735 hΓ rfl ?_
    refine sL_law_1737 hΓ (fun c9 => absurd rfl c9) (fun _ => ?_)
    refine sL_law_1740 hΓ rfl ?_
    refine sL_law_1741 hΓ ?_
    refine sL_law_1742 hΓ ho3 (j := 0) rfl (by decide) (by decide) ?_
    refine sL_law_1743 hΓ rfl ?_
    refine sL_law_1745 hΓ ?_
    refine sL_law_1746 hΓ ?_
    rw [vl0, lc0]
    refine sL_law_1747 hΓ (fun _ => ?_) (fun c9 => absurd rfl c9)
    refine sL_law_1752 hΓ ?_
    exact kk σ1 c _ B _ _ _ _ _ hS3
  · obtain ⟨rfl, rfl, ec⟩ := h9
    refine ⟨rfl, ?_⟩
    show AW G κ _ _ 1710 _ _ _
    have hS2 := hS
    obtain ⟨hL2, hM2, -, ho2, -⟩ := id hS2
    obtain ⟨A2, hMV2, hB2⟩ := id hM2
    refine sL_law_1710 hΓ ?_
    refine sL_law_1712 hΓ rfl ?_
    refine sL_law_1713 hΓ rfl ?_
    refine sL_law_1714 hΓ rfl ?_
    refine sL_law_1716 hΓ ?_
    refine sL_law_1717 hΓ ?_
    refine sL_law_1718 hΓ hA (j := ii + 1) (show _ = nI (ii + 1) by rw [hyi]; exact nI_add ii 1) (by omega) hn ?_
    refine sL_law_1719 hΓ 0 0 (Nat.le_of_ble_eq_true rfl) hMV2.o (fun κ_1719 hΓ_1719 => sp_packetCommand hΓ_1719 hMV2 hW hQ9 hl9 (fun σ1 h1 f1 => ?_) )
    show AW G κ _ _ 1722 _ _ _
    have hS3 := hS2.mod (MP.mk h1 rfl hB2) f1 (hL2.zc zJ9)
    obtain ⟨A3, hMV3, hB3⟩ := id hS3.2.1
    obtain ⟨-, -, -, ho3, -⟩ := id hS3
    refine sL_law_1722 hΓ ?_
    refine sL_law_1724 hΓ rfl ?_
    refine sL_law_1725 hΓ 0 0 (Nat.le_of_ble_eq_true rfl) hMV3.o (fun κ_1725 hΓ_1725 => sp_thrown hΓ_1725 hMV3 ?_)
    show AW G κ _ _ 1728 _ _ _
    refine sL_law_1728 hΓ rfl ?_
    refine sL_law_1730 hΓ (fun _ => ?_) (fun c9 => absurd (show upd z 9 (bI (!rIsP (B 0) (xs (ii + 1)))) 9 = 1 by rw [ec]; rfl) c9)
    refine sL_law_1735 hΓ rfl ?_
    refine sL_law_1737 hΓ (fun _ => ?_) (fun c9 => absurd c9 (by decide))
    refine sL_law_1752 hΓ ?_
    exact kk σ1 c _ B f _ _ _ _ hS3
theorem op_isIntact (hΓ : Ok G κ mL_law (d + 24) Q X) (hN : NcK κ) (hA : ArK G κ s0 n xs) (hn : n < 2 ^ 31) (hyi : yi = nI ii) (hb : ii + 6 ≤ n) (hS : LSt G σ c x am o A r z B f) (kk : ∀ (σ1 : Hp) (c1 : Nat → Nat) (z1 : Nat → Int32) (B1 : Nat → Nat → Int32) (f1 : Nat → Int64) (v5 v6 v7 v8 : Option LV), LSt G σ1 c1 x am o A r z1 B1 f1 → AW G κ cs ss 2959 [lR s0, lR x, lR am, lR o, lI yi, v5, v6, v7, v8] [] σ1) : AW G κ (cs + 40) (ss + 400) 1755 [lR s0, lR x, lR am, lR o, lI yi, w5, w6, w7, w8] [] σ := by
  refine aw_less (cs2 := cs + 1) (ss2 := ss + 6) (by omega) (by omega) ?_
  obtain ⟨hL, hM, hc, ho, hco⟩ := id hS
  obtain ⟨n0, s, C, n2, C2, Nh, Ch, u, b, l, cd, og, hs, out, ol, hT, hR⟩ := hL
  have hL : RLx G σ c x A am z B := ⟨n0, s, C, n2, C2, Nh, Ch, u, b, l, cd, og, hs, out, ol, hT, hR⟩
  obtain ⟨A', hMV, hB⟩ := id hM
  obtain ⟨⟨hV, hC⟩, -⟩ := id hR
  obtain ⟨t, q, p, tr, g, hcg⟩ := hT.m
  have hW := hV.1.1
  obtain ⟨l9, hl9, hQ9⟩ := hV.ql
  refine sL_law_1755 hΓ rfl ?_
  refine sL_law_1756 hΓ rfl ?_
  refine sL_law_1757 hΓ rfl ?_
  refine sL_law_1759 hΓ ?_
  refine sL_law_1760 hΓ ?_
  refine sL_law_1761 hΓ hA (j := ii + 1) (show _ = nI (ii + 1) by rw [hyi]; exact nI_add ii 1) (by omega) hn ?_
  refine sL_law_1762 hΓ rfl ?_
  refine sL_law_1763 hΓ hN 1 6 (Nat.le_of_ble_eq_true rfl) (fun κ2 hok hN2 => wL_isIntact (cs := 0) (ss := 0) (f := f) hok hN2 1 6 hT.o (fun v σ1 => σ1 = σ ∧ rIsP (B 0) (xs (ii + 1)) = true ∧ v = (bI (rIntact (B 0) (xs (ii + 1))))) (fun E σ1 => σ1 = σ ∧ E = "java/lang/IndexOutOfBoundsException" ∧ rIsP (B 0) (xs (ii + 1)) = false) (fun κ3 Q3 X3 hok3 hr ht => tt_isIntact (cs := 0) (ss := 0) hok3 hT.o g hV hC (fun e => ht _ _ ⟨rfl, rfl, e⟩) (fun e => hr _ _ ⟨rfl, e, rfl⟩)) (fun v σ1 h9 => ?_) (fun E σ1 h9 => ?_))
  · obtain ⟨rfl, ec, rfl⟩ := h9
    refine ⟨ho, ?_⟩
    show AW G κ _ _ 1766 _ _ _
    have hS2 := hS.out (vp_updL f 0 (if (bI (rIntact (B 0) (xs (ii + 1)))) = 0 then (0 : Int64) else 1))
    obtain ⟨hL2, hM2, -, ho2, -⟩ := id hS2
    obtain ⟨A2, hMV2, hB2⟩ := id hM2
    refine sL_law_1766 hΓ ?_
    refine sL_law_1768 hΓ rfl ?_
    refine sL_law_1769 hΓ rfl ?_
    refine sL_law_1770 hΓ rfl ?_
    refine sL_law_1772 hΓ ?_
    refine sL_law_1773 hΓ ?_
    refine sL_law_1774 hΓ hA (j := ii + 1) (show _ = nI (ii + 1) by rw [hyi]; exact nI_add ii 1) (by omega) hn ?_
    refine sL_law_1775 hΓ 0 0 (Nat.le_of_ble_eq_true rfl) hMV2.o (fun κ_1775 hΓ_1775 => sp_isIntact hΓ_1775 hMV2 hW hQ9 hl9 (fun σ1 h1 f1 => ?_) )
    show AW G κ _ _ 1778 _ _ _
    have hS3 := hS2.mod (MP.mk h1 rfl hB2) f1 (hL2.zc zJ9)
    obtain ⟨A3, hMV3, hB3⟩ := id hS3.2.1
    obtain ⟨-, -, -, ho3, -⟩ := id hS3
    refine sL_law_1778 hΓ ?_
    refine sL_law_1780 hΓ rfl ?_
    refine sL_law_1781 hΓ 0 0 (Nat.le_of_ble_eq_true rfl) hMV3.o (fun κ_1781 hΓ_1781 => sp_thrown hΓ_1781 hMV3 ?_)
    show AW G κ _ _ 1784 _ _ _
    refine sL_law_1784 hΓ rfl ?_
    refine sL_law_1786 hΓ (fun _ => ?_) (fun c9 => absurd (show upd z 9 (bI (!rIsP (B 0) (xs (ii + 1)))) 9 = 0 by rw [ec]; rfl) c9)
    refine sL_law_1791 hΓ rfl ?_
    refine sL_law_1793 hΓ (fun c9 => absurd rfl c9) (fun _ => ?_)
    refine sL_law_1796 hΓ rfl ?_
    refine sL_law_1797 hΓ ?_
    refine sL_law_1798 hΓ ho3 (j := 0) rfl (by decide) (by decide) ?_
    refine sL_law_1799 hΓ rfl ?_
    refine sL_law_1801 hΓ (fun cz => ?_) (fun cz => ?_)
    · refine sL_law_1808 hΓ ?_
      refine sL_law_1809 hΓ ?_
      rw [vl0, if_pos cz, lc0]
      refine sL_law_1810 hΓ (fun _ => ?_) (fun c9 => absurd rfl c9)
      refine sL_law_1815 hΓ ?_
      exact kk σ1 c _ B _ _ _ _ _ hS3
    · refine sL_law_1804 hΓ ?_
      refine sL_law_1805 hΓ ?_
      refine sL_law_1809 hΓ ?_
      rw [vl0, if_neg cz, lc0]
      refine sL_law_1810 hΓ (fun _ => ?_) (fun c9 => absurd rfl c9)
      refine sL_law_1815 hΓ ?_
      exact kk σ1 c _ B _ _ _ _ _ hS3
  · obtain ⟨rfl, rfl, ec⟩ := h9
    refine ⟨rfl, ?_⟩
    show AW G κ _ _ 1766 _ _ _
    have hS2 := hS
    obtain ⟨hL2, hM2, -, ho2, -⟩ := id hS2
    obtain ⟨A2, hMV2, hB2⟩ := id hM2
    refine sL_law_1766 hΓ ?_
    refine sL_law_1768 hΓ rfl ?_
    refine sL_law_1769 hΓ rfl ?_
    refine sL_law_1770 hΓ rfl ?_
    refine sL_law_1772 hΓ ?_
    refine sL_law_1773 hΓ ?_
    refine sL_law_1774 hΓ hA (j := ii + 1) (show _ = nI (ii + 1) by rw [hyi]; exact nI_add ii 1) (by omega) hn ?_
    refine sL_law_1775 hΓ 0 0 (Nat.le_of_ble_eq_true rfl) hMV2.o (fun κ_1775 hΓ_1775 => sp_isIntact hΓ_1775 hMV2 hW hQ9 hl9 (fun σ1 h1 f1 => ?_) )
    show AW G κ _ _ 1778 _ _ _
    have hS3 := hS2.mod (MP.mk h1 rfl hB2) f1 (hL2.zc zJ9)
    obtain ⟨A3, hMV3, hB3⟩ := id hS3.2.1
    obtain ⟨-, -, -, ho3, -⟩ := id hS3
    refine sL_law_1778 hΓ ?_
    refine sL_law_1780 hΓ rfl ?_
    refine sL_law_1781 hΓ 0 0 (Nat.le_of_ble_eq_true rfl) hMV3.o (fun κ_1781 hΓ_1781 => sp_thrown hΓ_1781 hMV3 ?_)
    show AW G κ _ _ 1784 _ _ _
    refine sL_law_1784 hΓ rfl ?_
    refine sL_law_1786 hΓ (fun _ => ?_) (fun c9 => absurd (show upd z 9 (bI (!rIsP (B 0) (xs (ii + 1)))) 9 = 1 by rw [ec]; rfl) c9)
    refine sL_law_1791 hΓ rfl ?_
    refine sL_law_1793 hΓ (fun _ => ?_) (fun c9 => absurd c9 (by decide))
    refine sL_law_1815 hΓ ?_
    exact kk σ1 c _ B f _ _ _ _ hS3
theorem op_packetsFor (hΓ : Ok G κ mL_law (d + 24) Q X) (hN : NcK κ) (hA : ArK G κ s0 n xs) (hn : n < 2 ^ 31) (hyi : yi = nI ii) (hb : ii + 6 ≤ n) (hS : LSt G σ c x am o A r z B f) (kk : ∀ (σ1 : Hp) (c1 : Nat → Nat) (z1 : Nat → Int32) (B1 : Nat → Nat → Int32) (f1 : Nat → Int64) (v5 v6 v7 v8 : Option LV), LSt G σ1 c1 x am o A r z1 B1 f1 → AW G κ cs ss 2959 [lR s0, lR x, lR am, lR o, lI yi, v5, v6, v7, v8] [] σ1) : AW G κ (cs + 40) (ss + 400) 1818 [lR s0, lR x, lR am, lR o, lI yi, w5, w6, w7, w8] [] σ := by
  refine aw_less (cs2 := cs + 1) (ss2 := ss + 6) (by omega) (by omega) ?_
  obtain ⟨hL, hM, hc, ho, hco⟩ := id hS
  obtain ⟨n0, s, C, n2, C2, Nh, Ch, u, b, l, cd, og, hs, out, ol, hT, hR⟩ := hL
  have hL : RLx G σ c x A am z B := ⟨n0, s, C, n2, C2, Nh, Ch, u, b, l, cd, og, hs, out, ol, hT, hR⟩
  obtain ⟨A', hMV, hB⟩ := id hM
  obtain ⟨⟨hV, hC⟩, -⟩ := id hR
  obtain ⟨t, q, p, tr, g, hcg⟩ := hT.m
  have hW := hV.1.1
  obtain ⟨l9, hl9, hQ9⟩ := hV.ql
  refine sL_law_1818 hΓ rfl ?_
  refine sL_law_1819 hΓ rfl ?_
  refine sL_law_1820 hΓ rfl ?_
  refine sL_law_1822 hΓ ?_
  refine sL_law_1823 hΓ ?_
  refine sL_law_1824 hΓ hA (j := ii + 1) (show _ = nI (ii + 1) by rw [hyi]; exact nI_add ii 1) (by omega) hn ?_
  refine sL_law_1825 hΓ rfl ?_
  refine sL_law_1826 hΓ hN 1 6 (Nat.le_of_ble_eq_true rfl) (fun κ2 hok hN2 => wL_packetsFor (cs := 0) (ss := 0) (f := f) hok hN2 1 6 hT.o (fun v σ1 => σ1 = σ ∧ rIsT (B 0) (xs (ii + 1)) = true ∧ v = (rPackets (B 0) l9 (xs (ii + 1)))) (fun E σ1 => σ1 = σ ∧ E = "java/lang/IndexOutOfBoundsException" ∧ rIsT (B 0) (xs (ii + 1)) = false) (fun κ3 Q3 X3 hok3 hr ht => tt_packetsFor (cs := 0) (ss := 0) hok3 hT.o g hV hC (fun e => ht _ _ ⟨rfl, rfl, e⟩) (fun e => hr _ _ ⟨rfl, e, by rw [rQ_lt hQ9 hl9]⟩)) (fun v σ1 h9 => ?_) (fun E σ1 h9 => ?_))
  · obtain ⟨rfl, ec, rfl⟩ := h9
    refine ⟨ho, ?_⟩
    show AW G κ _ _ 1829 _ _ _
    have hS2 := hS.out (vp_updL f 0 ((rPackets (B 0) l9 (xs (ii + 1)))).toInt64)
    obtain ⟨hL2, hM2, -, ho2, -⟩ := id hS2
    obtain ⟨A2, hMV2, hB2⟩ := id hM2
    refine sL_law_1829 hΓ ?_
    refine sL_law_1831 hΓ rfl ?_
    refine sL_law_1832 hΓ rfl ?_
    refine sL_law_1833 hΓ rfl ?_
    refine sL_law_1835 hΓ ?_
    refine sL_law_1836 hΓ ?_
    refine sL_law_1837 hΓ hA (j := ii + 1) (show _ = nI (ii + 1) by rw [hyi]; exact nI_add ii 1) (by omega) hn ?_
    refine sL_law_1838 hΓ 0 0 (Nat.le_of_ble_eq_true rfl) hMV2.o (fun κ_1838 hΓ_1838 => sp_packetsFor hΓ_1838 hMV2 hW hQ9 hl9 (fun σ1 h1 f1 => ?_) )
    show AW G κ _ _ 1841 _ _ _
    have hS3 := hS2.mod (MP.mk h1 rfl hB2) f1 (hL2.zc zJ9)
    obtain ⟨A3, hMV3, hB3⟩ := id hS3.2.1
    obtain ⟨-, -, -, ho3, -⟩ := id hS3
    refine sL_law_1841 hΓ ?_
    refine sL_law_1843 hΓ rfl ?_
    refine sL_law_1844 hΓ 0 0 (Nat.le_of_ble_eq_true rfl) hMV3.o (fun κ_1844 hΓ_1844 => sp_thrown hΓ_1844 hMV3 ?_)
    show AW G κ _ _ 1847 _ _ _
    refine sL_law_1847 hΓ rfl ?_
    refine sL_law_1849 hΓ (fun _ => ?_) (fun c9 => absurd (show upd z 9 (bI (!rIsT (B 0) (xs (ii + 1)))) 9 = 0 by rw [ec]; rfl) c9)
    refine sL_law_1854 hΓ rfl ?_
    refine sL_law_1856 hΓ (fun c9 => absurd rfl c9) (fun _ => ?_)
    refine sL_law_1859 hΓ rfl ?_
    refine sL_law_1860 hΓ ?_
    refine sL_law_1861 hΓ ho3 (j := 0) rfl (by decide) (by decide) ?_
    refine sL_law_1862 hΓ rfl ?_
    refine sL_law_1864 hΓ ?_
    refine sL_law_1865 hΓ ?_
    rw [vl0, lc0]
    refine sL_law_1866 hΓ (fun _ => ?_) (fun c9 => absurd rfl c9)
    refine sL_law_1871 hΓ ?_
    exact kk σ1 c _ B _ _ _ _ _ hS3
  · obtain ⟨rfl, rfl, ec⟩ := h9
    refine ⟨rfl, ?_⟩
    show AW G κ _ _ 1829 _ _ _
    have hS2 := hS
    obtain ⟨hL2, hM2, -, ho2, -⟩ := id hS2
    obtain ⟨A2, hMV2, hB2⟩ := id hM2
    refine sL_law_1829 hΓ ?_
    refine sL_law_1831 hΓ rfl ?_
    refine sL_law_1832 hΓ rfl ?_
    refine sL_law_1833 hΓ rfl ?_
    refine sL_law_1835 hΓ ?_
    refine sL_law_1836 hΓ ?_
    refine sL_law_1837 hΓ hA (j := ii + 1) (show _ = nI (ii + 1) by rw [hyi]; exact nI_add ii 1) (by omega) hn ?_
    refine sL_law_1838 hΓ 0 0 (Nat.le_of_ble_eq_true rfl) hMV2.o (fun κ_1838 hΓ_1838 => sp_packetsFor hΓ_1838 hMV2 hW hQ9 hl9 (fun σ1 h1 f1 => ?_) )
    show AW G κ _ _ 1841 _ _ _
    have hS3 := hS2.mod (MP.mk h1 rfl hB2) f1 (hL2.zc zJ9)
    obtain ⟨A3, hMV3, hB3⟩ := id hS3.2.1
    obtain ⟨-, -, -, ho3, -⟩ := id hS3
    refine sL_law_1841 hΓ ?_
    refine sL_law_1843 hΓ rfl ?_
    refine sL_law_1844 hΓ 0 0 (Nat.le_of_ble_eq_true rfl) hMV3.o (fun κ_1844 hΓ_1844 => sp_thrown hΓ_1844 hMV3 ?_)
    show AW G κ _ _ 1847 _ _ _
    refine sL_law_1847 hΓ rfl ?_
    refine sL_law_1849 hΓ (fun _ => ?_) (fun c9 => absurd (show upd z 9 (bI (!rIsT (B 0) (xs (ii + 1)))) 9 = 1 by rw [ec]; rfl) c9)
    refine sL_law_1854 hΓ rfl ?_
    refine sL_law_1856 hΓ (fun _ => ?_) (fun c9 => absurd c9 (by decide))
    refine sL_law_1871 hΓ ?_
    exact kk σ1 c _ B f _ _ _ _ hS3
theorem op_brakingTicks (hΓ : Ok G κ mL_law (d + 24) Q X) (hN : NcK κ) (hA : ArK G κ s0 n xs) (hn : n < 2 ^ 31) (hyi : yi = nI ii) (hb : ii + 6 ≤ n) (hS : LSt G σ c x am o A r z B f) (kk : ∀ (σ1 : Hp) (c1 : Nat → Nat) (z1 : Nat → Int32) (B1 : Nat → Nat → Int32) (f1 : Nat → Int64) (v5 v6 v7 v8 : Option LV), LSt G σ1 c1 x am o A r z1 B1 f1 → AW G κ cs ss 2959 [lR s0, lR x, lR am, lR o, lI yi, v5, v6, v7, v8] [] σ1) : AW G κ (cs + 40) (ss + 400) 1968 [lR s0, lR x, lR am, lR o, lI yi, w5, w6, w7, w8] [] σ := by
  refine aw_less (cs2 := cs + 1) (ss2 := ss + 6) (by omega) (by omega) ?_
  obtain ⟨hL, hM, hc, ho, hco⟩ := id hS
  obtain ⟨n0, s, C, n2, C2, Nh, Ch, u, b, l, cd, og, hs, out, ol, hT, hR⟩ := hL
  have hL : RLx G σ c x A am z B := ⟨n0, s, C, n2, C2, Nh, Ch, u, b, l, cd, og, hs, out, ol, hT, hR⟩
  obtain ⟨A', hMV, hB⟩ := id hM
  obtain ⟨⟨hV, hC⟩, -⟩ := id hR
  obtain ⟨t, q, p, tr, g, hcg⟩ := hT.m
  have hW := hV.1.1
  obtain ⟨l9, hl9, hQ9⟩ := hV.ql
  refine sL_law_1968 hΓ rfl ?_
  refine sL_law_1969 hΓ rfl ?_
  refine sL_law_1970 hΓ rfl ?_
  refine sL_law_1972 hΓ ?_
  refine sL_law_1973 hΓ ?_
  refine sL_law_1974 hΓ hA (j := ii + 1) (show _ = nI (ii + 1) by rw [hyi]; exact nI_add ii 1) (by omega) hn ?_
  refine sL_law_1975 hΓ rfl ?_
  refine sL_law_1976 hΓ hN 1 6 (Nat.le_of_ble_eq_true rfl) (fun κ2 hok hN2 => wL_brakingTicks (cs := 0) (ss := 0) (f := f) hok hN2 1 6 hT.o (fun v σ1 => σ1 = σ ∧ rIsT (B 0) (xs (ii + 1)) = true ∧ v = (rBrake (B 0) false (xs (ii + 1)))) (fun E σ1 => σ1 = σ ∧ E = "java/lang/IndexOutOfBoundsException" ∧ rIsT (B 0) (xs (ii + 1)) = false) (fun κ3 Q3 X3 hok3 hr ht => tt_brakingTicks (cs := 0) (ss := 0) hok3 hT.o g hV hC (fun e => ht _ _ ⟨rfl, rfl, e⟩) (fun e => hr _ _ ⟨rfl, e, rfl⟩)) (fun v σ1 h9 => ?_) (fun E σ1 h9 => ?_))
  · obtain ⟨rfl, ec, rfl⟩ := h9
    refine ⟨ho, ?_⟩
    show AW G κ _ _ 1979 _ _ _
    have hS2 := hS.out (vp_updL f 0 ((rBrake (B 0) false (xs (ii + 1)))).toInt64)
    obtain ⟨hL2, hM2, -, ho2, -⟩ := id hS2
    obtain ⟨A2, hMV2, hB2⟩ := id hM2
    refine sL_law_1979 hΓ ?_
    refine sL_law_1981 hΓ rfl ?_
    refine sL_law_1982 hΓ rfl ?_
    refine sL_law_1983 hΓ rfl ?_
    refine sL_law_1985 hΓ ?_
    refine sL_law_1986 hΓ ?_
    refine sL_law_1987 hΓ hA (j := ii + 1) (show _ = nI (ii + 1) by rw [hyi]; exact nI_add ii 1) (by omega) hn ?_
    refine sL_law_1988 hΓ 0 0 (Nat.le_of_ble_eq_true rfl) hMV2.o (fun κ_1988 hΓ_1988 => sp_brakingTicks hΓ_1988 hMV2 hW hV.s28 hV.v19 (fun σ1 h1 f1 => ?_) )
    show AW G κ _ _ 1991 _ _ _
    have hS3 := hS2.mod (MP.mk h1 rfl hB2) f1 (hL2.zc zJ9)
    obtain ⟨A3, hMV3, hB3⟩ := id hS3.2.1
    obtain ⟨-, -, -, ho3, -⟩ := id hS3
    refine sL_law_1991 hΓ ?_
    refine sL_law_1993 hΓ rfl ?_
    refine sL_law_1994 hΓ 0 0 (Nat.le_of_ble_eq_true rfl) hMV3.o (fun κ_1994 hΓ_1994 => sp_thrown hΓ_1994 hMV3 ?_)
    show AW G κ _ _ 1997 _ _ _
    refine sL_law_1997 hΓ rfl ?_
    refine sL_law_1999 hΓ (fun _ => ?_) (fun c9 => absurd (show upd z 9 (bI (!rIsT (B 0) (xs (ii + 1)))) 9 = 0 by rw [ec]; rfl) c9)
    refine sL_law_2004 hΓ rfl ?_
    refine sL_law_2006 hΓ (fun c9 => absurd rfl c9) (fun _ => ?_)
    refine sL_law_2009 hΓ rfl ?_
    refine sL_law_2010 hΓ ?_
    refine sL_law_2011 hΓ ho3 (j := 0) rfl (by decide) (by decide) ?_
    refine sL_law_2012 hΓ rfl ?_
    refine sL_law_2014 hΓ ?_
    refine sL_law_2015 hΓ ?_
    rw [vl0, lc0]
    refine sL_law_2016 hΓ (fun _ => ?_) (fun c9 => absurd rfl c9)
    refine sL_law_2021 hΓ ?_
    exact kk σ1 c _ B _ _ _ _ _ hS3
  · obtain ⟨rfl, rfl, ec⟩ := h9
    refine ⟨rfl, ?_⟩
    show AW G κ _ _ 1979 _ _ _
    have hS2 := hS
    obtain ⟨hL2, hM2, -, ho2, -⟩ := id hS2
    obtain ⟨A2, hMV2, hB2⟩ := id hM2
    refine sL_law_1979 hΓ ?_
    refine sL_law_1981 hΓ rfl ?_
    refine sL_law_1982 hΓ rfl ?_
    refine sL_law_1983 hΓ rfl ?_
    refine sL_law_1985 hΓ ?_
    refine sL_law_1986 hΓ ?_
    refine sL_law_1987 hΓ hA (j := ii + 1) (show _ = nI (ii + 1) by rw [hyi]; exact nI_add ii 1) (by omega) hn ?_
    refine sL_law_1988 hΓ 0 0 (Nat.le_of_ble_eq_true rfl) hMV2.o (fun κ_1988 hΓ_1988 => sp_brakingTicks hΓ_1988 hMV2 hW hV.s28 hV.v19 (fun σ1 h1 f1 => ?_) )
    show AW G κ _ _ 1991 _ _ _
    have hS3 := hS2.mod (MP.mk h1 rfl hB2) f1 (hL2.zc zJ9)
    obtain ⟨A3, hMV3, hB3⟩ := id hS3.2.1
    obtain ⟨-, -, -, ho3, -⟩ := id hS3
    refine sL_law_1991 hΓ ?_
    refine sL_law_1993 hΓ rfl ?_
    refine sL_law_1994 hΓ 0 0 (Nat.le_of_ble_eq_true rfl) hMV3.o (fun κ_1994 hΓ_1994 => sp_thrown hΓ_1994 hMV3 ?_)
    show AW G κ _ _ 1997 _ _ _
    refine sL_law_1997 hΓ rfl ?_
    refine sL_law_1999 hΓ (fun _ => ?_) (fun c9 => absurd (show upd z 9 (bI (!rIsT (B 0) (xs (ii + 1)))) 9 = 1 by rw [ec]; rfl) c9)
    refine sL_law_2004 hΓ rfl ?_
    refine sL_law_2006 hΓ (fun _ => ?_) (fun c9 => absurd c9 (by decide))
    refine sL_law_2021 hΓ ?_
    exact kk σ1 c _ B f _ _ _ _ hS3
theorem op_brakingDistance (hΓ : Ok G κ mL_law (d + 24) Q X) (hN : NcK κ) (hA : ArK G κ s0 n xs) (hn : n < 2 ^ 31) (hyi : yi = nI ii) (hb : ii + 6 ≤ n) (hS : LSt G σ c x am o A r z B f) (kk : ∀ (σ1 : Hp) (c1 : Nat → Nat) (z1 : Nat → Int32) (B1 : Nat → Nat → Int32) (f1 : Nat → Int64) (v5 v6 v7 v8 : Option LV), LSt G σ1 c1 x am o A r z1 B1 f1 → AW G κ cs ss 2959 [lR s0, lR x, lR am, lR o, lI yi, v5, v6, v7, v8] [] σ1) : AW G κ (cs + 40) (ss + 400) 2024 [lR s0, lR x, lR am, lR o, lI yi, w5, w6, w7, w8] [] σ := by
  refine aw_less (cs2 := cs + 1) (ss2 := ss + 6) (by omega) (by omega) ?_
  obtain ⟨hL, hM, hc, ho, hco⟩ := id hS
  obtain ⟨n0, s, C, n2, C2, Nh, Ch, u, b, l, cd, og, hs, out, ol, hT, hR⟩ := hL
  have hL : RLx G σ c x A am z B := ⟨n0, s, C, n2, C2, Nh, Ch, u, b, l, cd, og, hs, out, ol, hT, hR⟩
  obtain ⟨A', hMV, hB⟩ := id hM
  obtain ⟨⟨hV, hC⟩, -⟩ := id hR
  obtain ⟨t, q, p, tr, g, hcg⟩ := hT.m
  have hW := hV.1.1
  obtain ⟨l9, hl9, hQ9⟩ := hV.ql
  refine sL_law_2024 hΓ rfl ?_
  refine sL_law_2025 hΓ rfl ?_
  refine sL_law_2026 hΓ rfl ?_
  refine sL_law_2028 hΓ ?_
  refine sL_law_2029 hΓ ?_
  refine sL_law_2030 hΓ hA (j := ii + 1) (show _ = nI (ii + 1) by rw [hyi]; exact nI_add ii 1) (by omega) hn ?_
  refine sL_law_2031 hΓ rfl ?_
  refine sL_law_2032 hΓ hN 1 6 (Nat.le_of_ble_eq_true rfl) (fun κ2 hok hN2 => wL_brakingDistance (cs := 0) (ss := 0) (f := f) hok hN2 1 6 hT.o (fun v σ1 => σ1 = σ ∧ rIsT (B 0) (xs (ii + 1)) = true ∧ v = (rBrake (B 0) true (xs (ii + 1)))) (fun E σ1 => σ1 = σ ∧ E = "java/lang/IndexOutOfBoundsException" ∧ rIsT (B 0) (xs (ii + 1)) = false) (fun κ3 Q3 X3 hok3 hr ht => tt_brakingDistance (cs := 0) (ss := 0) hok3 hT.o g hV hC (fun e => ht _ _ ⟨rfl, rfl, e⟩) (fun e => hr _ _ ⟨rfl, e, rfl⟩)) (fun v σ1 h9 => ?_) (fun E σ1 h9 => ?_))
  · obtain ⟨rfl, ec, rfl⟩ := h9
    refine ⟨ho, ?_⟩
    show AW G κ _ _ 2035 _ _ _
    have hS2 := hS.out (vp_updL f 0 ((rBrake (B 0) true (xs (ii + 1)))).toInt64)
    obtain ⟨hL2, hM2, -, ho2, -⟩ := id hS2
    obtain ⟨A2, hMV2, hB2⟩ := id hM2
    refine sL_law_2035 hΓ ?_
    refine sL_law_2037 hΓ rfl ?_
    refine sL_law_2038 hΓ rfl ?_
    refine sL_law_2039 hΓ rfl ?_
    refine sL_law_2041 hΓ ?_
    refine sL_law_2042 hΓ ?_
    refine sL_law_2043 hΓ hA (j := ii + 1) (show _ = nI (ii + 1) by rw [hyi]; exact nI_add ii 1) (by omega) hn ?_
    refine sL_law_2044 hΓ 0 0 (Nat.le_of_ble_eq_true rfl) hMV2.o (fun κ_2044 hΓ_2044 => sp_brakingDistance hΓ_2044 hMV2 hW hV.s28 hV.v19 (fun σ1 h1 f1 => ?_) )
    show AW G κ _ _ 2047 _ _ _
    have hS3 := hS2.mod (MP.mk h1 rfl hB2) f1 (hL2.zc zJ9)
    obtain ⟨A3, hMV3, hB3⟩ := id hS3.2.1
    obtain ⟨-, -, -, ho3, -⟩ := id hS3
    refine sL_law_2047 hΓ ?_
    refine sL_law_2049 hΓ rfl ?_
    refine sL_law_2050 hΓ 0 0 (Nat.le_of_ble_eq_true rfl) hMV3.o (fun κ_2050 hΓ_2050 => sp_thrown hΓ_2050 hMV3 ?_)
    show AW G κ _ _ 2053 _ _ _
    refine sL_law_2053 hΓ rfl ?_
    refine sL_law_2055 hΓ (fun _ => ?_) (fun c9 => absurd (show upd z 9 (bI (!rIsT (B 0) (xs (ii + 1)))) 9 = 0 by rw [ec]; rfl) c9)
    refine sL_law_2060 hΓ rfl ?_
    refine sL_law_2062 hΓ (fun c9 => absurd rfl c9) (fun _ => ?_)
    refine sL_law_2065 hΓ rfl ?_
    refine sL_law_2066 hΓ ?_
    refine sL_law_2067 hΓ ho3 (j := 0) rfl (by decide) (by decide) ?_
    refine sL_law_2068 hΓ rfl ?_
    refine sL_law_2070 hΓ ?_
    refine sL_law_2071 hΓ ?_
    rw [vl0, lc0]
    refine sL_law_2072 hΓ (fun _ => ?_) (fun c9 => absurd rfl c9)
    refine sL_law_2077 hΓ ?_
    exact kk σ1 c _ B _ _ _ _ _ hS3
  · obtain ⟨rfl, rfl, ec⟩ := h9
    refine ⟨rfl, ?_⟩
    show AW G κ _ _ 2035 _ _ _
    have hS2 := hS
    obtain ⟨hL2, hM2, -, ho2, -⟩ := id hS2
    obtain ⟨A2, hMV2, hB2⟩ := id hM2
    refine sL_law_2035 hΓ ?_
    refine sL_law_2037 hΓ rfl ?_
    refine sL_law_2038 hΓ rfl ?_
    refine sL_law_2039 hΓ rfl ?_
    refine sL_law_2041 hΓ ?_
    refine sL_law_2042 hΓ ?_
    refine sL_law_2043 hΓ hA (j := ii + 1) (show _ = nI (ii + 1) by rw [hyi]; exact nI_add ii 1) (by omega) hn ?_
    refine sL_law_2044 hΓ 0 0 (Nat.le_of_ble_eq_true rfl) hMV2.o (fun κ_2044 hΓ_2044 => sp_brakingDistance hΓ_2044 hMV2 hW hV.s28 hV.v19 (fun σ1 h1 f1 => ?_) )
    show AW G κ _ _ 2047 _ _ _
    have hS3 := hS2.mod (MP.mk h1 rfl hB2) f1 (hL2.zc zJ9)
    obtain ⟨A3, hMV3, hB3⟩ := id hS3.2.1
    obtain ⟨-, -, -, ho3, -⟩ := id hS3
    refine sL_law_2047 hΓ ?_
    refine sL_law_2049 hΓ rfl ?_
    refine sL_law_2050 hΓ 0 0 (Nat.le_of_ble_eq_true rfl) hMV3.o (fun κ_2050 hΓ_2050 => sp_thrown hΓ_2050 hMV3 ?_)
    show AW G κ _ _ 2053 _ _ _
    refine sL_law_2053 hΓ rfl ?_
    refine sL_law_2055 hΓ (fun _ => ?_) (fun c9 => absurd (show upd z 9 (bI (!rIsT (B 0) (xs (ii + 1)))) 9 = 1 by rw [ec]; rfl) c9)
    refine sL_law_2060 hΓ rfl ?_
    refine sL_law_2062 hΓ (fun _ => ?_) (fun c9 => absurd c9 (by decide))
    refine sL_law_2077 hΓ ?_
    exact kk σ1 c _ B f _ _ _ _ hS3
theorem op_checkOf (hΓ : Ok G κ mL_law (d + 24) Q X) (hN : NcK κ) (hA : ArK G κ s0 n xs) (hn : n < 2 ^ 31) (hyi : yi = nI ii) (hb : ii + 6 ≤ n) (hS : LSt G σ c x am o A r z B f) (kk : ∀ (σ1 : Hp) (c1 : Nat → Nat) (z1 : Nat → Int32) (B1 : Nat → Nat → Int32) (f1 : Nat → Int64) (v5 v6 v7 v8 : Option LV), LSt G σ1 c1 x am o A r z1 B1 f1 → AW G κ cs ss 2959 [lR s0, lR x, lR am, lR o, lI yi, v5, v6, v7, v8] [] σ1) : AW G κ (cs + 40) (ss + 400) 1887 [lR s0, lR x, lR am, lR o, lI yi, w5, w6, w7, w8] [] σ := by
  refine aw_less (cs2 := cs + 2) (ss2 := ss + 12) (by omega) (by omega) ?_
  obtain ⟨hL, hM, hc, ho, hco⟩ := id hS
  obtain ⟨n0, s, C, n2, C2, Nh, Ch, u, b, l, cd, og, hs, out, ol, hT, hR⟩ := hL
  have hL : RLx G σ c x A am z B := ⟨n0, s, C, n2, C2, Nh, Ch, u, b, l, cd, og, hs, out, ol, hT, hR⟩
  obtain ⟨A', hMV, hB⟩ := id hM
  obtain ⟨⟨hV, hC⟩, -⟩ := id hR
  obtain ⟨t, q, p, tr, g, hcg⟩ := hT.m
  have hW := hV.1.1
  obtain ⟨l9, hl9, hQ9⟩ := hV.ql
  refine sL_law_1887 hΓ rfl ?_
  refine sL_law_1888 hΓ rfl ?_
  refine sL_law_1889 hΓ rfl ?_
  refine sL_law_1891 hΓ ?_
  refine sL_law_1892 hΓ ?_
  refine sL_law_1893 hΓ hA (j := ii + 1) (show _ = nI (ii + 1) by rw [hyi]; exact nI_add ii 1) (by omega) hn ?_
  refine sL_law_1894 hΓ rfl ?_
  refine sL_law_1895 hΓ rfl ?_
  refine sL_law_1897 hΓ ?_
  refine sL_law_1898 hΓ ?_
  refine sL_law_1899 hΓ hA (j := ii + 2) (show _ = nI (ii + 2) by rw [hyi]; exact nI_add ii 2) (by omega) hn ?_
  refine sL_law_1900 hΓ rfl ?_
  refine sL_law_1901 hΓ hN 2 12 (Nat.le_of_ble_eq_true rfl) (fun κ2 hok hN2 => wL_checkOf (cs := 0) (ss := 0) (f := f) hok hN2 2 12 hT.o (fun v σ1 => σ1 = σ ∧ (rByte (xs (ii + 1)) && rByte (xs (ii + 2))) = true ∧ v = (rCheck (xs (ii + 1)) (xs (ii + 2)))) (fun E σ1 => σ1 = σ ∧ E = "java/lang/IllegalArgumentException" ∧ (rByte (xs (ii + 1)) && rByte (xs (ii + 2))) = false) (fun κ3 Q3 X3 hok3 hr ht => tt_checkOf (cs := 0) (ss := 0) hok3 hT.o g hV hC (fun e => ht _ _ ⟨rfl, rfl, e⟩) (fun e => hr _ _ ⟨rfl, e, by unfold rCheck; rw [if_pos e]⟩)) (fun v σ1 h9 => ?_) (fun E σ1 h9 => ?_))
  · obtain ⟨rfl, ec, rfl⟩ := h9
    refine ⟨ho, ?_⟩
    show AW G κ _ _ 1904 _ _ _
    have hS2 := hS.out (vp_updL f 0 ((rCheck (xs (ii + 1)) (xs (ii + 2)))).toInt64)
    obtain ⟨hL2, hM2, -, ho2, -⟩ := id hS2
    obtain ⟨A2, hMV2, hB2⟩ := id hM2
    refine sL_law_1904 hΓ ?_
    refine sL_law_1906 hΓ rfl ?_
    refine sL_law_1907 hΓ rfl ?_
    refine sL_law_1908 hΓ rfl ?_
    refine sL_law_1910 hΓ ?_
    refine sL_law_1911 hΓ ?_
    refine sL_law_1912 hΓ hA (j := ii + 1) (show _ = nI (ii + 1) by rw [hyi]; exact nI_add ii 1) (by omega) hn ?_
    refine sL_law_1913 hΓ rfl ?_
    refine sL_law_1914 hΓ rfl ?_
    refine sL_law_1916 hΓ ?_
    refine sL_law_1917 hΓ ?_
    refine sL_law_1918 hΓ hA (j := ii + 2) (show _ = nI (ii + 2) by rw [hyi]; exact nI_add ii 2) (by omega) hn ?_
    refine sL_law_1919 hΓ 0 0 (Nat.le_of_ble_eq_true rfl) hMV2.o (fun κ_1919 hΓ_1919 => sp_checkOf hΓ_1919 hMV2 (fun σ1 h1 f1 => ?_) )
    show AW G κ _ _ 1922 _ _ _
    have hS3 := hS2.mod (MP.mk h1 rfl hB2) f1 (hL2.zc zJ9)
    obtain ⟨A3, hMV3, hB3⟩ := id hS3.2.1
    obtain ⟨-, -, -, ho3, -⟩ := id hS3
    refine sL_law_1922 hΓ ?_
    refine sL_law_1924 hΓ rfl ?_
    refine sL_law_1925 hΓ 0 0 (Nat.le_of_ble_eq_true rfl) hMV3.o (fun κ_1925 hΓ_1925 => sp_thrown hΓ_1925 hMV3 ?_)
    show AW G κ _ _ 1928 _ _ _
    refine sL_law_1928 hΓ rfl ?_
    refine sL_law_1930 hΓ (fun _ => ?_) (fun c9 => absurd (show upd z 9 (bI (!(rByte (xs (ii + 1)) && rByte (xs (ii + 2))))) 9 = 0 by rw [ec]; rfl) c9)
    refine sL_law_1935 hΓ rfl ?_
    refine sL_law_1937 hΓ (fun c9 => absurd rfl c9) (fun _ => ?_)
    refine sL_law_1940 hΓ rfl ?_
    refine sL_law_1941 hΓ ?_
    refine sL_law_1942 hΓ ho3 (j := 0) rfl (by decide) (by decide) ?_
    refine sL_law_1943 hΓ rfl ?_
    refine sL_law_1945 hΓ ?_
    refine sL_law_1946 hΓ ?_
    rw [vl0, lc0]
    refine sL_law_1947 hΓ (fun _ => ?_) (fun c9 => absurd rfl c9)
    refine sL_law_1952 hΓ ?_
    exact kk σ1 c _ B _ _ _ _ _ hS3
  · obtain ⟨rfl, rfl, ec⟩ := h9
    refine ⟨rfl, ?_⟩
    show AW G κ _ _ 1904 _ _ _
    have hS2 := hS
    obtain ⟨hL2, hM2, -, ho2, -⟩ := id hS2
    obtain ⟨A2, hMV2, hB2⟩ := id hM2
    refine sL_law_1904 hΓ ?_
    refine sL_law_1906 hΓ rfl ?_
    refine sL_law_1907 hΓ rfl ?_
    refine sL_law_1908 hΓ rfl ?_
    refine sL_law_1910 hΓ ?_
    refine sL_law_1911 hΓ ?_
    refine sL_law_1912 hΓ hA (j := ii + 1) (show _ = nI (ii + 1) by rw [hyi]; exact nI_add ii 1) (by omega) hn ?_
    refine sL_law_1913 hΓ rfl ?_
    refine sL_law_1914 hΓ rfl ?_
    refine sL_law_1916 hΓ ?_
    refine sL_law_1917 hΓ ?_
    refine sL_law_1918 hΓ hA (j := ii + 2) (show _ = nI (ii + 2) by rw [hyi]; exact nI_add ii 2) (by omega) hn ?_
    refine sL_law_1919 hΓ 0 0 (Nat.le_of_ble_eq_true rfl) hMV2.o (fun κ_1919 hΓ_1919 => sp_checkOf hΓ_1919 hMV2 (fun σ1 h1 f1 => ?_) )
    show AW G κ _ _ 1922 _ _ _
    have hS3 := hS2.mod (MP.mk h1 rfl hB2) f1 (hL2.zc zJ9)
    obtain ⟨A3, hMV3, hB3⟩ := id hS3.2.1
    obtain ⟨-, -, -, ho3, -⟩ := id hS3
    refine sL_law_1922 hΓ ?_
    refine sL_law_1924 hΓ rfl ?_
    refine sL_law_1925 hΓ 0 0 (Nat.le_of_ble_eq_true rfl) hMV3.o (fun κ_1925 hΓ_1925 => sp_thrown hΓ_1925 hMV3 ?_)
    show AW G κ _ _ 1928 _ _ _
    refine sL_law_1928 hΓ rfl ?_
    refine sL_law_1930 hΓ (fun _ => ?_) (fun c9 => absurd (show upd z 9 (bI (!(rByte (xs (ii + 1)) && rByte (xs (ii + 2))))) 9 = 1 by rw [ec]; rfl) c9)
    refine sL_law_1935 hΓ rfl ?_
    refine sL_law_1937 hΓ (fun _ => ?_) (fun c9 => absurd c9 (by decide))
    refine sL_law_1952 hΓ ?_
    exact kk σ1 c _ B f _ _ _ _ hS3
theorem op_outputByte (hΓ : Ok G κ mL_law (d + 24) Q X) (hN : NcK κ) (hA : ArK G κ s0 n xs) (hn : n < 2 ^ 31) (hyi : yi = nI ii) (hb : ii + 6 ≤ n) (hS : LSt G σ c x am o A r z B f) (kk : ∀ (σ1 : Hp) (c1 : Nat → Nat) (z1 : Nat → Int32) (B1 : Nat → Nat → Int32) (f1 : Nat → Int64) (v5 v6 v7 v8 : Option LV), LSt G σ1 c1 x am o A r z1 B1 f1 → AW G κ cs ss 2959 [lR s0, lR x, lR am, lR o, lI yi, v5, v6, v7, v8] [] σ1) : AW G κ (cs + 40) (ss + 400) 2791 [lR s0, lR x, lR am, lR o, lI yi, w5, w6, w7, w8] [] σ := by
  refine aw_less (cs2 := cs + 1) (ss2 := ss + 6) (by omega) (by omega) ?_
  obtain ⟨hL, hM, hc, ho, hco⟩ := id hS
  obtain ⟨n0, s, C, n2, C2, Nh, Ch, u, b, l, cd, og, hs, out, ol, hT, hR⟩ := hL
  have hL : RLx G σ c x A am z B := ⟨n0, s, C, n2, C2, Nh, Ch, u, b, l, cd, og, hs, out, ol, hT, hR⟩
  obtain ⟨A', hMV, hB⟩ := id hM
  obtain ⟨⟨hV, hC⟩, -⟩ := id hR
  obtain ⟨t, q, p, tr, g, hcg⟩ := hT.m
  have hW := hV.1.1
  obtain ⟨l9, hl9, hQ9⟩ := hV.ql
  obtain ⟨k14, hk14, -, hz14, -⟩ := hR.2.2.2.1
  refine sL_law_2791 hΓ rfl ?_
  refine sL_law_2792 hΓ rfl ?_
  refine sL_law_2793 hΓ rfl ?_
  refine sL_law_2795 hΓ ?_
  refine sL_law_2796 hΓ ?_
  refine sL_law_2797 hΓ hA (j := ii + 1) (show _ = nI (ii + 1) by rw [hyi]; exact nI_add ii 1) (by omega) hn ?_
  refine sL_law_2798 hΓ rfl ?_
  refine sL_law_2799 hΓ hN 1 6 (Nat.le_of_ble_eq_true rfl) (fun κ2 hok hN2 => wL_outputByte (cs := 0) (ss := 0) (f := f) hok hN2 1 6 hT.o (fun v σ1 => σ1 = σ ∧ rIn (xs (ii + 1)) 0 (nI k14 - 1) = true ∧ v = (if rIn (xs (ii + 1)) 0 (nI k14 - 1) = true then B 13 ((xs (ii + 1))).toNatClampNeg else 0)) (fun E σ1 => σ1 = σ ∧ E = "java/lang/IndexOutOfBoundsException" ∧ rIn (xs (ii + 1)) 0 (nI k14 - 1) = false) (fun κ3 Q3 X3 hok3 hr ht => tt_outputByte (cs := 0) (ss := 0) hok3 hT hR hz14 hk14 (fun e => ht _ _ ⟨rfl, rfl, e⟩) (fun e => hr _ _ ⟨rfl, e, by rw [if_pos e]⟩)) (fun v σ1 h9 => ?_) (fun E σ1 h9 => ?_))
  · obtain ⟨rfl, ec, rfl⟩ := h9
    refine ⟨ho, ?_⟩
    show AW G κ _ _ 2802 _ _ _
    have hS2 := hS.out (vp_updL f 0 ((if rIn (xs (ii + 1)) 0 (nI k14 - 1) = true then B 13 ((xs (ii + 1))).toNatClampNeg else 0)).toInt64)
    obtain ⟨hL2, hM2, -, ho2, -⟩ := id hS2
    obtain ⟨A2, hMV2, hB2⟩ := id hM2
    refine sL_law_2802 hΓ ?_
    refine sL_law_2804 hΓ rfl ?_
    refine sL_law_2805 hΓ rfl ?_
    refine sL_law_2806 hΓ rfl ?_
    refine sL_law_2808 hΓ ?_
    refine sL_law_2809 hΓ ?_
    refine sL_law_2810 hΓ hA (j := ii + 1) (show _ = nI (ii + 1) by rw [hyi]; exact nI_add ii 1) (by omega) hn ?_
    refine sL_law_2811 hΓ 0 0 (Nat.le_of_ble_eq_true rfl) hMV2.o (fun κ_2811 hΓ_2811 => rp_outputByte hΓ_2811 hM2 hz14 hk14 (fun σ1 h1 f1 => ?_) )
    show AW G κ _ _ 2814 _ _ _
    have hS3 := hS2.mod (h1) f1 (hL2.zc zJ9)
    obtain ⟨A3, hMV3, hB3⟩ := id hS3.2.1
    obtain ⟨-, -, -, ho3, -⟩ := id hS3
    refine sL_law_2814 hΓ ?_
    refine sL_law_2816 hΓ rfl ?_
    refine sL_law_2817 hΓ 0 0 (Nat.le_of_ble_eq_true rfl) hMV3.o (fun κ_2817 hΓ_2817 => sp_thrown hΓ_2817 hMV3 ?_)
    show AW G κ _ _ 2820 _ _ _
    refine sL_law_2820 hΓ rfl ?_
    refine sL_law_2822 hΓ (fun _ => ?_) (fun c9 => absurd (show upd z 9 (bI (!rIn (xs (ii + 1)) 0 (nI k14 - 1))) 9 = 0 by rw [ec]; rfl) c9)
    refine sL_law_2827 hΓ rfl ?_
    refine sL_law_2829 hΓ (fun c9 => absurd rfl c9) (fun _ => ?_)
    refine sL_law_2832 hΓ rfl ?_
    refine sL_law_2833 hΓ ?_
    refine sL_law_2834 hΓ ho3 (j := 0) rfl (by decide) (by decide) ?_
    refine sL_law_2835 hΓ rfl ?_
    refine sL_law_2837 hΓ ?_
    refine sL_law_2838 hΓ ?_
    rw [vl0, lc0]
    refine sL_law_2839 hΓ (fun _ => ?_) (fun c9 => absurd rfl c9)
    refine sL_law_2844 hΓ ?_
    exact kk σ1 c _ B _ _ _ _ _ hS3
  · obtain ⟨rfl, rfl, ec⟩ := h9
    refine ⟨rfl, ?_⟩
    show AW G κ _ _ 2802 _ _ _
    have hS2 := hS
    obtain ⟨hL2, hM2, -, ho2, -⟩ := id hS2
    obtain ⟨A2, hMV2, hB2⟩ := id hM2
    refine sL_law_2802 hΓ ?_
    refine sL_law_2804 hΓ rfl ?_
    refine sL_law_2805 hΓ rfl ?_
    refine sL_law_2806 hΓ rfl ?_
    refine sL_law_2808 hΓ ?_
    refine sL_law_2809 hΓ ?_
    refine sL_law_2810 hΓ hA (j := ii + 1) (show _ = nI (ii + 1) by rw [hyi]; exact nI_add ii 1) (by omega) hn ?_
    refine sL_law_2811 hΓ 0 0 (Nat.le_of_ble_eq_true rfl) hMV2.o (fun κ_2811 hΓ_2811 => rp_outputByte hΓ_2811 hM2 hz14 hk14 (fun σ1 h1 f1 => ?_) )
    show AW G κ _ _ 2814 _ _ _
    have hS3 := hS2.mod (h1) f1 (hL2.zc zJ9)
    obtain ⟨A3, hMV3, hB3⟩ := id hS3.2.1
    obtain ⟨-, -, -, ho3, -⟩ := id hS3
    refine sL_law_2814 hΓ ?_
    refine sL_law_2816 hΓ rfl ?_
    refine sL_law_2817 hΓ 0 0 (Nat.le_of_ble_eq_true rfl) hMV3.o (fun κ_2817 hΓ_2817 => sp_thrown hΓ_2817 hMV3 ?_)
    show AW G κ _ _ 2820 _ _ _
    refine sL_law_2820 hΓ rfl ?_
    refine sL_law_2822 hΓ (fun _ => ?_) (fun c9 => absurd (show upd z 9 (bI (!rIn (xs (ii + 1)) 0 (nI k14 - 1))) 9 = 1 by rw [ec]; rfl) c9)
    refine sL_law_2827 hΓ rfl ?_
    refine sL_law_2829 hΓ (fun _ => ?_) (fun c9 => absurd c9 (by decide))
    refine sL_law_2844 hΓ ?_
    exact kk σ1 c _ B f _ _ _ _ hS3
end LawOpsB
