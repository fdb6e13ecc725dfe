/-! the law's calls: tracks, the history, texts -/
theorem oShort_no {z ρ : Nat → Int32} {s : Nat} {x v : Int32} (h : ¬ (oShort z ρ s x v).1 = 0) : oShort z ρ s x v = (1, z, ρ) := by
  unfold oShort at h ⊢
  by_cases e : rIsS ρ x = true
  · rw [if_pos e] at h; exact absurd rfl h
  · exact if_neg e
theorem rIn_len {x : Int32} {l k : Nat} (h : l ≤ k) (hk : k ≤ 500) (hx : x = nI l) : rIn x 0 (nI k) = true := by
  rw [hx]
  exact (rIn_nat (lo := 0) (by omega) (by omega) (by omega)).trans (decide_eq_true ⟨Nat.zero_le _, h⟩)
theorem ldZ9 {z : Nat → Int32} {P : Pt} : ldZ z P 9 = 0 := by
  unfold ldZ zEnd
  split
  · rfl
  · rfl
theorem rsZ9 {z : Nat → Int32} {P : Pt} {u : Nat} : rsZ z P u 9 = 0 := by
  unfold rsZ zEnd
  split
  · rfl
  · rfl
theorem zJp {j : Nat} (h : zJ j) : pubJ j := by
  unfold zJ at h
  unfold pubJ
  omega
theorem wb_ne {x y v u w : Int32} {k : Nat} : ¬ wByte x y v u w k = -1 := fun h => by
  unfold wByte at h
  have h2 := congrArg (fun q : Int32 => q &&& 256) h
  rw [Int32.and_assoc, show ((255 : Int32) &&& 256) = 0 by decide, Int32.and_zero] at h2
  exact absurd h2 (by decide)
theorem bb_app {b : Nat → Int32} {l : Nat} {x y v u w : Int32} (h : BB b l) : BB (bApp b l x y v u w 20) (l + 20) := fun j hj => by
  unfold bApp
  by_cases e : l ≤ j ∧ j < l + 20
  · rw [if_pos e]; exact wb_ne
  · rw [if_neg e]; exact h j (by omega)
/-- the reference's row beyond its length doesn't matter -/
theorem mp_row {G : Gl} {κ : Kx} {cs ss pc : Nat} {L : List (Option LV)} {st : List Value} {σ : Hp} {a : Nat} {r : Nat → Nat} {z : Nat → Int32} {B : Nat → Nat → Int32} {ρ0 ρ1 : Nat → Int32} (h : MP G σ a r z (updA B 0 ρ0)) (e : ∀ j, j < 184 → ρ0 j = ρ1 j) (kk : ∀ σ1 : Hp, MP G σ1 a r z (updA B 0 ρ1) → MF a r σ σ1 → AW G κ cs ss pc L st σ1) : AW G κ cs ss pc L st σ := by
  obtain ⟨A', h1, hB⟩ := h
  rw [updA_same] at h1
  refine aw_eI ρ1 h1.row e (mv_row h1 (fun σ1 h3 f3 => kk σ1 (MP.mk h3 (updA_same _ _ _) (fun k hk => ?_)) f3))
  have k0 : k ≠ 0 := by unfold keyP at hk; omega
  rw [hB k hk, updA_ne k0, updA_ne k0]
section LawOpsF
variable {G : Gl} {κ : Kx} {d : Nat} {Q : Option Value → Hp → Prop} {X : String → Hp → Prop} {cs ss : Nat} {σ : Hp} {c A r : Nat → Nat} {s0 x am o n ii : Nat} {yi : Int32} {xs z : Nat → Int32} {B : Nat → Nat → Int32} {f : Nat → Int64} {w5 w6 w7 w8 : Option LV}
theorem op_setShort0 (hΓ : Ok G κ mL_law (d + 24) Q X) (hN : NcK κ) (hA : ArK G κ s0 n xs) (hn : n < 2 ^ 31) (hyi : yi = nI ii) (hb : ii + 6 ≤ n) (hS : LSt G σ c x am o A r z B f) (cz : (xs (ii + 2)) = 0) (kk : ∀ (σ1 : Hp) (c1 : Nat → Nat) (z1 : Nat → Int32) (B1 : Nat → Nat → Int32) (f1 : Nat → Int64) (v5 v6 v7 v8 : Option LV), LSt G σ1 c1 x am o A r z1 B1 f1 → AW G κ cs ss 2959 [lR s0, lR x, lR am, lR o, lI yi, v5, v6, v7, v8] [] σ1) : AW G κ (cs + 40) (ss + 400) 2501 [lR s0, lR x, lR am, lR o, lI yi, w5, w6, w7, w8] [] σ := by
  refine aw_less (cs2 := cs + 8) (ss2 := ss + 102) (by omega) (by omega) ?_
  obtain ⟨hL, hM, hc, ho, hco⟩ := id hS
  obtain ⟨n0, s, C, n2, C2, Nh, Ch, u, b, l, cd, og, hs, out, ol, hT, hR⟩ := hL
  have hL : RLx G σ c x A am z B := ⟨n0, s, C, n2, C2, Nh, Ch, u, b, l, cd, og, hs, out, ol, hT, hR⟩
  obtain ⟨A', hMV, hB⟩ := id hM
  obtain ⟨⟨hV, hC⟩, -⟩ := id hR
  obtain ⟨t, q, p, tr, g, hcg⟩ := hT.m
  have hW := hV.1.1
  obtain ⟨l9, hl9, hQ9⟩ := hV.ql
  obtain ⟨k8, hk8, hu8, hz8⟩ := hR.u8
  have hq6 : B 0 6 = nI (rQ (B 0)) := by rw [rQ_lt hQ9 hl9]; exact hQ9
  have hq12 : rQ (B 0) ≤ 12 := by rw [rQ_lt hQ9 hl9]; exact hl9
  refine sL_law_2501 hΓ rfl ?_
  refine sL_law_2502 hΓ rfl ?_
  refine sL_law_2503 hΓ rfl ?_
  refine sL_law_2505 hΓ ?_
  refine sL_law_2506 hΓ ?_
  refine sL_law_2507 hΓ hA (j := ii + 1) (show _ = nI (ii + 1) by rw [hyi]; exact nI_add ii 1) (by omega) hn ?_
  refine sL_law_2508 hΓ rfl ?_
  refine sL_law_2509 hΓ rfl ?_
  refine sL_law_2511 hΓ ?_
  refine sL_law_2512 hΓ ?_
  refine sL_law_2513 hΓ hA (j := ii + 2) (show _ = nI (ii + 2) by rw [hyi]; exact nI_add ii 2) (by omega) hn ?_
  refine sL_law_2514 hΓ (fun c2514 => ?_) (fun c2514 => absurd cz c2514)
  refine sL_law_2521 hΓ ?_
  refine sL_law_2522 hΓ rfl ?_
  refine sL_law_2523 hΓ hN 8 102 (Nat.le_of_ble_eq_true rfl) (fun κ2 hok hN2 => wL_setShort (cs := 0) (ss := 0) (f := f) hok hN2 8 102 hT.o (fun v σ1 => ∃ c1, RLx G σ1 c1 x A am (fZ (oShort z (B 0) s (xs (ii + 1)) 0) k8) (fB B (oShort z (B 0) s (xs (ii + 1)) 0) k8) ∧ KF (NA am) σ c σ1 c1 ∧ v = ((oShort z (B 0) s (xs (ii + 1)) 0).2.1 11) ∧ (oShort z (B 0) s (xs (ii + 1)) 0).1 = 0) (fun E σ1 => σ1 = σ ∧ ((E = "java/lang/IndexOutOfBoundsException" ∧ ¬ (oShort z (B 0) s (xs (ii + 1)) 0).1 = 0))) (fun κ3 Q3 X3 hok3 hr ht => tq_setShort (cs := 0) (ss := 0) hok3 hT hR hk8 hu8 hz8 (Or.inl rfl) (fun e0 => ht _ _ ⟨rfl, rfl, e0⟩) (fun e0 σ1 c1 h1 f1 => hr _ _ ⟨c1, h1, f1, rfl, e0⟩)) (fun v σ1 h9 => ?_) (fun E σ1 h9 => ?_))
  · obtain ⟨c1, hR1, fK, rfl, hH⟩ := h9
    have hS1 := hS.c2 hR1 fK
    refine ⟨hS1.2.2.2.1, ?_⟩
    show AW G κ _ _ 2526 _ _ _
    have hS2 := hS1.out (vp_updL f 0 (((oShort z (B 0) s (xs (ii + 1)) 0).2.1 11)).toInt64)
    have hM2 := hS2.2.1
    refine sL_law_2526 hΓ ?_
    refine sL_law_2528 hΓ rfl ?_
    refine sL_law_2529 hΓ rfl ?_
    refine sL_law_2530 hΓ rfl ?_
    refine sL_law_2532 hΓ ?_
    refine sL_law_2533 hΓ ?_
    refine sL_law_2534 hΓ hA (j := ii + 1) (show _ = nI (ii + 1) by rw [hyi]; exact nI_add ii 1) (by omega) hn ?_
    refine sL_law_2535 hΓ rfl ?_
    refine sL_law_2536 hΓ rfl ?_
    refine sL_law_2538 hΓ ?_
    refine sL_law_2539 hΓ ?_
    refine sL_law_2540 hΓ hA (j := ii + 2) (show _ = nI (ii + 2) by rw [hyi]; exact nI_add ii 2) (by omega) hn ?_
    refine sL_law_2541 hΓ (fun c2541 => ?_) (fun c2541 => absurd cz c2541)
    refine sL_law_2548 hΓ ?_
    refine sL_law_2549 hΓ 0 0 (Nat.le_of_ble_eq_true rfl) hM2.choose_spec.1.o (fun κ_2549 hΓ_2549 => rp_setShort hΓ_2549 hM2 hW hz8 hk8 (Or.inl rfl) (fun σ2 h1 f2 => ?_) )
    show AW G κ _ _ 2552 _ _ _
    have hS3 := hS2.md h1 f2
    obtain ⟨A3, hMV3, hB3⟩ := id hS3.2.1
    obtain ⟨-, -, -, ho3, -⟩ := id hS3
    refine sL_law_2552 hΓ ?_
    refine sL_law_2554 hΓ rfl ?_
    refine sL_law_2555 hΓ 0 0 (Nat.le_of_ble_eq_true rfl) hMV3.o (fun κ_2555 hΓ_2555 => sp_thrown hΓ_2555 hMV3 ?_)
    show AW G κ _ _ 2558 _ _ _
    refine sL_law_2558 hΓ rfl ?_
    have z9 : (fZ (oShort z (B 0) s (xs (ii + 1)) 0) k8) 9 = 0 := (by unfold fZ; rw [if_pos hH, upd_ne (by decide), upd_same])
    refine sL_law_2560 hΓ (fun _ => ?_) (fun c9 => absurd z9 c9)
    refine sL_law_2565 hΓ rfl ?_
    refine sL_law_2567 hΓ (fun c9 => absurd rfl c9) (fun _ => ?_)
    refine sL_law_2570 hΓ rfl ?_
    refine sL_law_2571 hΓ ?_
    refine sL_law_2572 hΓ ho3 (j := 0) rfl (by decide) (by decide) ?_
    refine sL_law_2573 hΓ rfl ?_
    refine sL_law_2575 hΓ ?_
    refine sL_law_2576 hΓ ?_
    rw [vl0, show (fV (oShort z (B 0) s (xs (ii + 1)) 0)) = ((oShort z (B 0) s (xs (ii + 1)) 0).2.1 11) from (by unfold fV; rw [if_pos hH]), lc0]
    refine sL_law_2577 hΓ (fun _ => ?_) (fun c9 => absurd rfl c9)
    refine sL_law_2582 hΓ ?_
    exact kk σ2 c1 _ _ _ _ _ _ _ (hS3.ls (fun hh => hh))
  · obtain ⟨rfl, h9⟩ := h9
    rcases h9 with ⟨rfl, hH⟩
    · refine ⟨rfl, ?_⟩
      show AW G κ _ _ 2526 _ _ _
      have hS2 := hS.l2
      have hM2 := hS2.2.1
      refine sL_law_2526 hΓ ?_
      refine sL_law_2528 hΓ rfl ?_
      refine sL_law_2529 hΓ rfl ?_
      refine sL_law_2530 hΓ rfl ?_
      refine sL_law_2532 hΓ ?_
      refine sL_law_2533 hΓ ?_
      refine sL_law_2534 hΓ hA (j := ii + 1) (show _ = nI (ii + 1) by rw [hyi]; exact nI_add ii 1) (by omega) hn ?_
      refine sL_law_2535 hΓ rfl ?_
      refine sL_law_2536 hΓ rfl ?_
      refine sL_law_2538 hΓ ?_
      refine sL_law_2539 hΓ ?_
      refine sL_law_2540 hΓ hA (j := ii + 2) (show _ = nI (ii + 2) by rw [hyi]; exact nI_add ii 2) (by omega) hn ?_
      refine sL_law_2541 hΓ (fun c2541 => ?_) (fun c2541 => absurd cz c2541)
      refine sL_law_2548 hΓ ?_
      refine sL_law_2549 hΓ 0 0 (Nat.le_of_ble_eq_true rfl) hM2.choose_spec.1.o (fun κ_2549 hΓ_2549 => rp_setShort hΓ_2549 hM2 hW hz8 hk8 (Or.inl rfl) (fun σ2 h1 f2 => ?_) )
      show AW G κ _ _ 2552 _ _ _
      have hS3 := hS2.md h1 f2
      obtain ⟨A3, hMV3, hB3⟩ := id hS3.2.1
      obtain ⟨-, -, -, ho3, -⟩ := id hS3
      refine sL_law_2552 hΓ ?_
      refine sL_law_2554 hΓ rfl ?_
      refine sL_law_2555 hΓ 0 0 (Nat.le_of_ble_eq_true rfl) hMV3.o (fun κ_2555 hΓ_2555 => sp_thrown hΓ_2555 hMV3 ?_)
      show AW G κ _ _ 2558 _ _ _
      refine sL_law_2558 hΓ rfl ?_
      have z9 : (fZ (oShort z (B 0) s (xs (ii + 1)) 0) k8) 9 = 1 := (by unfold fZ; rw [if_neg hH, oShort_no hH]; exact upd_same _ _ _)
      refine sL_law_2560 hΓ (fun _ => ?_) (fun c9 => absurd z9 c9)
      refine sL_law_2565 hΓ rfl ?_
      refine sL_law_2567 hΓ (fun _ => ?_) (fun c9 => absurd c9 (by decide))
      refine sL_law_2582 hΓ ?_
      exact kk σ2 c _ _ _ _ _ _ _ (hS3.ls (fun hh => (by unfold fZ fB; rw [if_neg hH, if_neg hH, oShort_no hH]; exact (show updA B 0 (B 0) = B from updA_id B 0).symm ▸ hh.zc zJ9)))
theorem op_setShort1 (hΓ : Ok G κ mL_law (d + 24) Q X) (hN : NcK κ) (hA : ArK G κ s0 n xs) (hn : n < 2 ^ 31) (hyi : yi = nI ii) (hb : ii + 6 ≤ n) (hS : LSt G σ c x am o A r z B f) (cz : ¬ (xs (ii + 2)) = 0) (kk : ∀ (σ1 : Hp) (c1 : Nat → Nat) (z1 : Nat → Int32) (B1 : Nat → Nat → Int32) (f1 : Nat → Int64) (v5 v6 v7 v8 : Option LV), LSt G σ1 c1 x am o A r z1 B1 f1 → AW G κ cs ss 2959 [lR s0, lR x, lR am, lR o, lI yi, v5, v6, v7, v8] [] σ1) : AW G κ (cs + 40) (ss + 400) 2501 [lR s0, lR x, lR am, lR o, lI yi, w5, w6, w7, w8] [] σ := by
  refine aw_less (cs2 := cs + 8) (ss2 := ss + 102) (by omega) (by omega) ?_
  obtain ⟨hL, hM, hc, ho, hco⟩ := id hS
  obtain ⟨n0, s, C, n2, C2, Nh, Ch, u, b, l, cd, og, hs, out, ol, hT, hR⟩ := hL
  have hL : RLx G σ c x A am z B := ⟨n0, s, C, n2, C2, Nh, Ch, u, b, l, cd, og, hs, out, ol, hT, hR⟩
  obtain ⟨A', hMV, hB⟩ := id hM
  obtain ⟨⟨hV, hC⟩, -⟩ := id hR
  obtain ⟨t, q, p, tr, g, hcg⟩ := hT.m
  have hW := hV.1.1
  obtain ⟨l9, hl9, hQ9⟩ := hV.ql
  obtain ⟨k8, hk8, hu8, hz8⟩ := hR.u8
  have hq6 : B 0 6 = nI (rQ (B 0)) := by rw [rQ_lt hQ9 hl9]; exact hQ9
  have hq12 : rQ (B 0) ≤ 12 := by rw [rQ_lt hQ9 hl9]; exact hl9
  refine sL_law_2501 hΓ rfl ?_
  refine sL_law_2502 hΓ rfl ?_
  refine sL_law_2503 hΓ rfl ?_
  refine sL_law_2505 hΓ ?_
  refine sL_law_2506 hΓ ?_
  refine sL_law_2507 hΓ hA (j := ii + 1) (show _ = nI (ii + 1) by rw [hyi]; exact nI_add ii 1) (by omega) hn ?_
  refine sL_law_2508 hΓ rfl ?_
  refine sL_law_2509 hΓ rfl ?_
  refine sL_law_2511 hΓ ?_
  refine sL_law_2512 hΓ ?_
  refine sL_law_2513 hΓ hA (j := ii + 2) (show _ = nI (ii + 2) by rw [hyi]; exact nI_add ii 2) (by omega) hn ?_
  refine sL_law_2514 hΓ (fun c2514 => absurd c2514 cz) (fun c2514 => ?_)
  refine sL_law_2517 hΓ ?_
  refine sL_law_2518 hΓ ?_
  refine sL_law_2522 hΓ rfl ?_
  refine sL_law_2523 hΓ hN 8 102 (Nat.le_of_ble_eq_true rfl) (fun κ2 hok hN2 => wL_setShort (cs := 0) (ss := 0) (f := f) hok hN2 8 102 hT.o (fun v σ1 => ∃ c1, RLx G σ1 c1 x A am (fZ (oShort z (B 0) s (xs (ii + 1)) 1) k8) (fB B (oShort z (B 0) s (xs (ii + 1)) 1) k8) ∧ KF (NA am) σ c σ1 c1 ∧ v = ((oShort z (B 0) s (xs (ii + 1)) 1).2.1 11) ∧ (oShort z (B 0) s (xs (ii + 1)) 1).1 = 0) (fun E σ1 => σ1 = σ ∧ ((E = "java/lang/IndexOutOfBoundsException" ∧ ¬ (oShort z (B 0) s (xs (ii + 1)) 1).1 = 0))) (fun κ3 Q3 X3 hok3 hr ht => tq_setShort (cs := 0) (ss := 0) hok3 hT hR hk8 hu8 hz8 (Or.inr rfl) (fun e0 => ht _ _ ⟨rfl, rfl, e0⟩) (fun e0 σ1 c1 h1 f1 => hr _ _ ⟨c1, h1, f1, rfl, e0⟩)) (fun v σ1 h9 => ?_) (fun E σ1 h9 => ?_))
  · obtain ⟨c1, hR1, fK, rfl, hH⟩ := h9
    have hS1 := hS.c2 hR1 fK
    refine ⟨hS1.2.2.2.1, ?_⟩
    show AW G κ _ _ 2526 _ _ _
    have hS2 := hS1.out (vp_updL f 0 (((oShort z (B 0) s (xs (ii + 1)) 1).2.1 11)).toInt64)
    have hM2 := hS2.2.1
    refine sL_law_2526 hΓ ?_
    refine sL_law_2528 hΓ rfl ?_
    refine sL_law_2529 hΓ rfl ?_
    refine sL_law_2530 hΓ rfl ?_
    refine sL_law_2532 hΓ ?_
    refine sL_law_2533 hΓ ?_
    refine sL_law_2534 hΓ hA (j := ii + 1) (show _ = nI (ii + 1) by rw [hyi]; exact nI_add ii 1) (by omega) hn ?_
    refine sL_law_2535 hΓ rfl ?_
    refine sL_law_2536 hΓ rfl ?_
    refine sL_law_2538 hΓ ?_
    refine sL_law_2539 hΓ ?_
    refine sL_law_2540 hΓ hA (j := ii + 2) (show _ = nI (ii + 2) by rw [hyi]; exact nI_add ii 2) (by omega) hn ?_
    refine sL_law_2541 hΓ (fun c2541 => absurd c2541 cz) (fun c2541 => ?_)
    refine sL_law_2544 hΓ ?_
    refine sL_law_2545 hΓ ?_
    refine sL_law_2549 hΓ 0 0 (Nat.le_of_ble_eq_true rfl) hM2.choose_spec.1.o (fun κ_2549 hΓ_2549 => rp_setShort hΓ_2549 hM2 hW hz8 hk8 (Or.inr rfl) (fun σ2 h1 f2 => ?_) )
    show AW G κ _ _ 2552 _ _ _
    have hS3 := hS2.md h1 f2
    obtain ⟨A3, hMV3, hB3⟩ := id hS3.2.1
    obtain ⟨-, -, -, ho3, -⟩ := id hS3
    refine sL_law_2552 hΓ ?_
    refine sL_law_2554 hΓ rfl ?_
    refine sL_law_2555 hΓ 0 0 (Nat.le_of_ble_eq_true rfl) hMV3.o (fun κ_2555 hΓ_2555 => sp_thrown hΓ_2555 hMV3 ?_)
    show AW G κ _ _ 2558 _ _ _
    refine sL_law_2558 hΓ rfl ?_
    have z9 : (fZ (oShort z (B 0) s (xs (ii + 1)) 1) k8) 9 = 0 := (by unfold fZ; rw [if_pos hH, upd_ne (by decide), upd_same])
    refine sL_law_2560 hΓ (fun _ => ?_) (fun c9 => absurd z9 c9)
    refine sL_law_2565 hΓ rfl ?_
    refine sL_law_2567 hΓ (fun c9 => absurd rfl c9) (fun _ => ?_)
    refine sL_law_2570 hΓ rfl ?_
    refine sL_law_2571 hΓ ?_
    refine sL_law_2572 hΓ ho3 (j := 0) rfl (by decide) (by decide) ?_
    refine sL_law_2573 hΓ rfl ?_
    refine sL_law_2575 hΓ ?_
    refine sL_law_2576 hΓ ?_
    rw [vl0, show (fV (oShort z (B 0) s (xs (ii + 1)) 1)) = ((oShort z (B 0) s (xs (ii + 1)) 1).2.1 11) from (by unfold fV; rw [if_pos hH]), lc0]
    refine sL_law_2577 hΓ (fun _ => ?_) (fun c9 => absurd rfl c9)
    refine sL_law_2582 hΓ ?_
    exact kk σ2 c1 _ _ _ _ _ _ _ (hS3.ls (fun hh => hh))
  · obtain ⟨rfl, h9⟩ := h9
    rcases h9 with ⟨rfl, hH⟩
    · refine ⟨rfl, ?_⟩
      show AW G κ _ _ 2526 _ _ _
      have hS2 := hS.l2
      have hM2 := hS2.2.1
      refine sL_law_2526 hΓ ?_
      refine sL_law_2528 hΓ rfl ?_
      refine sL_law_2529 hΓ rfl ?_
      refine sL_law_2530 hΓ rfl ?_
      refine sL_law_2532 hΓ ?_
      refine sL_law_2533 hΓ ?_
      refine sL_law_2534 hΓ hA (j := ii + 1) (show _ = nI (ii + 1) by rw [hyi]; exact nI_add ii 1) (by omega) hn ?_
      refine sL_law_2535 hΓ rfl ?_
      refine sL_law_2536 hΓ rfl ?_
      refine sL_law_2538 hΓ ?_
      refine sL_law_2539 hΓ ?_
      refine sL_law_2540 hΓ hA (j := ii + 2) (show _ = nI (ii + 2) by rw [hyi]; exact nI_add ii 2) (by omega) hn ?_
      refine sL_law_2541 hΓ (fun c2541 => absurd c2541 cz) (fun c2541 => ?_)
      refine sL_law_2544 hΓ ?_
      refine sL_law_2545 hΓ ?_
      refine sL_law_2549 hΓ 0 0 (Nat.le_of_ble_eq_true rfl) hM2.choose_spec.1.o (fun κ_2549 hΓ_2549 => rp_setShort hΓ_2549 hM2 hW hz8 hk8 (Or.inr rfl) (fun σ2 h1 f2 => ?_) )
      show AW G κ _ _ 2552 _ _ _
      have hS3 := hS2.md h1 f2
      obtain ⟨A3, hMV3, hB3⟩ := id hS3.2.1
      obtain ⟨-, -, -, ho3, -⟩ := id hS3
      refine sL_law_2552 hΓ ?_
      refine sL_law_2554 hΓ rfl ?_
      refine sL_law_2555 hΓ 0 0 (Nat.le_of_ble_eq_true rfl) hMV3.o (fun κ_2555 hΓ_2555 => sp_thrown hΓ_2555 hMV3 ?_)
      show AW G κ _ _ 2558 _ _ _
      refine sL_law_2558 hΓ rfl ?_
      have z9 : (fZ (oShort z (B 0) s (xs (ii + 1)) 1) k8) 9 = 1 := (by unfold fZ; rw [if_neg hH, oShort_no hH]; exact upd_same _ _ _)
      refine sL_law_2560 hΓ (fun _ => ?_) (fun c9 => absurd z9 c9)
      refine sL_law_2565 hΓ rfl ?_
      refine sL_law_2567 hΓ (fun _ => ?_) (fun c9 => absurd c9 (by decide))
      refine sL_law_2582 hΓ ?_
      exact kk σ2 c _ _ _ _ _ _ _ (hS3.ls (fun hh => (by unfold fZ fB; rw [if_neg hH, if_neg hH, oShort_no hH]; exact (show updA B 0 (B 0) = B from updA_id B 0).symm ▸ hh.zc zJ9)))
theorem op_setShort (hΓ : Ok G κ mL_law (d + 24) Q X) (hN : NcK κ) (hA : ArK G κ s0 n xs) (hn : n < 2 ^ 31) (hyi : yi = nI ii) (hb : ii + 6 ≤ n) (hS : LSt G σ c x am o A r z B f) (kk : ∀ (σ1 : Hp) (c1 : Nat → Nat) (z1 : Nat → Int32) (B1 : Nat → Nat → Int32) (f1 : Nat → Int64) (v5 v6 v7 v8 : Option LV), LSt G σ1 c1 x am o A r z1 B1 f1 → AW G κ cs ss 2959 [lR s0, lR x, lR am, lR o, lI yi, v5, v6, v7, v8] [] σ1) : AW G κ (cs + 40) (ss + 400) 2501 [lR s0, lR x, lR am, lR o, lI yi, w5, w6, w7, w8] [] σ := by
  by_cases cz : xs (ii + 2) = 0
  · exact op_setShort0 hΓ hN hA hn hyi hb hS cz kk
  · exact op_setShort1 hΓ hN hA hn hyi hb hS cz kk
theorem op_undo (hΓ : Ok G κ mL_law (d + 24) Q X) (hN : NcK κ) (hA : ArK G κ s0 n xs) (hn : n < 2 ^ 31) (hyi : yi = nI ii) (hb : ii + 6 ≤ n) (hS : LSt G σ c x am o A r z B f) (kk : ∀ (σ1 : Hp) (c1 : Nat → Nat) (z1 : Nat → Int32) (B1 : Nat → Nat → Int32) (f1 : Nat → Int64) (v5 v6 v7 v8 : Option LV), LSt G σ1 c1 x am o A r z1 B1 f1 → AW G κ cs ss 2959 [lR s0, lR x, lR am, lR o, lI yi, v5, v6, v7, v8] [] σ1) : AW G κ (cs + 40) (ss + 400) 2860 [lR s0, lR x, lR am, lR o, lI yi, w5, w6, w7, w8] [] σ := by
  refine aw_less (cs2 := cs + 8) (ss2 := ss + 102) (by omega) (by omega) ?_
  obtain ⟨hL, hM, hc, ho, hco⟩ := id hS
  obtain ⟨n0, s, C, n2, C2, Nh, Ch, u, b, l, cd, og, hs, out, ol, hT, hR⟩ := hL
  have hL : RLx G σ c x A am z B := ⟨n0, s, C, n2, C2, Nh, Ch, u, b, l, cd, og, hs, out, ol, hT, hR⟩
  obtain ⟨A', hMV, hB⟩ := id hM
  obtain ⟨⟨hV, hC⟩, -⟩ := id hR
  obtain ⟨t, q, p, tr, g, hcg⟩ := hT.m
  have hW := hV.1.1
  obtain ⟨l9, hl9, hQ9⟩ := hV.ql
  obtain ⟨k8, hk8, hu8, hz8⟩ := hR.u8
  have hq6 : B 0 6 = nI (rQ (B 0)) := by rw [rQ_lt hQ9 hl9]; exact hQ9
  have hq12 : rQ (B 0) ≤ 12 := by rw [rQ_lt hQ9 hl9]; exact hl9
  refine sL_law_2860 hΓ rfl ?_
  refine sL_law_2861 hΓ rfl ?_
  refine sL_law_2862 hΓ hN 8 102 (Nat.le_of_ble_eq_true rfl) (fun κ2 hok hN2 => wL_undo (cs := 0) (ss := 0) (f := f) hok hN2 8 102 hT.o (fun v σ1 => ∃ c1 ρ1, RLx G σ1 c1 x A am (upd (upd z 9 0) 8 (nI (k8 - 1))) (updA B 0 ρ1) ∧ KF (NA am) σ c σ1 c1 ∧ v = (nI (k8 - 1)) ∧ (∀ j, j < 184 → ρ1 j = hRow (B 5) (k8 - 1) j) ∧ ¬ k8 = 0) (fun E σ1 => σ1 = σ ∧ ((E = "java/lang/IllegalStateException" ∧ k8 = 0))) (fun κ3 Q3 X3 hok3 hr ht => tq_undo (cs := 0) (ss := 0) hok3 hT hR hk8 hu8 hz8 (fun e0 => ht _ _ ⟨rfl, rfl, e0⟩) (fun e0 σ1 c1 ρ1 e1 h1 f1 => hr _ _ ⟨c1, ρ1, h1, f1, rfl, e1, e0⟩)) (fun v σ1 h9 => ?_) (fun E σ1 h9 => ?_))
  · obtain ⟨c1, ρ1, hR1, fK, rfl, hH⟩ := h9
    have hS1 := hS.c2 hR1 fK
    refine ⟨hS1.2.2.2.1, ?_⟩
    show AW G κ _ _ 2865 _ _ _
    have hS2 := hS1.out (vp_updL f 0 ((nI (k8 - 1))).toInt64)
    have hM2 := hS2.2.1
    refine sL_law_2865 hΓ ?_
    refine sL_law_2867 hΓ rfl ?_
    refine sL_law_2868 hΓ 0 0 (Nat.le_of_ble_eq_true rfl) hM2.choose_spec.1.o (fun κ_2868 hΓ_2868 => rp_undo hΓ_2868 hM2 hz8 hk8 (fun σ2 h1 f2 => ?_) )
    show AW G κ _ _ 2871 _ _ _
    rw [show uZ z k8 = _ from if_neg hH.2, show uB B k8 = _ from if_neg hH.2] at h1
    refine mp_row (h1) (fun j hj => (hH.1 j hj).symm) (fun σ2 h1 f9 => ?_)
    have hS3 := hS2.md h1 (f2.tr f9)
    obtain ⟨A3, hMV3, hB3⟩ := id hS3.2.1
    obtain ⟨-, -, -, ho3, -⟩ := id hS3
    refine sL_law_2871 hΓ ?_
    refine sL_law_2873 hΓ rfl ?_
    refine sL_law_2874 hΓ 0 0 (Nat.le_of_ble_eq_true rfl) hMV3.o (fun κ_2874 hΓ_2874 => sp_thrown hΓ_2874 hMV3 ?_)
    show AW G κ _ _ 2877 _ _ _
    refine sL_law_2877 hΓ rfl ?_
    have z9 : (upd (upd z 9 0) 8 (nI (k8 - 1))) 9 = 0 := ((upd_ne (by decide)).trans (upd_same _ _ _))
    refine sL_law_2879 hΓ (fun _ => ?_) (fun c9 => absurd z9 c9)
    refine sL_law_2884 hΓ rfl ?_
    refine sL_law_2886 hΓ (fun c9 => absurd rfl c9) (fun _ => ?_)
    refine sL_law_2889 hΓ rfl ?_
    refine sL_law_2890 hΓ ?_
    refine sL_law_2891 hΓ ho3 (j := 0) rfl (by decide) (by decide) ?_
    refine sL_law_2892 hΓ rfl ?_
    refine sL_law_2894 hΓ ?_
    refine sL_law_2895 hΓ ?_
    rw [vl0, show (if k8 = 0 then 0 else nI (k8 - 1)) = (nI (k8 - 1)) from (if_neg hH.2), lc0]
    refine sL_law_2896 hΓ (fun _ => ?_) (fun c9 => absurd rfl c9)
    refine sL_law_2901 hΓ ?_
    exact kk σ2 c1 _ _ _ _ _ _ _ (hS3.ls (fun hh => hh))
  · obtain ⟨rfl, h9⟩ := h9
    rcases h9 with ⟨rfl, hH⟩
    · refine ⟨rfl, ?_⟩
      show AW G κ _ _ 2865 _ _ _
      have hS2 := hS.l2
      have hM2 := hS2.2.1
      refine sL_law_2865 hΓ ?_
      refine sL_law_2867 hΓ rfl ?_
      refine sL_law_2868 hΓ 0 0 (Nat.le_of_ble_eq_true rfl) hM2.choose_spec.1.o (fun κ_2868 hΓ_2868 => rp_undo hΓ_2868 hM2 hz8 hk8 (fun σ2 h1 f2 => ?_) )
      show AW G κ _ _ 2871 _ _ _
      have hS3 := hS2.md h1 f2
      obtain ⟨A3, hMV3, hB3⟩ := id hS3.2.1
      obtain ⟨-, -, -, ho3, -⟩ := id hS3
      refine sL_law_2871 hΓ ?_
      refine sL_law_2873 hΓ rfl ?_
      refine sL_law_2874 hΓ 0 0 (Nat.le_of_ble_eq_true rfl) hMV3.o (fun κ_2874 hΓ_2874 => sp_thrown hΓ_2874 hMV3 ?_)
      show AW G κ _ _ 2877 _ _ _
      refine sL_law_2877 hΓ rfl ?_
      have z9 : (uZ z k8) 9 = 1 := (by unfold uZ; rw [if_pos hH]; exact upd_same _ _ _)
      refine sL_law_2879 hΓ (fun _ => ?_) (fun c9 => absurd z9 c9)
      refine sL_law_2884 hΓ rfl ?_
      refine sL_law_2886 hΓ (fun _ => ?_) (fun c9 => absurd c9 (by decide))
      refine sL_law_2901 hΓ ?_
      exact kk σ2 c _ _ _ _ _ _ _ (hS3.ls (fun hh => (by unfold uZ uB; rw [if_pos hH, if_pos hH]; exact hh.zc zJ9)))
theorem op_restoreSnapshot (hΓ : Ok G κ mL_law (d + 24) Q X) (hN : NcK κ) (hA : ArK G κ s0 n xs) (hn : n < 2 ^ 31) (hyi : yi = nI ii) (hb : ii + 6 ≤ n) (hS : LSt G σ c x am o A r z B f) (kk : ∀ (σ1 : Hp) (c1 : Nat → Nat) (z1 : Nat → Int32) (B1 : Nat → Nat → Int32) (f1 : Nat → Int64) (v5 v6 v7 v8 : Option LV), LSt G σ1 c1 x am o A r z1 B1 f1 → AW G κ cs ss 2959 [lR s0, lR x, lR am, lR o, lI yi, v5, v6, v7, v8] [] σ1) : AW G κ (cs + 40) (ss + 400) 2915 [lR s0, lR x, lR am, lR o, lI yi, w5, w6, w7, w8] [] σ := by
  refine aw_less (cs2 := cs + 8) (ss2 := ss + 102) (by omega) (by omega) ?_
  obtain ⟨hL, hM, hc, ho, hco⟩ := id hS
  obtain ⟨n0, s, C, n2, C2, Nh, Ch, u, b, l, cd, og, hs, out, ol, hT, hR⟩ := hL
  have hL : RLx G σ c x A am z B := ⟨n0, s, C, n2, C2, Nh, Ch, u, b, l, cd, og, hs, out, ol, hT, hR⟩
  obtain ⟨A', hMV, hB⟩ := id hM
  obtain ⟨⟨hV, hC⟩, -⟩ := id hR
  obtain ⟨t, q, p, tr, g, hcg⟩ := hT.m
  have hW := hV.1.1
  obtain ⟨l9, hl9, hQ9⟩ := hV.ql
  obtain ⟨k8, hk8, hu8, hz8⟩ := hR.u8
  have hq6 : B 0 6 = nI (rQ (B 0)) := by rw [rQ_lt hQ9 hl9]; exact hQ9
  have hq12 : rQ (B 0) ≤ 12 := by rw [rQ_lt hQ9 hl9]; exact hl9
  obtain ⟨b9, -, hz9, -⟩ := hR.2.2.1
  refine sL_law_2915 hΓ rfl ?_
  refine sL_law_2916 hΓ rfl ?_
  refine sL_law_2917 hΓ hN 8 102 (Nat.le_of_ble_eq_true rfl) (fun κ2 hok hN2 => wL_restoreSnapshot (cs := 0) (ss := 0) (f := f) hok hN2 8 102 hT.o (fun v σ1 => ∃ c1 ρ1, RLx G σ1 c1 x A am (upd (upd z 9 0) 8 0) (updA B 0 ρ1) ∧ KF (NA am) σ c σ1 c1 ∧ v = (B 4 0) ∧ (∀ j, j < 184 → ρ1 j = B 4 j) ∧ b9 = true) (fun E σ1 => σ1 = σ ∧ ((E = "java/lang/IllegalStateException" ∧ b9 = false))) (fun κ3 Q3 X3 hok3 hr ht => tq_restoreSnapshot (cs := 0) (ss := 0) hok3 hT hR hz9 (fun e0 => ht _ _ ⟨rfl, rfl, e0⟩) (fun e0 σ1 c1 ρ1 e1 h1 f1 => hr _ _ ⟨c1, ρ1, h1, f1, rfl, e1, e0⟩)) (fun v σ1 h9 => ?_) (fun E σ1 h9 => ?_))
  · obtain ⟨c1, ρ1, hR1, fK, rfl, hH⟩ := h9
    have hS1 := hS.c2 hR1 fK
    refine ⟨hS1.2.2.2.1, ?_⟩
    show AW G κ _ _ 2920 _ _ _
    have hS2 := hS1.out (vp_updL f 0 ((B 4 0)).toInt64)
    have hM2 := hS2.2.1
    refine sL_law_2920 hΓ ?_
    refine sL_law_2922 hΓ rfl ?_
    refine sL_law_2923 hΓ 0 0 (Nat.le_of_ble_eq_true rfl) hM2.choose_spec.1.o (fun κ_2923 hΓ_2923 => rp_restoreSnapshot hΓ_2923 hM2 hz9 (fun σ2 h1 f2 => ?_) )
    show AW G κ _ _ 2926 _ _ _
    rw [show sZ z b9 = _ from if_pos hH.2, show sB B b9 = _ from if_pos hH.2] at h1
    refine mp_row (h1) (fun j hj => (hH.1 j hj).symm) (fun σ2 h1 f9 => ?_)
    have hS3 := hS2.md h1 (f2.tr f9)
    obtain ⟨A3, hMV3, hB3⟩ := id hS3.2.1
    obtain ⟨-, -, -, ho3, -⟩ := id hS3
    refine sL_law_2926 hΓ ?_
    refine sL_law_2928 hΓ rfl ?_
    refine sL_law_2929 hΓ 0 0 (Nat.le_of_ble_eq_true rfl) hMV3.o (fun κ_2929 hΓ_2929 => sp_thrown hΓ_2929 hMV3 ?_)
    show AW G κ _ _ 2932 _ _ _
    refine sL_law_2932 hΓ rfl ?_
    have z9 : (upd (upd z 9 0) 8 0) 9 = 0 := ((upd_ne (by decide)).trans (upd_same _ _ _))
    refine sL_law_2934 hΓ (fun _ => ?_) (fun c9 => absurd z9 c9)
    refine sL_law_2939 hΓ rfl ?_
    refine sL_law_2941 hΓ (fun c9 => absurd rfl c9) (fun _ => ?_)
    refine sL_law_2944 hΓ rfl ?_
    refine sL_law_2945 hΓ ?_
    refine sL_law_2946 hΓ ho3 (j := 0) rfl (by decide) (by decide) ?_
    refine sL_law_2947 hΓ rfl ?_
    refine sL_law_2949 hΓ ?_
    refine sL_law_2950 hΓ ?_
    rw [vl0, show (if b9 = true then B 4 0 else 0) = (B 4 0) from (if_pos hH.2), lc0]
    refine sL_law_2951 hΓ (fun _ => ?_) (fun c9 => absurd rfl c9)
    refine sL_law_2956 hΓ ?_
    exact kk σ2 c1 _ _ _ _ _ _ _ (hS3.ls (fun hh => hh))
  · obtain ⟨rfl, h9⟩ := h9
    rcases h9 with ⟨rfl, hH⟩
    · refine ⟨rfl, ?_⟩
      show AW G κ _ _ 2920 _ _ _
      have hS2 := hS.l2
      have hM2 := hS2.2.1
      refine sL_law_2920 hΓ ?_
      refine sL_law_2922 hΓ rfl ?_
      refine sL_law_2923 hΓ 0 0 (Nat.le_of_ble_eq_true rfl) hM2.choose_spec.1.o (fun κ_2923 hΓ_2923 => rp_restoreSnapshot hΓ_2923 hM2 hz9 (fun σ2 h1 f2 => ?_) )
      show AW G κ _ _ 2926 _ _ _
      have hS3 := hS2.md h1 f2
      obtain ⟨A3, hMV3, hB3⟩ := id hS3.2.1
      obtain ⟨-, -, -, ho3, -⟩ := id hS3
      refine sL_law_2926 hΓ ?_
      refine sL_law_2928 hΓ rfl ?_
      refine sL_law_2929 hΓ 0 0 (Nat.le_of_ble_eq_true rfl) hMV3.o (fun κ_2929 hΓ_2929 => sp_thrown hΓ_2929 hMV3 ?_)
      show AW G κ _ _ 2932 _ _ _
      refine sL_law_2932 hΓ rfl ?_
      have z9 : (sZ z b9) 9 = 1 := (by unfold sZ; rw [if_neg (by rw [hH]; decide)]; exact upd_same _ _ _)
      refine sL_law_2934 hΓ (fun _ => ?_) (fun c9 => absurd z9 c9)
      refine sL_law_2939 hΓ rfl ?_
      refine sL_law_2941 hΓ (fun _ => ?_) (fun c9 => absurd c9 (by decide))
      refine sL_law_2956 hΓ ?_
      exact kk σ2 c _ _ _ _ _ _ _ (hS3.ls (fun hh => (by unfold sZ sB; rw [if_neg (by rw [hH]; decide), if_neg (by rw [hH]; decide)]; exact hh.zc zJ9)))
theorem op_loadRailway (hΓ : Ok G κ mL_law (d + 24) Q X) (hN : NcK κ) (hA : ArK G κ s0 n xs) (hn : n < 2 ^ 31) (hyi : yi = nI ii) (hb : ii + 6 ≤ n) (hS : LSt G σ c x am o A r z B f) (kk : ∀ (σ1 : Hp) (c1 : Nat → Nat) (z1 : Nat → Int32) (B1 : Nat → Nat → Int32) (f1 : Nat → Int64) (v5 v6 v7 v8 : Option LV), LSt G σ1 c1 x am o A r z1 B1 f1 → AW G κ cs ss 2959 [lR s0, lR x, lR am, lR o, lI yi, v5, v6, v7, v8] [] σ1) : AW G κ (cs + 40) (ss + 400) 369 [lR s0, lR x, lR am, lR o, lI yi, w5, w6, w7, w8] [] σ := by
  refine aw_less (cs2 := cs + 23) (ss2 := ss + 256) (by omega) (by omega) ?_
  obtain ⟨hL, hM, hc, ho, hco⟩ := id hS
  obtain ⟨n0, s, C, n2, C2, Nh, Ch, u, b, l, cd, og, hs, out, ol, hT, hR⟩ := hL
  have hL : RLx G σ c x A am z B := ⟨n0, s, C, n2, C2, Nh, Ch, u, b, l, cd, og, hs, out, ol, hT, hR⟩
  obtain ⟨A', hMV, hB⟩ := id hM
  obtain ⟨⟨hV, hC⟩, -⟩ := id hR
  obtain ⟨t, q, p, tr, g, hcg⟩ := hT.m
  have hW := hV.1.1
  obtain ⟨l9, hl9, hQ9⟩ := hV.ql
  obtain ⟨k8, hk8, hu8, hz8⟩ := hR.u8
  have hq6 : B 0 6 = nI (rQ (B 0)) := by rw [rQ_lt hQ9 hl9]; exact hQ9
  have hq12 : rQ (B 0) ≤ 12 := by rw [rQ_lt hQ9 hl9]; exact hl9
  obtain ⟨k16, hk16, -, hz16, -⟩ := hR.2.2.2.2.1
  refine sL_law_369 hΓ rfl ?_
  refine sL_law_370 hΓ rfl ?_
  refine sL_law_371 hΓ rfl ?_
  refine sL_law_373 hΓ ?_
  refine sL_law_374 hΓ ?_
  refine sL_law_375 hΓ hA (j := ii + 1) (show _ = nI (ii + 1) by rw [hyi]; exact nI_add ii 1) (by omega) hn ?_
  refine sL_law_376 hΓ rfl ?_
  refine sL_law_377 hΓ hN 23 256 (Nat.le_of_ble_eq_true rfl) (fun κ2 hok hN2 => wL_loadRailway (cs := 0) (ss := 0) (f := f) hok hN2 23 256 hT.o (fun v σ1 => ∃ c1 l0, RLx G σ1 c1 x A am (ldZ z (ldY B z l0).1) (ldB B (ldY B z l0)) ∧ KF (NA am) σ c σ1 c1 ∧ v = (if pR (ldY B z l0).1 = 0 then (ldY B z l0).2.1 3 else -1) ∧ (l0 ≤ k16 ∧ (xs (ii + 1)) = nI l0)) (fun E σ1 => σ1 = σ ∧ ((E = "java/lang/IllegalArgumentException" ∧ rIn (xs (ii + 1)) 0 (nI k16) = false))) (fun κ3 Q3 X3 hok3 hr ht => tq_loadRailway (cs := 0) (ss := 0) hok3 hT hR hz16 hk16 (fun e0 => ht _ _ ⟨rfl, rfl, e0⟩) (fun l0 e1 e0 σ1 c1 h1 f1 => hr _ _ ⟨c1, l0, h1, f1, rfl, e1, e0⟩)) (fun v σ1 h9 => ?_) (fun E σ1 h9 => ?_))
  · obtain ⟨c1, l0, hR1, fK, rfl, hH⟩ := h9
    have hS1 := hS.c2 hR1 fK
    refine ⟨hS1.2.2.2.1, ?_⟩
    show AW G κ _ _ 380 _ _ _
    have hS2 := hS1.out (vp_updL f 0 ((if pR (ldY B z l0).1 = 0 then (ldY B z l0).2.1 3 else -1)).toInt64)
    have hM2 := hS2.2.1
    refine sL_law_380 hΓ ?_
    refine sL_law_382 hΓ rfl ?_
    refine sL_law_383 hΓ rfl ?_
    refine sL_law_384 hΓ rfl ?_
    refine sL_law_386 hΓ ?_
    refine sL_law_387 hΓ ?_
    refine sL_law_388 hΓ hA (j := ii + 1) (show _ = nI (ii + 1) by rw [hyi]; exact nI_add ii 1) (by omega) hn ?_
    refine sL_law_389 hΓ 0 0 (Nat.le_of_ble_eq_true rfl) hM2.choose_spec.1.o (fun κ_389 hΓ_389 => rp_loadRailway hΓ_389 hM2 hz16 hk16 (fun e9 => absurd e9 (by rw [hz16, rIn_len hH.1 hk16 hH.2]; decide)) (fun l1 hl1 hy1 σ2 z1 hp h1 f2 => ?_) )
    show AW G κ _ _ 392 _ _ _
    have e9 : l1 = l0 := (nI_eq (by omega) (by omega)).mp (hy1.symm.trans hH.2)
    subst e9
    have hS3 := hS2.md h1 f2
    obtain ⟨A3, hMV3, hB3⟩ := id hS3.2.1
    obtain ⟨-, -, -, ho3, -⟩ := id hS3
    refine sL_law_392 hΓ ?_
    refine sL_law_394 hΓ rfl ?_
    refine sL_law_395 hΓ 0 0 (Nat.le_of_ble_eq_true rfl) hMV3.o (fun κ_395 hΓ_395 => sp_thrown hΓ_395 hMV3 ?_)
    show AW G κ _ _ 398 _ _ _
    refine sL_law_398 hΓ rfl ?_
    have z9 : z1 9 = 0 := ((hp 9 (by unfold pubJ; omega)).trans ldZ9)
    refine sL_law_400 hΓ (fun _ => ?_) (fun c9 => absurd z9 c9)
    refine sL_law_405 hΓ rfl ?_
    refine sL_law_407 hΓ (fun c9 => absurd rfl c9) (fun _ => ?_)
    refine sL_law_410 hΓ rfl ?_
    refine sL_law_411 hΓ ?_
    refine sL_law_412 hΓ ho3 (j := 0) rfl (by decide) (by decide) ?_
    refine sL_law_413 hΓ rfl ?_
    refine sL_law_415 hΓ ?_
    refine sL_law_416 hΓ ?_
    rw [vl0, lc0]
    refine sL_law_417 hΓ (fun _ => ?_) (fun c9 => absurd rfl c9)
    refine sL_law_422 hΓ ?_
    exact kk σ2 c1 _ _ _ _ _ _ _ (hS3.ls (fun hh => hh.zc (fun j hj => hp j (zJp hj))))
  · obtain ⟨rfl, h9⟩ := h9
    rcases h9 with ⟨rfl, hH⟩
    · refine ⟨rfl, ?_⟩
      show AW G κ _ _ 380 _ _ _
      have hS2 := hS.l2
      have hM2 := hS2.2.1
      refine sL_law_380 hΓ ?_
      refine sL_law_382 hΓ rfl ?_
      refine sL_law_383 hΓ rfl ?_
      refine sL_law_384 hΓ rfl ?_
      refine sL_law_386 hΓ ?_
      refine sL_law_387 hΓ ?_
      refine sL_law_388 hΓ hA (j := ii + 1) (show _ = nI (ii + 1) by rw [hyi]; exact nI_add ii 1) (by omega) hn ?_
      refine sL_law_389 hΓ 0 0 (Nat.le_of_ble_eq_true rfl) hM2.choose_spec.1.o (fun κ_389 hΓ_389 => rp_loadRailway hΓ_389 hM2 hz16 hk16 (fun _ σ2 h1 f2 => ?_) (fun l1 hl1 hy1 => absurd hH (by rw [rIn_len hl1 hk16 hy1]; decide)) )
      show AW G κ _ _ 392 _ _ _
      have hS3 := hS2.md h1 f2
      obtain ⟨A3, hMV3, hB3⟩ := id hS3.2.1
      obtain ⟨-, -, -, ho3, -⟩ := id hS3
      refine sL_law_392 hΓ ?_
      refine sL_law_394 hΓ rfl ?_
      refine sL_law_395 hΓ 0 0 (Nat.le_of_ble_eq_true rfl) hMV3.o (fun κ_395 hΓ_395 => sp_thrown hΓ_395 hMV3 ?_)
      show AW G κ _ _ 398 _ _ _
      refine sL_law_398 hΓ rfl ?_
      have z9 : (upd z 9 1) 9 = 1 := (upd_same _ _ _)
      refine sL_law_400 hΓ (fun _ => ?_) (fun c9 => absurd z9 c9)
      refine sL_law_405 hΓ rfl ?_
      refine sL_law_407 hΓ (fun _ => ?_) (fun c9 => absurd c9 (by decide))
      refine sL_law_422 hΓ ?_
      exact kk σ2 c _ _ _ _ _ _ _ (hS3.ls (fun hh => hh.zc zJ9))
theorem op_runScript (hΓ : Ok G κ mL_law (d + 24) Q X) (hN : NcK κ) (hA : ArK G κ s0 n xs) (hn : n < 2 ^ 31) (hyi : yi = nI ii) (hb : ii + 6 ≤ n) (hS : LSt G σ c x am o A r z B f) (kk : ∀ (σ1 : Hp) (c1 : Nat → Nat) (z1 : Nat → Int32) (B1 : Nat → Nat → Int32) (f1 : Nat → Int64) (v5 v6 v7 v8 : Option LV), LSt G σ1 c1 x am o A r z1 B1 f1 → AW G κ cs ss 2959 [lR s0, lR x, lR am, lR o, lI yi, v5, v6, v7, v8] [] σ1) : AW G κ (cs + 40) (ss + 400) 2722 [lR s0, lR x, lR am, lR o, lI yi, w5, w6, w7, w8] [] σ := by
  refine aw_less (cs2 := cs + 28) (ss2 := ss + 222) (by omega) (by omega) ?_
  obtain ⟨hL, hM, hc, ho, hco⟩ := id hS
  obtain ⟨n0, s, C, n2, C2, Nh, Ch, u, b, l, cd, og, hs, out, ol, hT, hR⟩ := hL
  have hL : RLx G σ c x A am z B := ⟨n0, s, C, n2, C2, Nh, Ch, u, b, l, cd, og, hs, out, ol, hT, hR⟩
  obtain ⟨A', hMV, hB⟩ := id hM
  obtain ⟨⟨hV, hC⟩, -⟩ := id hR
  obtain ⟨t, q, p, tr, g, hcg⟩ := hT.m
  have hW := hV.1.1
  obtain ⟨l9, hl9, hQ9⟩ := hV.ql
  obtain ⟨k8, hk8, hu8, hz8⟩ := hR.u8
  have hq6 : B 0 6 = nI (rQ (B 0)) := by rw [rQ_lt hQ9 hl9]; exact hQ9
  have hq12 : rQ (B 0) ≤ 12 := by rw [rQ_lt hQ9 hl9]; exact hl9
  obtain ⟨k16, hk16, -, hz16, -⟩ := hR.2.2.2.2.1
  refine sL_law_2722 hΓ rfl ?_
  refine sL_law_2723 hΓ rfl ?_
  refine sL_law_2724 hΓ rfl ?_
  refine sL_law_2726 hΓ ?_
  refine sL_law_2727 hΓ ?_
  refine sL_law_2728 hΓ hA (j := ii + 1) (show _ = nI (ii + 1) by rw [hyi]; exact nI_add ii 1) (by omega) hn ?_
  refine sL_law_2729 hΓ rfl ?_
  refine sL_law_2730 hΓ hN 28 222 (Nat.le_of_ble_eq_true rfl) (fun κ2 hok hN2 => wL_runScript (cs := 0) (ss := 0) (f := f) hok hN2 28 222 hT.o (fun v σ1 => ∃ c1 l0, RLx G σ1 c1 x A am (rsZ z (rsY B z l0).1 k8) (rsB n0 s B (rsY B z l0) k8) ∧ KF (NA am) σ c σ1 c1 ∧ v = (if pR (rsY B z l0).1 = 0 then nI (rsT n0 s B (rsY B z l0)).2.2 else -1) ∧ (l0 ≤ k16 ∧ (xs (ii + 1)) = nI l0)) (fun E σ1 => σ1 = σ ∧ ((E = "java/lang/IllegalArgumentException" ∧ rIn (xs (ii + 1)) 0 (nI k16) = false))) (fun κ3 Q3 X3 hok3 hr ht => tq_runScript (cs := 0) (ss := 0) hok3 hT hR hz16 hk16 hz8 hk8 (fun e0 => ht _ _ ⟨rfl, rfl, e0⟩) (fun l0 e1 e0 σ1 c1 h1 f1 => hr _ _ ⟨c1, l0, h1, f1, rfl, e1, e0⟩)) (fun v σ1 h9 => ?_) (fun E σ1 h9 => ?_))
  · obtain ⟨c1, l0, hR1, fK, rfl, hH⟩ := h9
    have hS1 := hS.c2 hR1 fK
    refine ⟨hS1.2.2.2.1, ?_⟩
    show AW G κ _ _ 2733 _ _ _
    have hS2 := hS1.out (vp_updL f 0 ((if pR (rsY B z l0).1 = 0 then nI (rsT n0 s B (rsY B z l0)).2.2 else -1)).toInt64)
    have hM2 := hS2.2.1
    refine sL_law_2733 hΓ ?_
    refine sL_law_2735 hΓ rfl ?_
    refine sL_law_2736 hΓ rfl ?_
    refine sL_law_2737 hΓ rfl ?_
    refine sL_law_2739 hΓ ?_
    refine sL_law_2740 hΓ ?_
    refine sL_law_2741 hΓ hA (j := ii + 1) (show _ = nI (ii + 1) by rw [hyi]; exact nI_add ii 1) (by omega) hn ?_
    refine sL_law_2742 hΓ 0 0 (Nat.le_of_ble_eq_true rfl) hM2.choose_spec.1.o (fun κ_2742 hΓ_2742 => rp_runScript hΓ_2742 hM2 hV hz8 hk8 hz16 hk16 (fun e9 => absurd e9 (by rw [hz16, rIn_len hH.1 hk16 hH.2]; decide)) (fun l1 hl1 hy1 σ2 z1 hp h1 f2 => ?_) )
    show AW G κ _ _ 2745 _ _ _
    have e9 : l1 = l0 := (nI_eq (by omega) (by omega)).mp (hy1.symm.trans hH.2)
    subst e9
    have hS3 := hS2.md h1 f2
    obtain ⟨A3, hMV3, hB3⟩ := id hS3.2.1
    obtain ⟨-, -, -, ho3, -⟩ := id hS3
    refine sL_law_2745 hΓ ?_
    refine sL_law_2747 hΓ rfl ?_
    refine sL_law_2748 hΓ 0 0 (Nat.le_of_ble_eq_true rfl) hMV3.o (fun κ_2748 hΓ_2748 => sp_thrown hΓ_2748 hMV3 ?_)
    show AW G κ _ _ 2751 _ _ _
    refine sL_law_2751 hΓ rfl ?_
    have z9 : z1 9 = 0 := ((hp 9 (by unfold pubJ; omega)).trans rsZ9)
    refine sL_law_2753 hΓ (fun _ => ?_) (fun c9 => absurd z9 c9)
    refine sL_law_2758 hΓ rfl ?_
    refine sL_law_2760 hΓ (fun c9 => absurd rfl c9) (fun _ => ?_)
    refine sL_law_2763 hΓ rfl ?_
    refine sL_law_2764 hΓ ?_
    refine sL_law_2765 hΓ ho3 (j := 0) rfl (by decide) (by decide) ?_
    refine sL_law_2766 hΓ rfl ?_
    refine sL_law_2768 hΓ ?_
    refine sL_law_2769 hΓ ?_
    rw [vl0, lc0]
    refine sL_law_2770 hΓ (fun _ => ?_) (fun c9 => absurd rfl c9)
    refine sL_law_2775 hΓ ?_
    exact kk σ2 c1 _ _ _ _ _ _ _ (hS3.ls (fun hh => hh.zc (fun j hj => hp j (zJp hj))))
  · obtain ⟨rfl, h9⟩ := h9
    rcases h9 with ⟨rfl, hH⟩
    · refine ⟨rfl, ?_⟩
      show AW G κ _ _ 2733 _ _ _
      have hS2 := hS.l2
      have hM2 := hS2.2.1
      refine sL_law_2733 hΓ ?_
      refine sL_law_2735 hΓ rfl ?_
      refine sL_law_2736 hΓ rfl ?_
      refine sL_law_2737 hΓ rfl ?_
      refine sL_law_2739 hΓ ?_
      refine sL_law_2740 hΓ ?_
      refine sL_law_2741 hΓ hA (j := ii + 1) (show _ = nI (ii + 1) by rw [hyi]; exact nI_add ii 1) (by omega) hn ?_
      refine sL_law_2742 hΓ 0 0 (Nat.le_of_ble_eq_true rfl) hM2.choose_spec.1.o (fun κ_2742 hΓ_2742 => rp_runScript hΓ_2742 hM2 hV hz8 hk8 hz16 hk16 (fun _ σ2 h1 f2 => ?_) (fun l1 hl1 hy1 => absurd hH (by rw [rIn_len hl1 hk16 hy1]; decide)) )
      show AW G κ _ _ 2745 _ _ _
      have hS3 := hS2.md h1 f2
      obtain ⟨A3, hMV3, hB3⟩ := id hS3.2.1
      obtain ⟨-, -, -, ho3, -⟩ := id hS3
      refine sL_law_2745 hΓ ?_
      refine sL_law_2747 hΓ rfl ?_
      refine sL_law_2748 hΓ 0 0 (Nat.le_of_ble_eq_true rfl) hMV3.o (fun κ_2748 hΓ_2748 => sp_thrown hΓ_2748 hMV3 ?_)
      show AW G κ _ _ 2751 _ _ _
      refine sL_law_2751 hΓ rfl ?_
      have z9 : (upd z 9 1) 9 = 1 := (upd_same _ _ _)
      refine sL_law_2753 hΓ (fun _ => ?_) (fun c9 => absurd z9 c9)
      refine sL_law_2758 hΓ rfl ?_
      refine sL_law_2760 hΓ (fun _ => ?_) (fun c9 => absurd c9 (by decide))
      refine sL_law_2775 hΓ ?_
      exact kk σ2 c _ _ _ _ _ _ _ (hS3.ls (fun hh => hh.zc zJ9))
theorem op_appendText1 (hΓ : Ok G κ mL_law (d + 24) Q X) (hN : NcK κ) (hA : ArK G κ s0 n xs) (hn : n < 2 ^ 31) (hyi : yi = nI ii) (hb : ii + 6 ≤ n) (hS : LSt G σ c x am o A r z B f) (hfit : ∀ k16, z 16 = nI k16 → k16 ≤ 500 → k16 + 20 ≤ 500) (kk : ∀ (σ1 : Hp) (c1 : Nat → Nat) (z1 : Nat → Int32) (B1 : Nat → Nat → Int32) (f1 : Nat → Int64) (v5 v6 v7 v8 : Option LV), LSt G σ1 c1 x am o A r z1 B1 f1 → AW G κ cs ss 2959 [lR s0, lR x, lR am, lR o, lI yi, v5, v6, v7, v8] [] σ1) : AW G κ (cs + 40) (ss + 400) 296 [lR s0, lR x, lR am, lR o, lI yi, w5, w6, w7, w8] [] σ := by
  refine aw_less (cs2 := cs) (ss2 := ss) (by omega) (by omega) ?_
  obtain ⟨hL, hM, hc, ho, hco⟩ := id hS
  obtain ⟨n0, s, C, n2, C2, Nh, Ch, u, b, l, cd, og, hs, out, ol, hT, hR⟩ := hL
  have hL : RLx G σ c x A am z B := ⟨n0, s, C, n2, C2, Nh, Ch, u, b, l, cd, og, hs, out, ol, hT, hR⟩
  obtain ⟨A', hMV, hB⟩ := id hM
  obtain ⟨⟨hV, hC⟩, -⟩ := id hR
  obtain ⟨t, q, p, tr, g, hcg⟩ := hT.m
  have hW := hV.1.1
  obtain ⟨l9, hl9, hQ9⟩ := hV.ql
  obtain ⟨k8, hk8, hu8, hz8⟩ := hR.u8
  have hq6 : B 0 6 = nI (rQ (B 0)) := by rw [rQ_lt hQ9 hl9]; exact hQ9
  have hq12 : rQ (B 0) ≤ 12 := by rw [rQ_lt hQ9 hl9]; exact hl9
  obtain ⟨k16, hk16, -, hz16, hb16, hBB⟩ := hR.2.2.2.2.1
  have hf := hfit k16 hz16 hk16
  refine sL_law_296 hΓ rfl ?_
  refine sL_law_297 hΓ rfl ?_
  refine sL_law_298 hΓ rfl ?_
  refine sL_law_300 hΓ ?_
  refine sL_law_301 hΓ ?_
  refine sL_law_302 hΓ hA (j := ii + 1) (show _ = nI (ii + 1) by rw [hyi]; exact nI_add ii 1) (by omega) hn ?_
  refine sL_law_303 hΓ rfl ?_
  refine sL_law_304 hΓ rfl ?_
  refine sL_law_306 hΓ ?_
  refine sL_law_307 hΓ ?_
  refine sL_law_308 hΓ hA (j := ii + 2) (show _ = nI (ii + 2) by rw [hyi]; exact nI_add ii 2) (by omega) hn ?_
  refine sL_law_309 hΓ rfl ?_
  refine sL_law_310 hΓ rfl ?_
  refine sL_law_312 hΓ ?_
  refine sL_law_313 hΓ ?_
  refine sL_law_314 hΓ hA (j := ii + 3) (show _ = nI (ii + 3) by rw [hyi]; exact nI_add ii 3) (by omega) hn ?_
  refine sL_law_315 hΓ rfl ?_
  refine sL_law_316 hΓ rfl ?_
  refine sL_law_318 hΓ ?_
  refine sL_law_319 hΓ ?_
  refine sL_law_320 hΓ hA (j := ii + 4) (show _ = nI (ii + 4) by rw [hyi]; exact nI_add ii 4) (by omega) hn ?_
  refine sL_law_321 hΓ rfl ?_
  refine sL_law_322 hΓ rfl ?_
  refine sL_law_324 hΓ ?_
  refine sL_law_325 hΓ ?_
  refine sL_law_326 hΓ hA (j := ii + 5) (show _ = nI (ii + 5) by rw [hyi]; exact nI_add ii 5) (by omega) hn ?_
  refine sL_law_327 hΓ 0 0 (Nat.le_of_ble_eq_true rfl) hT.o (fun κ_327 hΓ_327 => tq_appendText hΓ_327 hT hR hz16 hk16 (fun _ => bb_app (hb16 ▸ hBB)) (fun e9 => absurd hf e9) (fun _ σ1 h1 f1 => ?_) )
  show AW G κ _ _ 330 _ _ _
  have hS2 := hS.c2 h1 f1
  have hM2 := hS2.2.1
  refine sL_law_330 hΓ rfl ?_
  refine sL_law_331 hΓ rfl ?_
  refine sL_law_332 hΓ rfl ?_
  refine sL_law_334 hΓ ?_
  refine sL_law_335 hΓ ?_
  refine sL_law_336 hΓ hA (j := ii + 1) (show _ = nI (ii + 1) by rw [hyi]; exact nI_add ii 1) (by omega) hn ?_
  refine sL_law_337 hΓ rfl ?_
  refine sL_law_338 hΓ rfl ?_
  refine sL_law_340 hΓ ?_
  refine sL_law_341 hΓ ?_
  refine sL_law_342 hΓ hA (j := ii + 2) (show _ = nI (ii + 2) by rw [hyi]; exact nI_add ii 2) (by omega) hn ?_
  refine sL_law_343 hΓ rfl ?_
  refine sL_law_344 hΓ rfl ?_
  refine sL_law_346 hΓ ?_
  refine sL_law_347 hΓ ?_
  refine sL_law_348 hΓ hA (j := ii + 3) (show _ = nI (ii + 3) by rw [hyi]; exact nI_add ii 3) (by omega) hn ?_
  refine sL_law_349 hΓ rfl ?_
  refine sL_law_350 hΓ rfl ?_
  refine sL_law_352 hΓ ?_
  refine sL_law_353 hΓ ?_
  refine sL_law_354 hΓ hA (j := ii + 4) (show _ = nI (ii + 4) by rw [hyi]; exact nI_add ii 4) (by omega) hn ?_
  refine sL_law_355 hΓ rfl ?_
  refine sL_law_356 hΓ rfl ?_
  refine sL_law_358 hΓ ?_
  refine sL_law_359 hΓ ?_
  refine sL_law_360 hΓ hA (j := ii + 5) (show _ = nI (ii + 5) by rw [hyi]; exact nI_add ii 5) (by omega) hn ?_
  refine sL_law_361 hΓ 0 0 (Nat.le_of_ble_eq_true rfl) hM2.choose_spec.1.o (fun κ_361 hΓ_361 => rp_appendText hΓ_361 hM2 hz16 hk16 (fun σ2 h3 f3 => ?_) )
  show AW G κ _ _ 364 _ _ _
  rw [if_pos hf, if_pos hf] at h3
  have hS3 := hS2.md h3 f3
  refine sL_law_364 hΓ (fun _ => ?_) (fun c9 => absurd (if_pos hf).symm c9)
  exact kk σ2 c _ _ _ _ _ _ _ (hS3.ls (fun hh => hh))
theorem op_appendText0 (hΓ : Ok G κ mL_law (d + 24) Q X) (hN : NcK κ) (hA : ArK G κ s0 n xs) (hn : n < 2 ^ 31) (hyi : yi = nI ii) (hb : ii + 6 ≤ n) (hS : LSt G σ c x am o A r z B f) (hfit : ∀ k16, z 16 = nI k16 → k16 ≤ 500 → ¬ k16 + 20 ≤ 500) (kk : ∀ (σ1 : Hp) (c1 : Nat → Nat) (z1 : Nat → Int32) (B1 : Nat → Nat → Int32) (f1 : Nat → Int64) (v5 v6 v7 v8 : Option LV), LSt G σ1 c1 x am o A r z1 B1 f1 → AW G κ cs ss 2959 [lR s0, lR x, lR am, lR o, lI yi, v5, v6, v7, v8] [] σ1) : AW G κ (cs + 40) (ss + 400) 296 [lR s0, lR x, lR am, lR o, lI yi, w5, w6, w7, w8] [] σ := by
  refine aw_less (cs2 := cs) (ss2 := ss) (by omega) (by omega) ?_
  obtain ⟨hL, hM, hc, ho, hco⟩ := id hS
  obtain ⟨n0, s, C, n2, C2, Nh, Ch, u, b, l, cd, og, hs, out, ol, hT, hR⟩ := hL
  have hL : RLx G σ c x A am z B := ⟨n0, s, C, n2, C2, Nh, Ch, u, b, l, cd, og, hs, out, ol, hT, hR⟩
  obtain ⟨A', hMV, hB⟩ := id hM
  obtain ⟨⟨hV, hC⟩, -⟩ := id hR
  obtain ⟨t, q, p, tr, g, hcg⟩ := hT.m
  have hW := hV.1.1
  obtain ⟨l9, hl9, hQ9⟩ := hV.ql
  obtain ⟨k8, hk8, hu8, hz8⟩ := hR.u8
  have hq6 : B 0 6 = nI (rQ (B 0)) := by rw [rQ_lt hQ9 hl9]; exact hQ9
  have hq12 : rQ (B 0) ≤ 12 := by rw [rQ_lt hQ9 hl9]; exact hl9
  obtain ⟨k16, hk16, -, hz16, hb16, hBB⟩ := hR.2.2.2.2.1
  have hf := hfit k16 hz16 hk16
  refine sL_law_296 hΓ rfl ?_
  refine sL_law_297 hΓ rfl ?_
  refine sL_law_298 hΓ rfl ?_
  refine sL_law_300 hΓ ?_
  refine sL_law_301 hΓ ?_
  refine sL_law_302 hΓ hA (j := ii + 1) (show _ = nI (ii + 1) by rw [hyi]; exact nI_add ii 1) (by omega) hn ?_
  refine sL_law_303 hΓ rfl ?_
  refine sL_law_304 hΓ rfl ?_
  refine sL_law_306 hΓ ?_
  refine sL_law_307 hΓ ?_
  refine sL_law_308 hΓ hA (j := ii + 2) (show _ = nI (ii + 2) by rw [hyi]; exact nI_add ii 2) (by omega) hn ?_
  refine sL_law_309 hΓ rfl ?_
  refine sL_law_310 hΓ rfl ?_
  refine sL_law_312 hΓ ?_
  refine sL_law_313 hΓ ?_
  refine sL_law_314 hΓ hA (j := ii + 3) (show _ = nI (ii + 3) by rw [hyi]; exact nI_add ii 3) (by omega) hn ?_
  refine sL_law_315 hΓ rfl ?_
  refine sL_law_316 hΓ rfl ?_
  refine sL_law_318 hΓ ?_
  refine sL_law_319 hΓ ?_
  refine sL_law_320 hΓ hA (j := ii + 4) (show _ = nI (ii + 4) by rw [hyi]; exact nI_add ii 4) (by omega) hn ?_
  refine sL_law_321 hΓ rfl ?_
  refine sL_law_322 hΓ rfl ?_
  refine sL_law_324 hΓ ?_
  refine sL_law_325 hΓ ?_
  refine sL_law_326 hΓ hA (j := ii + 5) (show _ = nI (ii + 5) by rw [hyi]; exact nI_add ii 5) (by omega) hn ?_
  refine sL_law_327 hΓ 0 0 (Nat.le_of_ble_eq_true rfl) hT.o (fun κ_327 hΓ_327 => tq_appendText hΓ_327 hT hR hz16 hk16 (fun e9 => absurd e9 hf) (fun _ => ?_) (fun e9 => absurd e9 hf) )
  show AW G κ _ _ 330 _ _ _
  have hS2 := hS.l2
  have hM2 := hS2.2.1
  refine sL_law_330 hΓ rfl ?_
  refine sL_law_331 hΓ rfl ?_
  refine sL_law_332 hΓ rfl ?_
  refine sL_law_334 hΓ ?_
  refine sL_law_335 hΓ ?_
  refine sL_law_336 hΓ hA (j := ii + 1) (show _ = nI (ii + 1) by rw [hyi]; exact nI_add ii 1) (by omega) hn ?_
  refine sL_law_337 hΓ rfl ?_
  refine sL_law_338 hΓ rfl ?_
  refine sL_law_340 hΓ ?_
  refine sL_law_341 hΓ ?_
  refine sL_law_342 hΓ hA (j := ii + 2) (show _ = nI (ii + 2) by rw [hyi]; exact nI_add ii 2) (by omega) hn ?_
  refine sL_law_343 hΓ rfl ?_
  refine sL_law_344 hΓ rfl ?_
  refine sL_law_346 hΓ ?_
  refine sL_law_347 hΓ ?_
  refine sL_law_348 hΓ hA (j := ii + 3) (show _ = nI (ii + 3) by rw [hyi]; exact nI_add ii 3) (by omega) hn ?_
  refine sL_law_349 hΓ rfl ?_
  refine sL_law_350 hΓ rfl ?_
  refine sL_law_352 hΓ ?_
  refine sL_law_353 hΓ ?_
  refine sL_law_354 hΓ hA (j := ii + 4) (show _ = nI (ii + 4) by rw [hyi]; exact nI_add ii 4) (by omega) hn ?_
  refine sL_law_355 hΓ rfl ?_
  refine sL_law_356 hΓ rfl ?_
  refine sL_law_358 hΓ ?_
  refine sL_law_359 hΓ ?_
  refine sL_law_360 hΓ hA (j := ii + 5) (show _ = nI (ii + 5) by rw [hyi]; exact nI_add ii 5) (by omega) hn ?_
  refine sL_law_361 hΓ 0 0 (Nat.le_of_ble_eq_true rfl) hM2.choose_spec.1.o (fun κ_361 hΓ_361 => rp_appendText hΓ_361 hM2 hz16 hk16 (fun σ2 h3 f3 => ?_) )
  show AW G κ _ _ 364 _ _ _
  rw [if_neg hf, if_neg hf] at h3
  have hS3 := hS2.md h3 f3
  refine sL_law_364 hΓ (fun _ => ?_) (fun c9 => absurd (if_neg hf).symm c9)
  exact kk σ2 c _ _ _ _ _ _ _ (hS3.ls (fun hh => hh.zc zJ9))
theorem op_appendText (hΓ : Ok G κ mL_law (d + 24) Q X) (hN : NcK κ) (hA : ArK G κ s0 n xs) (hn : n < 2 ^ 31) (hyi : yi = nI ii) (hb : ii + 6 ≤ n) (hS : LSt G σ c x am o A r z B f) (kk : ∀ (σ1 : Hp) (c1 : Nat → Nat) (z1 : Nat → Int32) (B1 : Nat → Nat → Int32) (f1 : Nat → Int64) (v5 v6 v7 v8 : Option LV), LSt G σ1 c1 x am o A r z1 B1 f1 → AW G κ cs ss 2959 [lR s0, lR x, lR am, lR o, lI yi, v5, v6, v7, v8] [] σ1) : AW G κ (cs + 40) (ss + 400) 296 [lR s0, lR x, lR am, lR o, lI yi, w5, w6, w7, w8] [] σ := by
  obtain ⟨n0, s, C, n2, C2, Nh, Ch, u, b, l, cd, og, hs, out, ol, hT, hR⟩ := id hS.1
  obtain ⟨k16, hk16, -, hz16, -⟩ := hR.2.2.2.2.1
  by_cases hf : k16 + 20 ≤ 500
  · exact op_appendText1 hΓ hN hA hn hyi hb hS (fun j h1 h2 => by rw [(nI_eq (by omega) (by omega)).mp (h1.symm.trans hz16)]; exact hf) kk
  · exact op_appendText0 hΓ hN hA hn hyi hb hS (fun j h1 h2 => by rw [(nI_eq (by omega) (by omega)).mp (h1.symm.trans hz16)]; exact hf) kk
end LawOpsF
