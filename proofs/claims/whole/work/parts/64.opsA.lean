/-! the law's calls: plain tellings -/
section LawOpsA
variable {G : Gl} {κ : Kx} {d : Nat} {Q : Option Value → Hp → Prop} {X : String → Hp → Prop} {cs ss : Nat} {σ : Hp} {c A r : Nat → Nat} {s0 x am o n ii : Nat} {yi : Int32} {xs z : Nat → Int32} {B : Nat → Nat → Int32} {f : Nat → Int64} {w5 w6 w7 w8 : Option LV}
theorem zJ9 {z : Nat → Int32} {v : Int32} : ∀ j, zJ j → upd z 9 v j = z j := fun j hj => upd_ne (by unfold zJ at hj; omega)
theorem op_tick (hΓ : Ok G κ mL_law (d + 24) Q X) (hN : NcK κ) (hA : ArK G κ s0 n xs) (hn : n < 2 ^ 31) (hyi : yi = nI ii) (hb : ii + 6 ≤ n) (hS : LSt G σ c x am o A r z B f) (kk : ∀ (σ1 : Hp) (c1 : Nat → Nat) (z1 : Nat → Int32) (B1 : Nat → Nat → Int32) (f1 : Nat → Int64) (v5 v6 v7 v8 : Option LV), LSt G σ1 c1 x am o A r z1 B1 f1 → AW G κ cs ss 2959 [lR s0, lR x, lR am, lR o, lI yi, v5, v6, v7, v8] [] σ1) : AW G κ (cs + 40) (ss + 400) 451 [lR s0, lR x, lR am, lR o, lI yi, w5, w6, w7, w8] [] σ := by
  refine aw_less (cs2 := cs) (ss2 := ss) (by omega) (by omega) ?_
  obtain ⟨hL, hM, hc, ho, hco⟩ := id hS
  obtain ⟨n0, s, C, n2, C2, Nh, Ch, u, b, l, cd, og, hs, out, ol, hT, hR⟩ := hL
  have hL : RLx G σ c x A am z B := ⟨n0, s, C, n2, C2, Nh, Ch, u, b, l, cd, og, hs, out, ol, hT, hR⟩
  obtain ⟨A', hMV, hB⟩ := id hM
  obtain ⟨⟨hV, hC⟩, -⟩ := id hR
  obtain ⟨t, q, p, tr, g, hcg⟩ := hT.m
  have hW := hV.1.1
  obtain ⟨l9, hl9, hQ9⟩ := hV.ql
  refine sL_law_451 hΓ rfl ?_
  refine sL_law_452 hΓ 0 0 (Nat.le_of_ble_eq_true rfl) hT.o (fun κ_452 hΓ_452 => tt_tick hΓ_452 hT.o g hV hC ?_)
  show AW G κ _ _ 455 _ _ _
  refine sL_law_455 hΓ rfl ?_
  refine sL_law_456 hΓ 0 0 (Nat.le_of_ble_eq_true rfl) hMV.o (fun κ_456 hΓ_456 => sp_tick hΓ_456 hMV (fun σ1 h1 f1 => ?_) )
  show AW G κ _ _ 459 _ _ _
  refine sL_law_459 hΓ (fun _ => ?_) (fun c9 => absurd rfl c9)
  exact kk σ1 c _ B f _ _ _ _ (hS.mod (MP.mk h1 rfl hB) f1 (hL.zc zJ9))
theorem op_sectionCount (hΓ : Ok G κ mL_law (d + 24) Q X) (hN : NcK κ) (hA : ArK G κ s0 n xs) (hn : n < 2 ^ 31) (hyi : yi = nI ii) (hb : ii + 6 ≤ n) (hS : LSt G σ c x am o A r z B f) (kk : ∀ (σ1 : Hp) (c1 : Nat → Nat) (z1 : Nat → Int32) (B1 : Nat → Nat → Int32) (f1 : Nat → Int64) (v5 v6 v7 v8 : Option LV), LSt G σ1 c1 x am o A r z1 B1 f1 → AW G κ cs ss 2959 [lR s0, lR x, lR am, lR o, lI yi, v5, v6, v7, v8] [] σ1) : AW G κ (cs + 40) (ss + 400) 464 [lR s0, lR x, lR am, lR o, lI yi, w5, w6, w7, w8] [] σ := by
  refine aw_less (cs2 := cs) (ss2 := ss) (by omega) (by omega) ?_
  obtain ⟨hL, hM, hc, ho, hco⟩ := id hS
  obtain ⟨n0, s, C, n2, C2, Nh, Ch, u, b, l, cd, og, hs, out, ol, hT, hR⟩ := hL
  have hL : RLx G σ c x A am z B := ⟨n0, s, C, n2, C2, Nh, Ch, u, b, l, cd, og, hs, out, ol, hT, hR⟩
  obtain ⟨A', hMV, hB⟩ := id hM
  obtain ⟨⟨hV, hC⟩, -⟩ := id hR
  obtain ⟨t, q, p, tr, g, hcg⟩ := hT.m
  have hW := hV.1.1
  obtain ⟨l9, hl9, hQ9⟩ := hV.ql
  refine sL_law_464 hΓ rfl ?_
  refine sL_law_465 hΓ 0 0 (Nat.le_of_ble_eq_true rfl) hT.o (fun κ_465 hΓ_465 => tt_sectionCount hΓ_465 hT.o g hV hC ?_)
  show AW G κ _ _ 468 _ _ _
  refine sL_law_468 hΓ rfl ?_
  refine sL_law_469 hΓ 0 0 (Nat.le_of_ble_eq_true rfl) hMV.o (fun κ_469 hΓ_469 => sp_sectionCount hΓ_469 hMV (fun σ1 h1 f1 => ?_) )
  show AW G κ _ _ 472 _ _ _
  refine sL_law_472 hΓ (fun _ => ?_) (fun c9 => absurd rfl c9)
  exact kk σ1 c _ B f _ _ _ _ (hS.mod (MP.mk h1 rfl hB) f1 (hL.zc zJ9))
theorem op_remainingCutoff (hΓ : Ok G κ mL_law (d + 24) Q X) (hN : NcK κ) (hA : ArK G κ s0 n xs) (hn : n < 2 ^ 31) (hyi : yi = nI ii) (hb : ii + 6 ≤ n) (hS : LSt G σ c x am o A r z B f) (kk : ∀ (σ1 : Hp) (c1 : Nat → Nat) (z1 : Nat → Int32) (B1 : Nat → Nat → Int32) (f1 : Nat → Int64) (v5 v6 v7 v8 : Option LV), LSt G σ1 c1 x am o A r z1 B1 f1 → AW G κ cs ss 2959 [lR s0, lR x, lR am, lR o, lI yi, v5, v6, v7, v8] [] σ1) : AW G κ (cs + 40) (ss + 400) 685 [lR s0, lR x, lR am, lR o, lI yi, w5, w6, w7, w8] [] σ := by
  refine aw_less (cs2 := cs) (ss2 := ss) (by omega) (by omega) ?_
  obtain ⟨hL, hM, hc, ho, hco⟩ := id hS
  obtain ⟨n0, s, C, n2, C2, Nh, Ch, u, b, l, cd, og, hs, out, ol, hT, hR⟩ := hL
  have hL : RLx G σ c x A am z B := ⟨n0, s, C, n2, C2, Nh, Ch, u, b, l, cd, og, hs, out, ol, hT, hR⟩
  obtain ⟨A', hMV, hB⟩ := id hM
  obtain ⟨⟨hV, hC⟩, -⟩ := id hR
  obtain ⟨t, q, p, tr, g, hcg⟩ := hT.m
  have hW := hV.1.1
  obtain ⟨l9, hl9, hQ9⟩ := hV.ql
  refine sL_law_685 hΓ rfl ?_
  refine sL_law_686 hΓ 0 0 (Nat.le_of_ble_eq_true rfl) hT.o (fun κ_686 hΓ_686 => tt_remainingCutoff hΓ_686 hT.o g hV hC ?_)
  show AW G κ _ _ 689 _ _ _
  refine sL_law_689 hΓ rfl ?_
  refine sL_law_690 hΓ 0 0 (Nat.le_of_ble_eq_true rfl) hMV.o (fun κ_690 hΓ_690 => sp_remainingCutoff hΓ_690 hMV (fun σ1 h1 f1 => ?_) )
  show AW G κ _ _ 693 _ _ _
  refine sL_law_693 hΓ (fun _ => ?_) (fun c9 => absurd rfl c9)
  exact kk σ1 c _ B f _ _ _ _ (hS.mod (MP.mk h1 rfl hB) f1 (hL.zc zJ9))
theorem op_cutoffs (hΓ : Ok G κ mL_law (d + 24) Q X) (hN : NcK κ) (hA : ArK G κ s0 n xs) (hn : n < 2 ^ 31) (hyi : yi = nI ii) (hb : ii + 6 ≤ n) (hS : LSt G σ c x am o A r z B f) (kk : ∀ (σ1 : Hp) (c1 : Nat → Nat) (z1 : Nat → Int32) (B1 : Nat → Nat → Int32) (f1 : Nat → Int64) (v5 v6 v7 v8 : Option LV), LSt G σ1 c1 x am o A r z1 B1 f1 → AW G κ cs ss 2959 [lR s0, lR x, lR am, lR o, lI yi, v5, v6, v7, v8] [] σ1) : AW G κ (cs + 40) (ss + 400) 698 [lR s0, lR x, lR am, lR o, lI yi, w5, w6, w7, w8] [] σ := by
  refine aw_less (cs2 := cs) (ss2 := ss) (by omega) (by omega) ?_
  obtain ⟨hL, hM, hc, ho, hco⟩ := id hS
  obtain ⟨n0, s, C, n2, C2, Nh, Ch, u, b, l, cd, og, hs, out, ol, hT, hR⟩ := hL
  have hL : RLx G σ c x A am z B := ⟨n0, s, C, n2, C2, Nh, Ch, u, b, l, cd, og, hs, out, ol, hT, hR⟩
  obtain ⟨A', hMV, hB⟩ := id hM
  obtain ⟨⟨hV, hC⟩, -⟩ := id hR
  obtain ⟨t, q, p, tr, g, hcg⟩ := hT.m
  have hW := hV.1.1
  obtain ⟨l9, hl9, hQ9⟩ := hV.ql
  refine sL_law_698 hΓ rfl ?_
  refine sL_law_699 hΓ 0 0 (Nat.le_of_ble_eq_true rfl) hT.o (fun κ_699 hΓ_699 => tt_cutoffs hΓ_699 hT.o g hV hC ?_)
  show AW G κ _ _ 702 _ _ _
  refine sL_law_702 hΓ rfl ?_
  refine sL_law_703 hΓ 0 0 (Nat.le_of_ble_eq_true rfl) hMV.o (fun κ_703 hΓ_703 => sp_cutoffs hΓ_703 hMV (fun σ1 h1 f1 => ?_) )
  show AW G κ _ _ 706 _ _ _
  refine sL_law_706 hΓ (fun _ => ?_) (fun c9 => absurd rfl c9)
  exact kk σ1 c _ B f _ _ _ _ (hS.mod (MP.mk h1 rfl hB) f1 (hL.zc zJ9))
theorem op_trainCount (hΓ : Ok G κ mL_law (d + 24) Q X) (hN : NcK κ) (hA : ArK G κ s0 n xs) (hn : n < 2 ^ 31) (hyi : yi = nI ii) (hb : ii + 6 ≤ n) (hS : LSt G σ c x am o A r z B f) (kk : ∀ (σ1 : Hp) (c1 : Nat → Nat) (z1 : Nat → Int32) (B1 : Nat → Nat → Int32) (f1 : Nat → Int64) (v5 v6 v7 v8 : Option LV), LSt G σ1 c1 x am o A r z1 B1 f1 → AW G κ cs ss 2959 [lR s0, lR x, lR am, lR o, lI yi, v5, v6, v7, v8] [] σ1) : AW G κ (cs + 40) (ss + 400) 711 [lR s0, lR x, lR am, lR o, lI yi, w5, w6, w7, w8] [] σ := by
  refine aw_less (cs2 := cs) (ss2 := ss) (by omega) (by omega) ?_
  obtain ⟨hL, hM, hc, ho, hco⟩ := id hS
  obtain ⟨n0, s, C, n2, C2, Nh, Ch, u, b, l, cd, og, hs, out, ol, hT, hR⟩ := hL
  have hL : RLx G σ c x A am z B := ⟨n0, s, C, n2, C2, Nh, Ch, u, b, l, cd, og, hs, out, ol, hT, hR⟩
  obtain ⟨A', hMV, hB⟩ := id hM
  obtain ⟨⟨hV, hC⟩, -⟩ := id hR
  obtain ⟨t, q, p, tr, g, hcg⟩ := hT.m
  have hW := hV.1.1
  obtain ⟨l9, hl9, hQ9⟩ := hV.ql
  refine sL_law_711 hΓ rfl ?_
  refine sL_law_712 hΓ 0 0 (Nat.le_of_ble_eq_true rfl) hT.o (fun κ_712 hΓ_712 => tt_trainCount hΓ_712 hT.o g hV hC ?_)
  show AW G κ _ _ 715 _ _ _
  refine sL_law_715 hΓ rfl ?_
  refine sL_law_716 hΓ 0 0 (Nat.le_of_ble_eq_true rfl) hMV.o (fun κ_716 hΓ_716 => sp_trainCount hΓ_716 hMV (fun σ1 h1 f1 => ?_) )
  show AW G κ _ _ 719 _ _ _
  refine sL_law_719 hΓ (fun _ => ?_) (fun c9 => absurd rfl c9)
  exact kk σ1 c _ B f _ _ _ _ (hS.mod (MP.mk h1 rfl hB) f1 (hL.zc zJ9))
theorem op_queueLength (hΓ : Ok G κ mL_law (d + 24) Q X) (hN : NcK κ) (hA : ArK G κ s0 n xs) (hn : n < 2 ^ 31) (hyi : yi = nI ii) (hb : ii + 6 ≤ n) (hS : LSt G σ c x am o A r z B f) (kk : ∀ (σ1 : Hp) (c1 : Nat → Nat) (z1 : Nat → Int32) (B1 : Nat → Nat → Int32) (f1 : Nat → Int64) (v5 v6 v7 v8 : Option LV), LSt G σ1 c1 x am o A r z1 B1 f1 → AW G κ cs ss 2959 [lR s0, lR x, lR am, lR o, lI yi, v5, v6, v7, v8] [] σ1) : AW G κ (cs + 40) (ss + 400) 1630 [lR s0, lR x, lR am, lR o, lI yi, w5, w6, w7, w8] [] σ := by
  refine aw_less (cs2 := cs) (ss2 := ss) (by omega) (by omega) ?_
  obtain ⟨hL, hM, hc, ho, hco⟩ := id hS
  obtain ⟨n0, s, C, n2, C2, Nh, Ch, u, b, l, cd, og, hs, out, ol, hT, hR⟩ := hL
  have hL : RLx G σ c x A am z B := ⟨n0, s, C, n2, C2, Nh, Ch, u, b, l, cd, og, hs, out, ol, hT, hR⟩
  obtain ⟨A', hMV, hB⟩ := id hM
  obtain ⟨⟨hV, hC⟩, -⟩ := id hR
  obtain ⟨t, q, p, tr, g, hcg⟩ := hT.m
  have hW := hV.1.1
  obtain ⟨l9, hl9, hQ9⟩ := hV.ql
  refine sL_law_1630 hΓ rfl ?_
  refine sL_law_1631 hΓ 0 0 (Nat.le_of_ble_eq_true rfl) hT.o (fun κ_1631 hΓ_1631 => tt_queueLength hΓ_1631 hT.o g hV hC ?_)
  show AW G κ _ _ 1634 _ _ _
  refine sL_law_1634 hΓ rfl ?_
  refine sL_law_1635 hΓ 0 0 (Nat.le_of_ble_eq_true rfl) hMV.o (fun κ_1635 hΓ_1635 => sp_queueLength hΓ_1635 hMV (fun σ1 h1 f1 => ?_) )
  show AW G κ _ _ 1638 _ _ _
  refine sL_law_1638 hΓ (fun _ => ?_) (fun c9 => absurd rfl c9)
  exact kk σ1 c _ B f _ _ _ _ (hS.mod (MP.mk h1 rfl hB) f1 (hL.zc zJ9))
theorem op_sentPackets (hΓ : Ok G κ mL_law (d + 24) Q X) (hN : NcK κ) (hA : ArK G κ s0 n xs) (hn : n < 2 ^ 31) (hyi : yi = nI ii) (hb : ii + 6 ≤ n) (hS : LSt G σ c x am o A r z B f) (kk : ∀ (σ1 : Hp) (c1 : Nat → Nat) (z1 : Nat → Int32) (B1 : Nat → Nat → Int32) (f1 : Nat → Int64) (v5 v6 v7 v8 : Option LV), LSt G σ1 c1 x am o A r z1 B1 f1 → AW G κ cs ss 2959 [lR s0, lR x, lR am, lR o, lI yi, v5, v6, v7, v8] [] σ1) : AW G κ (cs + 40) (ss + 400) 1874 [lR s0, lR x, lR am, lR o, lI yi, w5, w6, w7, w8] [] σ := by
  refine aw_less (cs2 := cs) (ss2 := ss) (by omega) (by omega) ?_
  obtain ⟨hL, hM, hc, ho, hco⟩ := id hS
  obtain ⟨n0, s, C, n2, C2, Nh, Ch, u, b, l, cd, og, hs, out, ol, hT, hR⟩ := hL
  have hL : RLx G σ c x A am z B := ⟨n0, s, C, n2, C2, Nh, Ch, u, b, l, cd, og, hs, out, ol, hT, hR⟩
  obtain ⟨A', hMV, hB⟩ := id hM
  obtain ⟨⟨hV, hC⟩, -⟩ := id hR
  obtain ⟨t, q, p, tr, g, hcg⟩ := hT.m
  have hW := hV.1.1
  obtain ⟨l9, hl9, hQ9⟩ := hV.ql
  refine sL_law_1874 hΓ rfl ?_
  refine sL_law_1875 hΓ 0 0 (Nat.le_of_ble_eq_true rfl) hT.o (fun κ_1875 hΓ_1875 => tt_sentPackets hΓ_1875 hT.o g hV hC ?_)
  show AW G κ _ _ 1878 _ _ _
  refine sL_law_1878 hΓ rfl ?_
  refine sL_law_1879 hΓ 0 0 (Nat.le_of_ble_eq_true rfl) hMV.o (fun κ_1879 hΓ_1879 => sp_sentPackets hΓ_1879 hMV (fun σ1 h1 f1 => ?_) )
  show AW G κ _ _ 1882 _ _ _
  refine sL_law_1882 hΓ (fun _ => ?_) (fun c9 => absurd rfl c9)
  exact kk σ1 c _ B f _ _ _ _ (hS.mod (MP.mk h1 rfl hB) f1 (hL.zc zJ9))
theorem op_tunnelCount (hΓ : Ok G κ mL_law (d + 24) Q X) (hN : NcK κ) (hA : ArK G κ s0 n xs) (hn : n < 2 ^ 31) (hyi : yi = nI ii) (hb : ii + 6 ≤ n) (hS : LSt G σ c x am o A r z B f) (kk : ∀ (σ1 : Hp) (c1 : Nat → Nat) (z1 : Nat → Int32) (B1 : Nat → Nat → Int32) (f1 : Nat → Int64) (v5 v6 v7 v8 : Option LV), LSt G σ1 c1 x am o A r z1 B1 f1 → AW G κ cs ss 2959 [lR s0, lR x, lR am, lR o, lI yi, v5, v6, v7, v8] [] σ1) : AW G κ (cs + 40) (ss + 400) 659 [lR s0, lR x, lR am, lR o, lI yi, w5, w6, w7, w8] [] σ := by
  refine aw_less (cs2 := cs) (ss2 := ss) (by omega) (by omega) ?_
  obtain ⟨hL, hM, hc, ho, hco⟩ := id hS
  obtain ⟨n0, s, C, n2, C2, Nh, Ch, u, b, l, cd, og, hs, out, ol, hT, hR⟩ := hL
  have hL : RLx G σ c x A am z B := ⟨n0, s, C, n2, C2, Nh, Ch, u, b, l, cd, og, hs, out, ol, hT, hR⟩
  obtain ⟨A', hMV, hB⟩ := id hM
  obtain ⟨⟨hV, hC⟩, -⟩ := id hR
  obtain ⟨t, q, p, tr, g, hcg⟩ := hT.m
  have hW := hV.1.1
  obtain ⟨l9, hl9, hQ9⟩ := hV.ql
  refine sL_law_659 hΓ rfl ?_
  refine sL_law_660 hΓ 0 0 (Nat.le_of_ble_eq_true rfl) hT.o (fun κ_660 hΓ_660 => tt_tunnelCount hΓ_660 hT.o g hV hC ?_)
  show AW G κ _ _ 663 _ _ _
  refine sL_law_663 hΓ rfl ?_
  refine sL_law_664 hΓ 0 0 (Nat.le_of_ble_eq_true rfl) hMV.o (fun κ_664 hΓ_664 => sp_tunnelCount hΓ_664 hMV hW (fun σ1 h1 f1 => ?_) )
  show AW G κ _ _ 667 _ _ _
  refine sL_law_667 hΓ (fun _ => ?_) (fun c9 => absurd rfl c9)
  exact kk σ1 c _ B f _ _ _ _ (hS.mod (MP.mk h1 rfl hB) f1 (hL.zc zJ9))
theorem op_isPowerOn (hΓ : Ok G κ mL_law (d + 24) Q X) (hN : NcK κ) (hA : ArK G κ s0 n xs) (hn : n < 2 ^ 31) (hyi : yi = nI ii) (hb : ii + 6 ≤ n) (hS : LSt G σ c x am o A r z B f) (kk : ∀ (σ1 : Hp) (c1 : Nat → Nat) (z1 : Nat → Int32) (B1 : Nat → Nat → Int32) (f1 : Nat → Int64) (v5 v6 v7 v8 : Option LV), LSt G σ1 c1 x am o A r z1 B1 f1 → AW G κ cs ss 2959 [lR s0, lR x, lR am, lR o, lI yi, v5, v6, v7, v8] [] σ1) : AW G κ (cs + 40) (ss + 400) 672 [lR s0, lR x, lR am, lR o, lI yi, w5, w6, w7, w8] [] σ := by
  refine aw_less (cs2 := cs) (ss2 := ss) (by omega) (by omega) ?_
  obtain ⟨hL, hM, hc, ho, hco⟩ := id hS
  obtain ⟨n0, s, C, n2, C2, Nh, Ch, u, b, l, cd, og, hs, out, ol, hT, hR⟩ := hL
  have hL : RLx G σ c x A am z B := ⟨n0, s, C, n2, C2, Nh, Ch, u, b, l, cd, og, hs, out, ol, hT, hR⟩
  obtain ⟨A', hMV, hB⟩ := id hM
  obtain ⟨⟨hV, hC⟩, -⟩ := id hR
  obtain ⟨t, q, p, tr, g, hcg⟩ := hT.m
  have hW := hV.1.1
  obtain ⟨l9, hl9, hQ9⟩ := hV.ql
  refine sL_law_672 hΓ rfl ?_
  refine sL_law_673 hΓ 0 0 (Nat.le_of_ble_eq_true rfl) hT.o (fun κ_673 hΓ_673 => tt_isPowerOn hΓ_673 hT.o g hV hC ?_)
  show AW G κ _ _ 676 _ _ _
  refine sL_law_676 hΓ rfl ?_
  refine sL_law_677 hΓ 0 0 (Nat.le_of_ble_eq_true rfl) hMV.o (fun κ_677 hΓ_677 => sp_isPowerOn hΓ_677 hMV (fun σ1 h1 f1 => ?_) )
  show AW G κ _ _ 680 _ _ _
  refine sL_law_680 hΓ (fun _ => ?_) (fun c9 => absurd rfl c9)
  exact kk σ1 c _ B f _ _ _ _ (hS.mod (MP.mk h1 rfl hB) f1 (hL.zc zJ9))
theorem op_fastestTrain (hΓ : Ok G κ mL_law (d + 24) Q X) (hN : NcK κ) (hA : ArK G κ s0 n xs) (hn : n < 2 ^ 31) (hyi : yi = nI ii) (hb : ii + 6 ≤ n) (hS : LSt G σ c x am o A r z B f) (kk : ∀ (σ1 : Hp) (c1 : Nat → Nat) (z1 : Nat → Int32) (B1 : Nat → Nat → Int32) (f1 : Nat → Int64) (v5 v6 v7 v8 : Option LV), LSt G σ1 c1 x am o A r z1 B1 f1 → AW G κ cs ss 2959 [lR s0, lR x, lR am, lR o, lI yi, v5, v6, v7, v8] [] σ1) : AW G κ (cs + 40) (ss + 400) 1477 [lR s0, lR x, lR am, lR o, lI yi, w5, w6, w7, w8] [] σ := by
  refine aw_less (cs2 := cs) (ss2 := ss) (by omega) (by omega) ?_
  obtain ⟨hL, hM, hc, ho, hco⟩ := id hS
  obtain ⟨n0, s, C, n2, C2, Nh, Ch, u, b, l, cd, og, hs, out, ol, hT, hR⟩ := hL
  have hL : RLx G σ c x A am z B := ⟨n0, s, C, n2, C2, Nh, Ch, u, b, l, cd, og, hs, out, ol, hT, hR⟩
  obtain ⟨A', hMV, hB⟩ := id hM
  obtain ⟨⟨hV, hC⟩, -⟩ := id hR
  obtain ⟨t, q, p, tr, g, hcg⟩ := hT.m
  have hW := hV.1.1
  obtain ⟨l9, hl9, hQ9⟩ := hV.ql
  refine sL_law_1477 hΓ rfl ?_
  refine sL_law_1478 hΓ 0 0 (Nat.le_of_ble_eq_true rfl) hT.o (fun κ_1478 hΓ_1478 => tt_fastestTrain hΓ_1478 hT.o g hV hC ?_)
  show AW G κ _ _ 1481 _ _ _
  refine sL_law_1481 hΓ rfl ?_
  refine sL_law_1482 hΓ 0 0 (Nat.le_of_ble_eq_true rfl) hMV.o (fun κ_1482 hΓ_1482 => sp_fastestTrain hΓ_1482 hMV hW (fun σ1 h1 f1 => ?_) )
  show AW G κ _ _ 1485 _ _ _
  refine sL_law_1485 hΓ (fun _ => ?_) (fun c9 => absurd rfl c9)
  exact kk σ1 c _ B f _ _ _ _ (hS.mod (MP.mk h1 rfl hB) f1 (hL.zc zJ9))
theorem op_gap (hΓ : Ok G κ mL_law (d + 24) Q X) (hN : NcK κ) (hA : ArK G κ s0 n xs) (hn : n < 2 ^ 31) (hyi : yi = nI ii) (hb : ii + 6 ≤ n) (hS : LSt G σ c x am o A r z B f) (kk : ∀ (σ1 : Hp) (c1 : Nat → Nat) (z1 : Nat → Int32) (B1 : Nat → Nat → Int32) (f1 : Nat → Int64) (v5 v6 v7 v8 : Option LV), LSt G σ1 c1 x am o A r z1 B1 f1 → AW G κ cs ss 2959 [lR s0, lR x, lR am, lR o, lI yi, v5, v6, v7, v8] [] σ1) : AW G κ (cs + 40) (ss + 400) 1955 [lR s0, lR x, lR am, lR o, lI yi, w5, w6, w7, w8] [] σ := by
  refine aw_less (cs2 := cs) (ss2 := ss) (by omega) (by omega) ?_
  obtain ⟨hL, hM, hc, ho, hco⟩ := id hS
  obtain ⟨n0, s, C, n2, C2, Nh, Ch, u, b, l, cd, og, hs, out, ol, hT, hR⟩ := hL
  have hL : RLx G σ c x A am z B := ⟨n0, s, C, n2, C2, Nh, Ch, u, b, l, cd, og, hs, out, ol, hT, hR⟩
  obtain ⟨A', hMV, hB⟩ := id hM
  obtain ⟨⟨hV, hC⟩, -⟩ := id hR
  obtain ⟨t, q, p, tr, g, hcg⟩ := hT.m
  have hW := hV.1.1
  obtain ⟨l9, hl9, hQ9⟩ := hV.ql
  refine sL_law_1955 hΓ rfl ?_
  refine sL_law_1956 hΓ 0 0 (Nat.le_of_ble_eq_true rfl) hT.o (fun κ_1956 hΓ_1956 => tt_gap hΓ_1956 hT.o g hV hC ?_)
  show AW G κ _ _ 1959 _ _ _
  refine sL_law_1959 hΓ rfl ?_
  refine sL_law_1960 hΓ 0 0 (Nat.le_of_ble_eq_true rfl) hMV.o (fun κ_1960 hΓ_1960 => sp_gap hΓ_1960 hMV hW (fun σ1 h1 f1 => ?_) )
  show AW G κ _ _ 1963 _ _ _
  refine sL_law_1963 hΓ (fun _ => ?_) (fun c9 => absurd rfl c9)
  exact kk σ1 c _ B f _ _ _ _ (hS.mod (MP.mk h1 rfl hB) f1 (hL.zc zJ9))
theorem op_trainWith (hΓ : Ok G κ mL_law (d + 24) Q X) (hN : NcK κ) (hA : ArK G κ s0 n xs) (hn : n < 2 ^ 31) (hyi : yi = nI ii) (hb : ii + 6 ≤ n) (hS : LSt G σ c x am o A r z B f) (kk : ∀ (σ1 : Hp) (c1 : Nat → Nat) (z1 : Nat → Int32) (B1 : Nat → Nat → Int32) (f1 : Nat → Int64) (v5 v6 v7 v8 : Option LV), LSt G σ1 c1 x am o A r z1 B1 f1 → AW G κ cs ss 2959 [lR s0, lR x, lR am, lR o, lI yi, v5, v6, v7, v8] [] σ1) : AW G κ (cs + 40) (ss + 400) 780 [lR s0, lR x, lR am, lR o, lI yi, w5, w6, w7, w8] [] σ := by
  refine aw_less (cs2 := cs) (ss2 := ss) (by omega) (by omega) ?_
  obtain ⟨hL, hM, hc, ho, hco⟩ := id hS
  obtain ⟨n0, s, C, n2, C2, Nh, Ch, u, b, l, cd, og, hs, out, ol, hT, hR⟩ := hL
  have hL : RLx G σ c x A am z B := ⟨n0, s, C, n2, C2, Nh, Ch, u, b, l, cd, og, hs, out, ol, hT, hR⟩
  obtain ⟨A', hMV, hB⟩ := id hM
  obtain ⟨⟨hV, hC⟩, -⟩ := id hR
  obtain ⟨t, q, p, tr, g, hcg⟩ := hT.m
  have hW := hV.1.1
  obtain ⟨l9, hl9, hQ9⟩ := hV.ql
  refine sL_law_780 hΓ rfl ?_
  refine sL_law_781 hΓ rfl ?_
  refine sL_law_782 hΓ rfl ?_
  refine sL_law_784 hΓ ?_
  refine sL_law_785 hΓ ?_
  refine sL_law_786 hΓ hA (j := ii + 1) (show _ = nI (ii + 1) by rw [hyi]; exact nI_add ii 1) (by omega) hn ?_
  refine sL_law_787 hΓ 0 0 (Nat.le_of_ble_eq_true rfl) hT.o (fun κ_787 hΓ_787 => tt_trainWith hΓ_787 hT.o g hV hC ?_)
  show AW G κ _ _ 790 _ _ _
  refine sL_law_790 hΓ rfl ?_
  refine sL_law_791 hΓ rfl ?_
  refine sL_law_792 hΓ rfl ?_
  refine sL_law_794 hΓ ?_
  refine sL_law_795 hΓ ?_
  refine sL_law_796 hΓ hA (j := ii + 1) (show _ = nI (ii + 1) by rw [hyi]; exact nI_add ii 1) (by omega) hn ?_
  refine sL_law_797 hΓ 0 0 (Nat.le_of_ble_eq_true rfl) hMV.o (fun κ_797 hΓ_797 => sp_trainWith hΓ_797 hMV hW (fun σ1 h1 f1 => ?_) )
  show AW G κ _ _ 800 _ _ _
  refine sL_law_800 hΓ (fun _ => ?_) (fun c9 => absurd rfl c9)
  exact kk σ1 c _ B f _ _ _ _ (hS.mod (MP.mk h1 rfl hB) f1 (hL.zc zJ9))
theorem op_errorCode (hΓ : Ok G κ mL_law (d + 24) Q X) (hN : NcK κ) (hA : ArK G κ s0 n xs) (hn : n < 2 ^ 31) (hyi : yi = nI ii) (hb : ii + 6 ≤ n) (hS : LSt G σ c x am o A r z B f) (kk : ∀ (σ1 : Hp) (c1 : Nat → Nat) (z1 : Nat → Int32) (B1 : Nat → Nat → Int32) (f1 : Nat → Int64) (v5 v6 v7 v8 : Option LV), LSt G σ1 c1 x am o A r z1 B1 f1 → AW G κ cs ss 2959 [lR s0, lR x, lR am, lR o, lI yi, v5, v6, v7, v8] [] σ1) : AW G κ (cs + 40) (ss + 400) 425 [lR s0, lR x, lR am, lR o, lI yi, w5, w6, w7, w8] [] σ := by
  refine aw_less (cs2 := cs) (ss2 := ss) (by omega) (by omega) ?_
  obtain ⟨hL, hM, hc, ho, hco⟩ := id hS
  obtain ⟨n0, s, C, n2, C2, Nh, Ch, u, b, l, cd, og, hs, out, ol, hT, hR⟩ := hL
  have hL : RLx G σ c x A am z B := ⟨n0, s, C, n2, C2, Nh, Ch, u, b, l, cd, og, hs, out, ol, hT, hR⟩
  obtain ⟨A', hMV, hB⟩ := id hM
  obtain ⟨⟨hV, hC⟩, -⟩ := id hR
  obtain ⟨t, q, p, tr, g, hcg⟩ := hT.m
  have hW := hV.1.1
  obtain ⟨l9, hl9, hQ9⟩ := hV.ql
  refine sL_law_425 hΓ rfl ?_
  refine sL_law_426 hΓ 0 0 (Nat.le_of_ble_eq_true rfl) hT.o (fun κ_426 hΓ_426 => tt_errorCode hΓ_426 hT hR ?_)
  show AW G κ _ _ 429 _ _ _
  refine sL_law_429 hΓ rfl ?_
  refine sL_law_430 hΓ 0 0 (Nat.le_of_ble_eq_true rfl) hMV.o (fun κ_430 hΓ_430 => rp_errorCode hΓ_430 hM (fun σ1 h1 f1 => ?_) )
  show AW G κ _ _ 433 _ _ _
  refine sL_law_433 hΓ (fun _ => ?_) (fun c9 => absurd rfl c9)
  exact kk σ1 c _ B f _ _ _ _ (hS.mod (h1) f1 (hL.zc zJ9))
theorem op_errorOffset (hΓ : Ok G κ mL_law (d + 24) Q X) (hN : NcK κ) (hA : ArK G κ s0 n xs) (hn : n < 2 ^ 31) (hyi : yi = nI ii) (hb : ii + 6 ≤ n) (hS : LSt G σ c x am o A r z B f) (kk : ∀ (σ1 : Hp) (c1 : Nat → Nat) (z1 : Nat → Int32) (B1 : Nat → Nat → Int32) (f1 : Nat → Int64) (v5 v6 v7 v8 : Option LV), LSt G σ1 c1 x am o A r z1 B1 f1 → AW G κ cs ss 2959 [lR s0, lR x, lR am, lR o, lI yi, v5, v6, v7, v8] [] σ1) : AW G κ (cs + 40) (ss + 400) 438 [lR s0, lR x, lR am, lR o, lI yi, w5, w6, w7, w8] [] σ := by
  refine aw_less (cs2 := cs) (ss2 := ss) (by omega) (by omega) ?_
  obtain ⟨hL, hM, hc, ho, hco⟩ := id hS
  obtain ⟨n0, s, C, n2, C2, Nh, Ch, u, b, l, cd, og, hs, out, ol, hT, hR⟩ := hL
  have hL : RLx G σ c x A am z B := ⟨n0, s, C, n2, C2, Nh, Ch, u, b, l, cd, og, hs, out, ol, hT, hR⟩
  obtain ⟨A', hMV, hB⟩ := id hM
  obtain ⟨⟨hV, hC⟩, -⟩ := id hR
  obtain ⟨t, q, p, tr, g, hcg⟩ := hT.m
  have hW := hV.1.1
  obtain ⟨l9, hl9, hQ9⟩ := hV.ql
  refine sL_law_438 hΓ rfl ?_
  refine sL_law_439 hΓ 0 0 (Nat.le_of_ble_eq_true rfl) hT.o (fun κ_439 hΓ_439 => tt_errorOffset hΓ_439 hT hR ?_)
  show AW G κ _ _ 442 _ _ _
  refine sL_law_442 hΓ rfl ?_
  refine sL_law_443 hΓ 0 0 (Nat.le_of_ble_eq_true rfl) hMV.o (fun κ_443 hΓ_443 => rp_errorOffset hΓ_443 hM (fun σ1 h1 f1 => ?_) )
  show AW G κ _ _ 446 _ _ _
  refine sL_law_446 hΓ (fun _ => ?_) (fun c9 => absurd rfl c9)
  exact kk σ1 c _ B f _ _ _ _ (hS.mod (h1) f1 (hL.zc zJ9))
theorem op_undoableCount (hΓ : Ok G κ mL_law (d + 24) Q X) (hN : NcK κ) (hA : ArK G κ s0 n xs) (hn : n < 2 ^ 31) (hyi : yi = nI ii) (hb : ii + 6 ≤ n) (hS : LSt G σ c x am o A r z B f) (kk : ∀ (σ1 : Hp) (c1 : Nat → Nat) (z1 : Nat → Int32) (B1 : Nat → Nat → Int32) (f1 : Nat → Int64) (v5 v6 v7 v8 : Option LV), LSt G σ1 c1 x am o A r z1 B1 f1 → AW G κ cs ss 2959 [lR s0, lR x, lR am, lR o, lI yi, v5, v6, v7, v8] [] σ1) : AW G κ (cs + 40) (ss + 400) 2847 [lR s0, lR x, lR am, lR o, lI yi, w5, w6, w7, w8] [] σ := by
  refine aw_less (cs2 := cs) (ss2 := ss) (by omega) (by omega) ?_
  obtain ⟨hL, hM, hc, ho, hco⟩ := id hS
  obtain ⟨n0, s, C, n2, C2, Nh, Ch, u, b, l, cd, og, hs, out, ol, hT, hR⟩ := hL
  have hL : RLx G σ c x A am z B := ⟨n0, s, C, n2, C2, Nh, Ch, u, b, l, cd, og, hs, out, ol, hT, hR⟩
  obtain ⟨A', hMV, hB⟩ := id hM
  obtain ⟨⟨hV, hC⟩, -⟩ := id hR
  obtain ⟨t, q, p, tr, g, hcg⟩ := hT.m
  have hW := hV.1.1
  obtain ⟨l9, hl9, hQ9⟩ := hV.ql
  refine sL_law_2847 hΓ rfl ?_
  refine sL_law_2848 hΓ 0 0 (Nat.le_of_ble_eq_true rfl) hT.o (fun κ_2848 hΓ_2848 => tt_undoableCount hΓ_2848 hT hR ?_)
  show AW G κ _ _ 2851 _ _ _
  refine sL_law_2851 hΓ rfl ?_
  refine sL_law_2852 hΓ 0 0 (Nat.le_of_ble_eq_true rfl) hMV.o (fun κ_2852 hΓ_2852 => rp_undoableCount hΓ_2852 hM (fun σ1 h1 f1 => ?_) )
  show AW G κ _ _ 2855 _ _ _
  refine sL_law_2855 hΓ (fun _ => ?_) (fun c9 => absurd rfl c9)
  exact kk σ1 c _ B f _ _ _ _ (hS.mod (h1) f1 (hL.zc zJ9))
end LawOpsA
