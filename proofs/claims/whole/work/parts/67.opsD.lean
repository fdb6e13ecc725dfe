/-! the law's calls: changes without exceptions -/
section LawOpsD
variable {G : Gl} {κ : Kx} {d : Nat} {Q : Option Value → Hp → Prop} {X : String → Hp → Prop} {cs ss : Nat} {σ : Hp} {c A r : Nat → Nat} {s0 x am o n ii : Nat} {yi : Int32} {xs z : Nat → Int32} {B : Nat → Nat → Int32} {f : Nat → Int64} {w5 w6 w7 w8 : Option LV}
theorem op_clearQueue (hΓ : Ok G κ mL_law (d + 24) Q X) (hN : NcK κ) (hA : ArK G κ s0 n xs) (hn : n < 2 ^ 31) (hyi : yi = nI ii) (hb : ii + 6 ≤ n) (hS : LSt G σ c x am o A r z B f) (kk : ∀ (σ1 : Hp) (c1 : Nat → Nat) (z1 : Nat → Int32) (B1 : Nat → Nat → Int32) (f1 : Nat → Int64) (v5 v6 v7 v8 : Option LV), LSt G σ1 c1 x am o A r z1 B1 f1 → AW G κ cs ss 2959 [lR s0, lR x, lR am, lR o, lI yi, v5, v6, v7, v8] [] σ1) : AW G κ (cs + 40) (ss + 400) 2585 [lR s0, lR x, lR am, lR o, lI yi, w5, w6, w7, w8] [] σ := by
  refine aw_less (cs2 := cs + 7) (ss2 := ss + 96) (by omega) (by omega) ?_
  obtain ⟨hL, hM, hc, ho, hco⟩ := id hS
  obtain ⟨n0, s, C, n2, C2, Nh, Ch, u, b, l, cd, og, hs, out, ol, hT, hR⟩ := hL
  have hL : RLx G σ c x A am z B := ⟨n0, s, C, n2, C2, Nh, Ch, u, b, l, cd, og, hs, out, ol, hT, hR⟩
  obtain ⟨A', hMV, hB⟩ := id hM
  obtain ⟨⟨hV, hC⟩, -⟩ := id hR
  obtain ⟨t, q, p, tr, g, hcg⟩ := hT.m
  have hW := hV.1.1
  obtain ⟨l9, hl9, hQ9⟩ := hV.ql
  obtain ⟨k8, hk8, hu8, hz8⟩ := hR.u8
  have hW2 := hV.1
  refine sL_law_2585 hΓ rfl ?_
  refine sL_law_2586 hΓ 7 96 (Nat.le_of_ble_eq_true rfl) hT.o (fun κ_2586 hΓ_2586 => tq_clearQueue (cs := 0) (ss := 0) hΓ_2586 hT hR hk8 hu8 hz8 (fun σ1 c1 h1 f1 => ?_) )
  show AW G κ _ _ 2589 _ _ _
  have hS2 := hS.c2 (h1) f1
  have hM2 := hS2.2.1
  refine sL_law_2589 hΓ rfl ?_
  refine sL_law_2590 hΓ 0 0 (Nat.le_of_ble_eq_true rfl) hM2.choose_spec.1.o (fun κ_2590 hΓ_2590 => rp_clearQueue hΓ_2590 hM2 hz8 hk8 (fun σ2 h3 f3 => ?_) )
  show AW G κ _ _ 2593 _ _ _
  have hS3 := hS2.md h3 f3
  refine sL_law_2593 hΓ (fun _ => ?_) (fun c9 => absurd (show (oClear z (B 0)).2.1 11 = fV (oClear z (B 0)) from (if_pos rfl).symm) c9)
  exact kk σ2 c1 _ _ _ _ _ _ _ (hS3.ls (fun hh => hh))
theorem op_ticksToCutoff (hΓ : Ok G κ mL_law (d + 24) Q X) (hN : NcK κ) (hA : ArK G κ s0 n xs) (hn : n < 2 ^ 31) (hyi : yi = nI ii) (hb : ii + 6 ≤ n) (hS : LSt G σ c x am o A r z B f) (kk : ∀ (σ1 : Hp) (c1 : Nat → Nat) (z1 : Nat → Int32) (B1 : Nat → Nat → Int32) (f1 : Nat → Int64) (v5 v6 v7 v8 : Option LV), LSt G σ1 c1 x am o A r z1 B1 f1 → AW G κ cs ss 2959 [lR s0, lR x, lR am, lR o, lI yi, v5, v6, v7, v8] [] σ1) : AW G κ (cs + 40) (ss + 400) 2216 [lR s0, lR x, lR am, lR o, lI yi, w5, w6, w7, w8] [] σ := by
  refine aw_less (cs2 := cs + 7) (ss2 := ss + 96) (by omega) (by omega) ?_
  obtain ⟨hL, hM, hc, ho, hco⟩ := id hS
  obtain ⟨n0, s, C, n2, C2, Nh, Ch, u, b, l, cd, og, hs, out, ol, hT, hR⟩ := hL
  have hL : RLx G σ c x A am z B := ⟨n0, s, C, n2, C2, Nh, Ch, u, b, l, cd, og, hs, out, ol, hT, hR⟩
  obtain ⟨A', hMV, hB⟩ := id hM
  obtain ⟨⟨hV, hC⟩, -⟩ := id hR
  obtain ⟨t, q, p, tr, g, hcg⟩ := hT.m
  have hW := hV.1.1
  obtain ⟨l9, hl9, hQ9⟩ := hV.ql
  obtain ⟨k8, hk8, hu8, hz8⟩ := hR.u8
  have hW2 := hV.1
  refine sL_law_2216 hΓ rfl ?_
  refine sL_law_2217 hΓ 7 96 (Nat.le_of_ble_eq_true rfl) hT.o (fun κ_2217 hΓ_2217 => tq_ticksToCutoff (cs := 0) (ss := 0) hΓ_2217 hT hR (fun σ1 c1 h1 f1 => ?_) )
  show AW G κ _ _ 2220 _ _ _
  have hS2 := hS.c2 (⟨_, _, _, _, _, _, _, _, _, _, _, _, _, _, _, h1, hR⟩) f1
  have hM2 := hS2.2.1
  refine sL_law_2220 hΓ rfl ?_
  refine sL_law_2221 hΓ 0 0 (Nat.le_of_ble_eq_true rfl) hM2.choose_spec.1.o (fun κ_2221 hΓ_2221 => rp_ticksToCutoff hΓ_2221 hM2 hW2 (fun σ2 h3 f3 => ?_) )
  show AW G κ _ _ 2224 _ _ _
  have hS3 := hS2.md h3 f3
  refine sL_law_2224 hΓ (fun _ => ?_) (fun c9 => absurd rfl c9)
  exact kk σ2 c1 _ _ _ _ _ _ _ (hS3.ls (fun hh => hh.zc zJ9))
theorem op_writeTrack (hΓ : Ok G κ mL_law (d + 24) Q X) (hN : NcK κ) (hA : ArK G κ s0 n xs) (hn : n < 2 ^ 31) (hyi : yi = nI ii) (hb : ii + 6 ≤ n) (hS : LSt G σ c x am o A r z B f) (kk : ∀ (σ1 : Hp) (c1 : Nat → Nat) (z1 : Nat → Int32) (B1 : Nat → Nat → Int32) (f1 : Nat → Int64) (v5 v6 v7 v8 : Option LV), LSt G σ1 c1 x am o A r z1 B1 f1 → AW G κ cs ss 2959 [lR s0, lR x, lR am, lR o, lI yi, v5, v6, v7, v8] [] σ1) : AW G κ (cs + 40) (ss + 400) 2778 [lR s0, lR x, lR am, lR o, lI yi, w5, w6, w7, w8] [] σ := by
  refine aw_less (cs2 := cs + 0) (ss2 := ss + 0) (by omega) (by omega) ?_
  obtain ⟨hL, hM, hc, ho, hco⟩ := id hS
  obtain ⟨n0, s, C, n2, C2, Nh, Ch, u, b, l, cd, og, hs, out, ol, hT, hR⟩ := hL
  have hL : RLx G σ c x A am z B := ⟨n0, s, C, n2, C2, Nh, Ch, u, b, l, cd, og, hs, out, ol, hT, hR⟩
  obtain ⟨A', hMV, hB⟩ := id hM
  obtain ⟨⟨hV, hC⟩, -⟩ := id hR
  obtain ⟨t, q, p, tr, g, hcg⟩ := hT.m
  have hW := hV.1.1
  obtain ⟨l9, hl9, hQ9⟩ := hV.ql
  obtain ⟨k8, hk8, hu8, hz8⟩ := hR.u8
  have hW2 := hV.1
  refine sL_law_2778 hΓ rfl ?_
  refine sL_law_2779 hΓ 0 0 (Nat.le_of_ble_eq_true rfl) hT.o (fun κ_2779 hΓ_2779 => tq_writeTrack hΓ_2779 hT hR (fun σ1 h1 f1 => ?_) )
  show AW G κ _ _ 2782 _ _ _
  have hS2 := hS.c2 (h1) f1
  have hM2 := hS2.2.1
  refine sL_law_2782 hΓ rfl ?_
  refine sL_law_2783 hΓ 0 0 (Nat.le_of_ble_eq_true rfl) hM2.choose_spec.1.o (fun κ_2783 hΓ_2783 => rp_writeTrack hΓ_2783 hM2 hW (fun σ2 h3 f3 => ?_) )
  show AW G κ _ _ 2786 _ _ _
  have hS3 := hS2.md h3 f3
  refine sL_law_2786 hΓ (fun _ => ?_) (fun c9 => absurd rfl c9)
  exact kk σ2 c _ _ _ _ _ _ _ (hS3.ls (fun hh => hh))
theorem op_saveSnapshot (hΓ : Ok G κ mL_law (d + 24) Q X) (hN : NcK κ) (hA : ArK G κ s0 n xs) (hn : n < 2 ^ 31) (hyi : yi = nI ii) (hb : ii + 6 ≤ n) (hS : LSt G σ c x am o A r z B f) (kk : ∀ (σ1 : Hp) (c1 : Nat → Nat) (z1 : Nat → Int32) (B1 : Nat → Nat → Int32) (f1 : Nat → Int64) (v5 v6 v7 v8 : Option LV), LSt G σ1 c1 x am o A r z1 B1 f1 → AW G κ cs ss 2959 [lR s0, lR x, lR am, lR o, lI yi, v5, v6, v7, v8] [] σ1) : AW G κ (cs + 40) (ss + 400) 2904 [lR s0, lR x, lR am, lR o, lI yi, w5, w6, w7, w8] [] σ := by
  refine aw_less (cs2 := cs + 7) (ss2 := ss + 96) (by omega) (by omega) ?_
  obtain ⟨hL, hM, hc, ho, hco⟩ := id hS
  obtain ⟨n0, s, C, n2, C2, Nh, Ch, u, b, l, cd, og, hs, out, ol, hT, hR⟩ := hL
  have hL : RLx G σ c x A am z B := ⟨n0, s, C, n2, C2, Nh, Ch, u, b, l, cd, og, hs, out, ol, hT, hR⟩
  obtain ⟨A', hMV, hB⟩ := id hM
  obtain ⟨⟨hV, hC⟩, -⟩ := id hR
  obtain ⟨t, q, p, tr, g, hcg⟩ := hT.m
  have hW := hV.1.1
  obtain ⟨l9, hl9, hQ9⟩ := hV.ql
  obtain ⟨k8, hk8, hu8, hz8⟩ := hR.u8
  have hW2 := hV.1
  refine sL_law_2904 hΓ rfl ?_
  refine sL_law_2905 hΓ 7 96 (Nat.le_of_ble_eq_true rfl) hT.o (fun κ_2905 hΓ_2905 => tq_saveSnapshot (cs := 0) (ss := 0) hΓ_2905 hT hR (fun σ1 c1 h1 f1 => ?_) )
  show AW G κ _ _ 2908 _ _ _
  have hS2 := hS.c2 (h1) f1
  have hM2 := hS2.2.1
  refine sL_law_2908 hΓ rfl ?_
  refine sL_law_2909 hΓ 0 0 (Nat.le_of_ble_eq_true rfl) hM2.choose_spec.1.o (fun κ_2909 hΓ_2909 => rp_saveSnapshot hΓ_2909 hM2 (fun σ2 h3 f3 => ?_) )
  show AW G κ _ _ 2912 _ _ _
  have hS3 := hS2.md h3 f3
  refine sL_law_2912 hΓ ?_
  exact kk σ2 c1 _ _ _ _ _ _ _ (hS3.ls (fun hh => hh))
end LawOpsD
