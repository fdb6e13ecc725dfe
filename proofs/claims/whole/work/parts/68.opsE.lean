/-! the law's calls: forecasts, addresses -/
section LawOpsE
variable {G : Gl} {κ : Kx} {d : Nat} {Q : Option Value → Hp → Prop} {X : String → Hp → Prop} {cs ss : Nat} {σ : Hp} {c A r : Nat → Nat} {s0 x am o n ii : Nat} {yi : Int32} {xs z : Nat → Int32} {B : Nat → Nat → Int32} {f : Nat → Int64} {w5 w6 w7 w8 : Option LV}
theorem and_t {a b : Bool} (h : (a && b) = true) : a = true ∧ b = true := by
  rw [Bool.and_eq_true] at h
  exact h
theorem op_sectionAfter (hΓ : Ok G κ mL_law (d + 24) Q X) (hN : NcK κ) (hA : ArK G κ s0 n xs) (hn : n < 2 ^ 31) (hyi : yi = nI ii) (hb : ii + 6 ≤ n) (hS : LSt G σ c x am o A r z B f) (kk : ∀ (σ1 : Hp) (c1 : Nat → Nat) (z1 : Nat → Int32) (B1 : Nat → Nat → Int32) (f1 : Nat → Int64) (v5 v6 v7 v8 : Option LV), LSt G σ1 c1 x am o A r z1 B1 f1 → AW G κ cs ss 2959 [lR s0, lR x, lR am, lR o, lI yi, v5, v6, v7, v8] [] σ1) : AW G κ (cs + 40) (ss + 400) 2080 [lR s0, lR x, lR am, lR o, lI yi, w5, w6, w7, w8] [] σ := by
  refine aw_less (cs2 := cs + 9) (ss2 := ss + 108) (by omega) (by omega) ?_
  obtain ⟨hL, hM, hc, ho, hco⟩ := id hS
  obtain ⟨n0, s, C, n2, C2, Nh, Ch, u, b, l, cd, og, hs, out, ol, hT, hR⟩ := hL
  have hL : RLx G σ c x A am z B := ⟨n0, s, C, n2, C2, Nh, Ch, u, b, l, cd, og, hs, out, ol, hT, hR⟩
  obtain ⟨A', hMV, hB⟩ := id hM
  obtain ⟨⟨hV, hC⟩, -⟩ := id hR
  obtain ⟨t, q, p, tr, g, hcg⟩ := hT.m
  have hW := hV.1.1
  obtain ⟨l9, hl9, hQ9⟩ := hV.ql
  obtain ⟨k8, hk8, hu8, hz8⟩ := hR.u8
  have hq6 : B 0 6 = nI (rQ (B 0)) := by rw [rQ_lt hQ9 hl9]; exact hQ9
  have hq12 : rQ (B 0) ≤ 12 := by rw [rQ_lt hQ9 hl9]; exact hl9
  refine sL_law_2080 hΓ rfl ?_
  refine sL_law_2081 hΓ rfl ?_
  refine sL_law_2082 hΓ rfl ?_
  refine sL_law_2084 hΓ ?_
  refine sL_law_2085 hΓ ?_
  refine sL_law_2086 hΓ hA (j := ii + 1) (show _ = nI (ii + 1) by rw [hyi]; exact nI_add ii 1) (by omega) hn ?_
  refine sL_law_2087 hΓ rfl ?_
  refine sL_law_2088 hΓ rfl ?_
  refine sL_law_2090 hΓ ?_
  refine sL_law_2091 hΓ ?_
  refine sL_law_2092 hΓ hA (j := ii + 2) (show _ = nI (ii + 2) by rw [hyi]; exact nI_add ii 2) (by omega) hn ?_
  refine sL_law_2093 hΓ rfl ?_
  refine sL_law_2094 hΓ hN 9 108 (Nat.le_of_ble_eq_true rfl) (fun κ2 hok hN2 => wL_sectionAfter (cs := 0) (ss := 0) (f := f) hok hN2 9 108 hT.o (fun v σ1 => ∃ c1, RLx G σ1 c1 x A am z B ∧ KF (NA am) σ c σ1 c1 ∧ v = (rAft (B 0) n0 s (xs (ii + 1)) (xs (ii + 2)) 3) ∧ (rIsT (B 0) (xs (ii + 1)) = true ∧ rIn (xs (ii + 2)) 0 200 = true)) (fun E σ1 => σ1 = σ ∧ ((E = "java/lang/IndexOutOfBoundsException" ∧ rIsT (B 0) (xs (ii + 1)) = false) ∨ (E = "java/lang/IllegalArgumentException" ∧ (rIsT (B 0) (xs (ii + 1)) = true ∧ rIn (xs (ii + 2)) 0 200 = false)))) (fun κ3 Q3 X3 hok3 hr ht => tq_sectionAfter (cs := 0) (ss := 0) hok3 hT hR (fun e => ht _ _ ⟨rfl, Or.inl ⟨rfl, e⟩⟩) (fun e1 e2 => ht _ _ ⟨rfl, Or.inr ⟨rfl, e1, e2⟩⟩) (fun ec σ1 c1 h1 f1 => hr _ _ ⟨c1, ⟨_, _, _, _, _, _, _, _, _, _, _, _, _, _, _, h1, hR⟩, f1, rfl, and_t ec⟩)) (fun v σ1 h9 => ?_) (fun E σ1 h9 => ?_))
  · obtain ⟨c1, hR1, fK, rfl, hH⟩ := h9
    have hS1 := hS.c2 hR1 fK
    refine ⟨hS1.2.2.2.1, ?_⟩
    show AW G κ _ _ 2097 _ _ _
    have hS2 := hS1.out (vp_updL f 0 ((rAft (B 0) n0 s (xs (ii + 1)) (xs (ii + 2)) 3)).toInt64)
    have hM2 := hS2.2.1
    refine sL_law_2097 hΓ ?_
    refine sL_law_2099 hΓ rfl ?_
    refine sL_law_2100 hΓ rfl ?_
    refine sL_law_2101 hΓ rfl ?_
    refine sL_law_2103 hΓ ?_
    refine sL_law_2104 hΓ ?_
    refine sL_law_2105 hΓ hA (j := ii + 1) (show _ = nI (ii + 1) by rw [hyi]; exact nI_add ii 1) (by omega) hn ?_
    refine sL_law_2106 hΓ rfl ?_
    refine sL_law_2107 hΓ rfl ?_
    refine sL_law_2109 hΓ ?_
    refine sL_law_2110 hΓ ?_
    refine sL_law_2111 hΓ hA (j := ii + 2) (show _ = nI (ii + 2) by rw [hyi]; exact nI_add ii 2) (by omega) hn ?_
    refine sL_law_2112 hΓ 0 0 (Nat.le_of_ble_eq_true rfl) hM2.choose_spec.1.o (fun κ_2112 hΓ_2112 => rp_sectionAfter hΓ_2112 hM2 hV.1 (fun σ2 h1 f2 => ?_) )
    show AW G κ _ _ 2115 _ _ _
    have hS3 := hS2.md h1 f2
    obtain ⟨A3, hMV3, hB3⟩ := id hS3.2.1
    obtain ⟨-, -, -, ho3, -⟩ := id hS3
    refine sL_law_2115 hΓ ?_
    refine sL_law_2117 hΓ rfl ?_
    refine sL_law_2118 hΓ 0 0 (Nat.le_of_ble_eq_true rfl) hMV3.o (fun κ_2118 hΓ_2118 => sp_thrown hΓ_2118 hMV3 ?_)
    show AW G κ _ _ 2121 _ _ _
    refine sL_law_2121 hΓ rfl ?_
    have z9 : (upd z 9 (rThr2 (rIsT (B 0) (xs (ii + 1))) (rIn (xs (ii + 2)) 0 200))) 9 = 0 := (by rw [hH.1, hH.2]; exact upd_same _ _ _)
    refine sL_law_2123 hΓ (fun _ => ?_) (fun c9 => absurd z9 c9)
    refine sL_law_2128 hΓ rfl ?_
    refine sL_law_2130 hΓ (fun c9 => absurd rfl c9) (fun _ => ?_)
    refine sL_law_2133 hΓ rfl ?_
    refine sL_law_2134 hΓ ?_
    refine sL_law_2135 hΓ ho3 (j := 0) rfl (by decide) (by decide) ?_
    refine sL_law_2136 hΓ rfl ?_
    refine sL_law_2138 hΓ ?_
    refine sL_law_2139 hΓ ?_
    rw [vl0, show (rAft (B 0) n0 s (xs (ii + 1)) (xs (ii + 2)) 3) = (rAft (B 0) n0 s (xs (ii + 1)) (xs (ii + 2)) 3) from rfl, lc0]
    refine sL_law_2140 hΓ (fun _ => ?_) (fun c9 => absurd rfl c9)
    refine sL_law_2145 hΓ ?_
    exact kk σ2 c1 _ _ _ _ _ _ _ (hS3.ls (fun hh => hh.zc zJ9))
  · obtain ⟨rfl, h9⟩ := h9
    rcases h9 with ⟨rfl, hH⟩ | ⟨rfl, hH⟩
    · refine (Or.inl ⟨rfl, ?_⟩)
      show AW G κ _ _ 2097 _ _ _
      have hS2 := hS.l2
      have hM2 := hS2.2.1
      refine sL_law_2097 hΓ ?_
      refine sL_law_2099 hΓ rfl ?_
      refine sL_law_2100 hΓ rfl ?_
      refine sL_law_2101 hΓ rfl ?_
      refine sL_law_2103 hΓ ?_
      refine sL_law_2104 hΓ ?_
      refine sL_law_2105 hΓ hA (j := ii + 1) (show _ = nI (ii + 1) by rw [hyi]; exact nI_add ii 1) (by omega) hn ?_
      refine sL_law_2106 hΓ rfl ?_
      refine sL_law_2107 hΓ rfl ?_
      refine sL_law_2109 hΓ ?_
      refine sL_law_2110 hΓ ?_
      refine sL_law_2111 hΓ hA (j := ii + 2) (show _ = nI (ii + 2) by rw [hyi]; exact nI_add ii 2) (by omega) hn ?_
      refine sL_law_2112 hΓ 0 0 (Nat.le_of_ble_eq_true rfl) hM2.choose_spec.1.o (fun κ_2112 hΓ_2112 => rp_sectionAfter hΓ_2112 hM2 hV.1 (fun σ2 h1 f2 => ?_) )
      show AW G κ _ _ 2115 _ _ _
      have hS3 := hS2.md h1 f2
      obtain ⟨A3, hMV3, hB3⟩ := id hS3.2.1
      obtain ⟨-, -, -, ho3, -⟩ := id hS3
      refine sL_law_2115 hΓ ?_
      refine sL_law_2117 hΓ rfl ?_
      refine sL_law_2118 hΓ 0 0 (Nat.le_of_ble_eq_true rfl) hMV3.o (fun κ_2118 hΓ_2118 => sp_thrown hΓ_2118 hMV3 ?_)
      show AW G κ _ _ 2121 _ _ _
      refine sL_law_2121 hΓ rfl ?_
      have z9 : (upd z 9 (rThr2 (rIsT (B 0) (xs (ii + 1))) (rIn (xs (ii + 2)) 0 200))) 9 = 1 := (by rw [hH]; exact upd_same _ _ _)
      refine sL_law_2123 hΓ (fun _ => ?_) (fun c9 => absurd z9 c9)
      refine sL_law_2128 hΓ rfl ?_
      refine sL_law_2130 hΓ (fun _ => ?_) (fun c9 => absurd c9 (by decide))
      refine sL_law_2145 hΓ ?_
      exact kk σ2 c _ _ _ _ _ _ _ (hS3.ls (fun hh => hh.zc zJ9))
    · refine (Or.inr ⟨rfl, ?_⟩)
      show AW G κ _ _ 2097 _ _ _
      have hS2 := hS.l2
      have hM2 := hS2.2.1
      refine sL_law_2097 hΓ ?_
      refine sL_law_2099 hΓ rfl ?_
      refine sL_law_2100 hΓ rfl ?_
      refine sL_law_2101 hΓ rfl ?_
      refine sL_law_2103 hΓ ?_
      refine sL_law_2104 hΓ ?_
      refine sL_law_2105 hΓ hA (j := ii + 1) (show _ = nI (ii + 1) by rw [hyi]; exact nI_add ii 1) (by omega) hn ?_
      refine sL_law_2106 hΓ rfl ?_
      refine sL_law_2107 hΓ rfl ?_
      refine sL_law_2109 hΓ ?_
      refine sL_law_2110 hΓ ?_
      refine sL_law_2111 hΓ hA (j := ii + 2) (show _ = nI (ii + 2) by rw [hyi]; exact nI_add ii 2) (by omega) hn ?_
      refine sL_law_2112 hΓ 0 0 (Nat.le_of_ble_eq_true rfl) hM2.choose_spec.1.o (fun κ_2112 hΓ_2112 => rp_sectionAfter hΓ_2112 hM2 hV.1 (fun σ2 h1 f2 => ?_) )
      show AW G κ _ _ 2115 _ _ _
      have hS3 := hS2.md h1 f2
      obtain ⟨A3, hMV3, hB3⟩ := id hS3.2.1
      obtain ⟨-, -, -, ho3, -⟩ := id hS3
      refine sL_law_2115 hΓ ?_
      refine sL_law_2117 hΓ rfl ?_
      refine sL_law_2118 hΓ 0 0 (Nat.le_of_ble_eq_true rfl) hMV3.o (fun κ_2118 hΓ_2118 => sp_thrown hΓ_2118 hMV3 ?_)
      show AW G κ _ _ 2121 _ _ _
      refine sL_law_2121 hΓ rfl ?_
      have z9 : (upd z 9 (rThr2 (rIsT (B 0) (xs (ii + 1))) (rIn (xs (ii + 2)) 0 200))) 9 = 2 := (by rw [hH.1, hH.2]; exact upd_same _ _ _)
      refine sL_law_2123 hΓ (fun _ => ?_) (fun c9 => absurd z9 c9)
      refine sL_law_2128 hΓ rfl ?_
      refine sL_law_2130 hΓ (fun _ => ?_) (fun c9 => absurd c9 (by decide))
      refine sL_law_2145 hΓ ?_
      exact kk σ2 c _ _ _ _ _ _ _ (hS3.ls (fun hh => hh.zc zJ9))
theorem op_speedAfter (hΓ : Ok G κ mL_law (d + 24) Q X) (hN : NcK κ) (hA : ArK G κ s0 n xs) (hn : n < 2 ^ 31) (hyi : yi = nI ii) (hb : ii + 6 ≤ n) (hS : LSt G σ c x am o A r z B f) (kk : ∀ (σ1 : Hp) (c1 : Nat → Nat) (z1 : Nat → Int32) (B1 : Nat → Nat → Int32) (f1 : Nat → Int64) (v5 v6 v7 v8 : Option LV), LSt G σ1 c1 x am o A r z1 B1 f1 → AW G κ cs ss 2959 [lR s0, lR x, lR am, lR o, lI yi, v5, v6, v7, v8] [] σ1) : AW G κ (cs + 40) (ss + 400) 2148 [lR s0, lR x, lR am, lR o, lI yi, w5, w6, w7, w8] [] σ := by
  refine aw_less (cs2 := cs + 9) (ss2 := ss + 108) (by omega) (by omega) ?_
  obtain ⟨hL, hM, hc, ho, hco⟩ := id hS
  obtain ⟨n0, s, C, n2, C2, Nh, Ch, u, b, l, cd, og, hs, out, ol, hT, hR⟩ := hL
  have hL : RLx G σ c x A am z B := ⟨n0, s, C, n2, C2, Nh, Ch, u, b, l, cd, og, hs, out, ol, hT, hR⟩
  obtain ⟨A', hMV, hB⟩ := id hM
  obtain ⟨⟨hV, hC⟩, -⟩ := id hR
  obtain ⟨t, q, p, tr, g, hcg⟩ := hT.m
  have hW := hV.1.1
  obtain ⟨l9, hl9, hQ9⟩ := hV.ql
  obtain ⟨k8, hk8, hu8, hz8⟩ := hR.u8
  have hq6 : B 0 6 = nI (rQ (B 0)) := by rw [rQ_lt hQ9 hl9]; exact hQ9
  have hq12 : rQ (B 0) ≤ 12 := by rw [rQ_lt hQ9 hl9]; exact hl9
  refine sL_law_2148 hΓ rfl ?_
  refine sL_law_2149 hΓ rfl ?_
  refine sL_law_2150 hΓ rfl ?_
  refine sL_law_2152 hΓ ?_
  refine sL_law_2153 hΓ ?_
  refine sL_law_2154 hΓ hA (j := ii + 1) (show _ = nI (ii + 1) by rw [hyi]; exact nI_add ii 1) (by omega) hn ?_
  refine sL_law_2155 hΓ rfl ?_
  refine sL_law_2156 hΓ rfl ?_
  refine sL_law_2158 hΓ ?_
  refine sL_law_2159 hΓ ?_
  refine sL_law_2160 hΓ hA (j := ii + 2) (show _ = nI (ii + 2) by rw [hyi]; exact nI_add ii 2) (by omega) hn ?_
  refine sL_law_2161 hΓ rfl ?_
  refine sL_law_2162 hΓ hN 9 108 (Nat.le_of_ble_eq_true rfl) (fun κ2 hok hN2 => wL_speedAfter (cs := 0) (ss := 0) (f := f) hok hN2 9 108 hT.o (fun v σ1 => ∃ c1, RLx G σ1 c1 x A am z B ∧ KF (NA am) σ c σ1 c1 ∧ v = (rAft (B 0) n0 s (xs (ii + 1)) (xs (ii + 2)) 5) ∧ (rIsT (B 0) (xs (ii + 1)) = true ∧ rIn (xs (ii + 2)) 0 200 = true)) (fun E σ1 => σ1 = σ ∧ ((E = "java/lang/IndexOutOfBoundsException" ∧ rIsT (B 0) (xs (ii + 1)) = false) ∨ (E = "java/lang/IllegalArgumentException" ∧ (rIsT (B 0) (xs (ii + 1)) = true ∧ rIn (xs (ii + 2)) 0 200 = false)))) (fun κ3 Q3 X3 hok3 hr ht => tq_speedAfter (cs := 0) (ss := 0) hok3 hT hR (fun e => ht _ _ ⟨rfl, Or.inl ⟨rfl, e⟩⟩) (fun e1 e2 => ht _ _ ⟨rfl, Or.inr ⟨rfl, e1, e2⟩⟩) (fun ec σ1 c1 h1 f1 => hr _ _ ⟨c1, ⟨_, _, _, _, _, _, _, _, _, _, _, _, _, _, _, h1, hR⟩, f1, rfl, and_t ec⟩)) (fun v σ1 h9 => ?_) (fun E σ1 h9 => ?_))
  · obtain ⟨c1, hR1, fK, rfl, hH⟩ := h9
    have hS1 := hS.c2 hR1 fK
    refine ⟨hS1.2.2.2.1, ?_⟩
    show AW G κ _ _ 2165 _ _ _
    have hS2 := hS1.out (vp_updL f 0 ((rAft (B 0) n0 s (xs (ii + 1)) (xs (ii + 2)) 5)).toInt64)
    have hM2 := hS2.2.1
    refine sL_law_2165 hΓ ?_
    refine sL_law_2167 hΓ rfl ?_
    refine sL_law_2168 hΓ rfl ?_
    refine sL_law_2169 hΓ rfl ?_
    refine sL_law_2171 hΓ ?_
    refine sL_law_2172 hΓ ?_
    refine sL_law_2173 hΓ hA (j := ii + 1) (show _ = nI (ii + 1) by rw [hyi]; exact nI_add ii 1) (by omega) hn ?_
    refine sL_law_2174 hΓ rfl ?_
    refine sL_law_2175 hΓ rfl ?_
    refine sL_law_2177 hΓ ?_
    refine sL_law_2178 hΓ ?_
    refine sL_law_2179 hΓ hA (j := ii + 2) (show _ = nI (ii + 2) by rw [hyi]; exact nI_add ii 2) (by omega) hn ?_
    refine sL_law_2180 hΓ 0 0 (Nat.le_of_ble_eq_true rfl) hM2.choose_spec.1.o (fun κ_2180 hΓ_2180 => rp_speedAfter hΓ_2180 hM2 hV.1 (fun σ2 h1 f2 => ?_) )
    show AW G κ _ _ 2183 _ _ _
    have hS3 := hS2.md h1 f2
    obtain ⟨A3, hMV3, hB3⟩ := id hS3.2.1
    obtain ⟨-, -, -, ho3, -⟩ := id hS3
    refine sL_law_2183 hΓ ?_
    refine sL_law_2185 hΓ rfl ?_
    refine sL_law_2186 hΓ 0 0 (Nat.le_of_ble_eq_true rfl) hMV3.o (fun κ_2186 hΓ_2186 => sp_thrown hΓ_2186 hMV3 ?_)
    show AW G κ _ _ 2189 _ _ _
    refine sL_law_2189 hΓ rfl ?_
    have z9 : (upd z 9 (rThr2 (rIsT (B 0) (xs (ii + 1))) (rIn (xs (ii + 2)) 0 200))) 9 = 0 := (by rw [hH.1, hH.2]; exact upd_same _ _ _)
    refine sL_law_2191 hΓ (fun _ => ?_) (fun c9 => absurd z9 c9)
    refine sL_law_2196 hΓ rfl ?_
    refine sL_law_2198 hΓ (fun c9 => absurd rfl c9) (fun _ => ?_)
    refine sL_law_2201 hΓ rfl ?_
    refine sL_law_2202 hΓ ?_
    refine sL_law_2203 hΓ ho3 (j := 0) rfl (by decide) (by decide) ?_
    refine sL_law_2204 hΓ rfl ?_
    refine sL_law_2206 hΓ ?_
    refine sL_law_2207 hΓ ?_
    rw [vl0, show (rAft (B 0) n0 s (xs (ii + 1)) (xs (ii + 2)) 5) = (rAft (B 0) n0 s (xs (ii + 1)) (xs (ii + 2)) 5) from rfl, lc0]
    refine sL_law_2208 hΓ (fun _ => ?_) (fun c9 => absurd rfl c9)
    refine sL_law_2213 hΓ ?_
    exact kk σ2 c1 _ _ _ _ _ _ _ (hS3.ls (fun hh => hh.zc zJ9))
  · obtain ⟨rfl, h9⟩ := h9
    rcases h9 with ⟨rfl, hH⟩ | ⟨rfl, hH⟩
    · refine (Or.inl ⟨rfl, ?_⟩)
      show AW G κ _ _ 2165 _ _ _
      have hS2 := hS.l2
      have hM2 := hS2.2.1
      refine sL_law_2165 hΓ ?_
      refine sL_law_2167 hΓ rfl ?_
      refine sL_law_2168 hΓ rfl ?_
      refine sL_law_2169 hΓ rfl ?_
      refine sL_law_2171 hΓ ?_
      refine sL_law_2172 hΓ ?_
      refine sL_law_2173 hΓ hA (j := ii + 1) (show _ = nI (ii + 1) by rw [hyi]; exact nI_add ii 1) (by omega) hn ?_
      refine sL_law_2174 hΓ rfl ?_
      refine sL_law_2175 hΓ rfl ?_
      refine sL_law_2177 hΓ ?_
      refine sL_law_2178 hΓ ?_
      refine sL_law_2179 hΓ hA (j := ii + 2) (show _ = nI (ii + 2) by rw [hyi]; exact nI_add ii 2) (by omega) hn ?_
      refine sL_law_2180 hΓ 0 0 (Nat.le_of_ble_eq_true rfl) hM2.choose_spec.1.o (fun κ_2180 hΓ_2180 => rp_speedAfter hΓ_2180 hM2 hV.1 (fun σ2 h1 f2 => ?_) )
      show AW G κ _ _ 2183 _ _ _
      have hS3 := hS2.md h1 f2
      obtain ⟨A3, hMV3, hB3⟩ := id hS3.2.1
      obtain ⟨-, -, -, ho3, -⟩ := id hS3
      refine sL_law_2183 hΓ ?_
      refine sL_law_2185 hΓ rfl ?_
      refine sL_law_2186 hΓ 0 0 (Nat.le_of_ble_eq_true rfl) hMV3.o (fun κ_2186 hΓ_2186 => sp_thrown hΓ_2186 hMV3 ?_)
      show AW G κ _ _ 2189 _ _ _
      refine sL_law_2189 hΓ rfl ?_
      have z9 : (upd z 9 (rThr2 (rIsT (B 0) (xs (ii + 1))) (rIn (xs (ii + 2)) 0 200))) 9 = 1 := (by rw [hH]; exact upd_same _ _ _)
      refine sL_law_2191 hΓ (fun _ => ?_) (fun c9 => absurd z9 c9)
      refine sL_law_2196 hΓ rfl ?_
      refine sL_law_2198 hΓ (fun _ => ?_) (fun c9 => absurd c9 (by decide))
      refine sL_law_2213 hΓ ?_
      exact kk σ2 c _ _ _ _ _ _ _ (hS3.ls (fun hh => hh.zc zJ9))
    · refine (Or.inr ⟨rfl, ?_⟩)
      show AW G κ _ _ 2165 _ _ _
      have hS2 := hS.l2
      have hM2 := hS2.2.1
      refine sL_law_2165 hΓ ?_
      refine sL_law_2167 hΓ rfl ?_
      refine sL_law_2168 hΓ rfl ?_
      refine sL_law_2169 hΓ rfl ?_
      refine sL_law_2171 hΓ ?_
      refine sL_law_2172 hΓ ?_
      refine sL_law_2173 hΓ hA (j := ii + 1) (show _ = nI (ii + 1) by rw [hyi]; exact nI_add ii 1) (by omega) hn ?_
      refine sL_law_2174 hΓ rfl ?_
      refine sL_law_2175 hΓ rfl ?_
      refine sL_law_2177 hΓ ?_
      refine sL_law_2178 hΓ ?_
      refine sL_law_2179 hΓ hA (j := ii + 2) (show _ = nI (ii + 2) by rw [hyi]; exact nI_add ii 2) (by omega) hn ?_
      refine sL_law_2180 hΓ 0 0 (Nat.le_of_ble_eq_true rfl) hM2.choose_spec.1.o (fun κ_2180 hΓ_2180 => rp_speedAfter hΓ_2180 hM2 hV.1 (fun σ2 h1 f2 => ?_) )
      show AW G κ _ _ 2183 _ _ _
      have hS3 := hS2.md h1 f2
      obtain ⟨A3, hMV3, hB3⟩ := id hS3.2.1
      obtain ⟨-, -, -, ho3, -⟩ := id hS3
      refine sL_law_2183 hΓ ?_
      refine sL_law_2185 hΓ rfl ?_
      refine sL_law_2186 hΓ 0 0 (Nat.le_of_ble_eq_true rfl) hMV3.o (fun κ_2186 hΓ_2186 => sp_thrown hΓ_2186 hMV3 ?_)
      show AW G κ _ _ 2189 _ _ _
      refine sL_law_2189 hΓ rfl ?_
      have z9 : (upd z 9 (rThr2 (rIsT (B 0) (xs (ii + 1))) (rIn (xs (ii + 2)) 0 200))) 9 = 2 := (by rw [hH.1, hH.2]; exact upd_same _ _ _)
      refine sL_law_2191 hΓ (fun _ => ?_) (fun c9 => absurd z9 c9)
      refine sL_law_2196 hΓ rfl ?_
      refine sL_law_2198 hΓ (fun _ => ?_) (fun c9 => absurd c9 (by decide))
      refine sL_law_2213 hΓ ?_
      exact kk σ2 c _ _ _ _ _ _ _ (hS3.ls (fun hh => hh.zc zJ9))
theorem op_readdress (hΓ : Ok G κ mL_law (d + 24) Q X) (hN : NcK κ) (hA : ArK G κ s0 n xs) (hn : n < 2 ^ 31) (hyi : yi = nI ii) (hb : ii + 6 ≤ n) (hS : LSt G σ c x am o A r z B f) (kk : ∀ (σ1 : Hp) (c1 : Nat → Nat) (z1 : Nat → Int32) (B1 : Nat → Nat → Int32) (f1 : Nat → Int64) (v5 v6 v7 v8 : Option LV), LSt G σ1 c1 x am o A r z1 B1 f1 → AW G κ cs ss 2959 [lR s0, lR x, lR am, lR o, lI yi, v5, v6, v7, v8] [] σ1) : AW G κ (cs + 40) (ss + 400) 2598 [lR s0, lR x, lR am, lR o, lI yi, w5, w6, w7, w8] [] σ := by
  refine aw_less (cs2 := cs + 10) (ss2 := ss + 114) (by omega) (by omega) ?_
  obtain ⟨hL, hM, hc, ho, hco⟩ := id hS
  obtain ⟨n0, s, C, n2, C2, Nh, Ch, u, b, l, cd, og, hs, out, ol, hT, hR⟩ := hL
  have hL : RLx G σ c x A am z B := ⟨n0, s, C, n2, C2, Nh, Ch, u, b, l, cd, og, hs, out, ol, hT, hR⟩
  obtain ⟨A', hMV, hB⟩ := id hM
  obtain ⟨⟨hV, hC⟩, -⟩ := id hR
  obtain ⟨t, q, p, tr, g, hcg⟩ := hT.m
  have hW := hV.1.1
  obtain ⟨l9, hl9, hQ9⟩ := hV.ql
  obtain ⟨k8, hk8, hu8, hz8⟩ := hR.u8
  have hq6 : B 0 6 = nI (rQ (B 0)) := by rw [rQ_lt hQ9 hl9]; exact hQ9
  have hq12 : rQ (B 0) ≤ 12 := by rw [rQ_lt hQ9 hl9]; exact hl9
  refine sL_law_2598 hΓ rfl ?_
  refine sL_law_2599 hΓ rfl ?_
  refine sL_law_2600 hΓ rfl ?_
  refine sL_law_2602 hΓ ?_
  refine sL_law_2603 hΓ ?_
  refine sL_law_2604 hΓ hA (j := ii + 1) (show _ = nI (ii + 1) by rw [hyi]; exact nI_add ii 1) (by omega) hn ?_
  refine sL_law_2605 hΓ rfl ?_
  refine sL_law_2606 hΓ rfl ?_
  refine sL_law_2608 hΓ ?_
  refine sL_law_2609 hΓ ?_
  refine sL_law_2610 hΓ hA (j := ii + 2) (show _ = nI (ii + 2) by rw [hyi]; exact nI_add ii 2) (by omega) hn ?_
  refine sL_law_2611 hΓ rfl ?_
  refine sL_law_2612 hΓ hN 10 114 (Nat.le_of_ble_eq_true rfl) (fun κ2 hok hN2 => wL_readdress (cs := 0) (ss := 0) (f := f) hok hN2 10 114 hT.o (fun v σ1 => ∃ c1, RLx G σ1 c1 x A am (fZ (oRead (upd z 9 0) (B 0) n0 (xs (ii + 1)) (xs (ii + 2))) k8) (fB B (oRead (upd z 9 0) (B 0) n0 (xs (ii + 1)) (xs (ii + 2))) k8) ∧ KF (NA am) σ c σ1 c1 ∧ v = ((oRead (upd z 9 0) (B 0) n0 (xs (ii + 1)) (xs (ii + 2))).2.1 11) ∧ (rIsT (B 0) (xs (ii + 1)) = true ∧ rIn (xs (ii + 2)) 1 127 = true ∧ (oRead (upd z 9 0) (B 0) n0 (xs (ii + 1)) (xs (ii + 2))).1 = 0)) (fun E σ1 => σ1 = σ ∧ ((E = "java/lang/IndexOutOfBoundsException" ∧ rIsT (B 0) (xs (ii + 1)) = false) ∨ (E = "java/lang/IllegalArgumentException" ∧ (rIsT (B 0) (xs (ii + 1)) = true ∧ rIn (xs (ii + 2)) 1 127 = false)) ∨ (E = "java/lang/IllegalStateException" ∧ (rIsT (B 0) (xs (ii + 1)) = true ∧ rIn (xs (ii + 2)) 1 127 = true ∧ ¬ (oRead (upd z 9 0) (B 0) n0 (xs (ii + 1)) (xs (ii + 2))).1 = 0)))) (fun κ3 Q3 X3 hok3 hr ht => tq_readdress (cs := 0) (ss := 0) hok3 hT hR hk8 hu8 hz8 (fun e => ht _ _ ⟨rfl, Or.inl ⟨rfl, e⟩⟩) (fun e1 e2 => ht _ _ ⟨rfl, Or.inr (Or.inl ⟨rfl, e1, e2⟩)⟩) (fun ec e0 => ht _ _ ⟨rfl, Or.inr (Or.inr ⟨rfl, (and_t ec).1, (and_t ec).2, e0⟩)⟩) (fun ec e0 σ1 c1 h1 f1 => hr _ _ ⟨c1, h1, f1, rfl, (and_t ec).1, (and_t ec).2, e0⟩)) (fun v σ1 h9 => ?_) (fun E σ1 h9 => ?_))
  · obtain ⟨c1, hR1, fK, rfl, hH⟩ := h9
    have hS1 := hS.c2 hR1 fK
    refine ⟨hS1.2.2.2.1, ?_⟩
    show AW G κ _ _ 2615 _ _ _
    have hS2 := hS1.out (vp_updL f 0 (((oRead (upd z 9 0) (B 0) n0 (xs (ii + 1)) (xs (ii + 2))).2.1 11)).toInt64)
    have hM2 := hS2.2.1
    refine sL_law_2615 hΓ ?_
    refine sL_law_2617 hΓ rfl ?_
    refine sL_law_2618 hΓ rfl ?_
    refine sL_law_2619 hΓ rfl ?_
    refine sL_law_2621 hΓ ?_
    refine sL_law_2622 hΓ ?_
    refine sL_law_2623 hΓ hA (j := ii + 1) (show _ = nI (ii + 1) by rw [hyi]; exact nI_add ii 1) (by omega) hn ?_
    refine sL_law_2624 hΓ rfl ?_
    refine sL_law_2625 hΓ rfl ?_
    refine sL_law_2627 hΓ ?_
    refine sL_law_2628 hΓ ?_
    refine sL_law_2629 hΓ hA (j := ii + 2) (show _ = nI (ii + 2) by rw [hyi]; exact nI_add ii 2) (by omega) hn ?_
    refine sL_law_2630 hΓ 0 0 (Nat.le_of_ble_eq_true rfl) hM2.choose_spec.1.o (fun κ_2630 hΓ_2630 => rp_readdress hΓ_2630 hM2 hW hz8 hk8 (fun σ2 h1 f2 => ?_) )
    show AW G κ _ _ 2633 _ _ _
    have hS3 := hS2.md h1 f2
    obtain ⟨A3, hMV3, hB3⟩ := id hS3.2.1
    obtain ⟨-, -, -, ho3, -⟩ := id hS3
    refine sL_law_2633 hΓ ?_
    refine sL_law_2635 hΓ rfl ?_
    refine sL_law_2636 hΓ 0 0 (Nat.le_of_ble_eq_true rfl) hMV3.o (fun κ_2636 hΓ_2636 => sp_thrown hΓ_2636 hMV3 ?_)
    show AW G κ _ _ 2639 _ _ _
    refine sL_law_2639 hΓ rfl ?_
    have z9 : (gZ2 (rIsT (B 0) (xs (ii + 1))) (rIn (xs (ii + 2)) 1 127) z (oRead (upd z 9 0) (B 0) n0 (xs (ii + 1)) (xs (ii + 2))) k8) 9 = 0 := (by unfold gZ2 fZ; rw [if_pos (show (rIsT (B 0) (xs (ii + 1)) && rIn (xs (ii + 2)) 1 127) = true by rw [hH.1, hH.2.1]; rfl), if_pos hH.2.2, upd_ne (by decide), upd_same])
    refine sL_law_2641 hΓ (fun _ => ?_) (fun c9 => absurd z9 c9)
    refine sL_law_2646 hΓ rfl ?_
    refine sL_law_2648 hΓ (fun c9 => absurd rfl c9) (fun _ => ?_)
    refine sL_law_2651 hΓ rfl ?_
    refine sL_law_2652 hΓ ?_
    refine sL_law_2653 hΓ ho3 (j := 0) rfl (by decide) (by decide) ?_
    refine sL_law_2654 hΓ rfl ?_
    refine sL_law_2656 hΓ ?_
    refine sL_law_2657 hΓ ?_
    rw [vl0, show (gV' (rIsT (B 0) (xs (ii + 1)) && rIn (xs (ii + 2)) 1 127) (oRead (upd z 9 0) (B 0) n0 (xs (ii + 1)) (xs (ii + 2)))) = ((oRead (upd z 9 0) (B 0) n0 (xs (ii + 1)) (xs (ii + 2))).2.1 11) from (by unfold gV' fV; rw [if_pos (show (rIsT (B 0) (xs (ii + 1)) && rIn (xs (ii + 2)) 1 127) = true by rw [hH.1, hH.2.1]; rfl), if_pos hH.2.2]), lc0]
    refine sL_law_2658 hΓ (fun _ => ?_) (fun c9 => absurd rfl c9)
    refine sL_law_2663 hΓ ?_
    exact kk σ2 c1 _ _ _ _ _ _ _ (hS3.ls (fun hh => (by unfold gZ2 gB'; rw [if_pos (show (rIsT (B 0) (xs (ii + 1)) && rIn (xs (ii + 2)) 1 127) = true by rw [hH.1, hH.2.1]; rfl), if_pos (show (rIsT (B 0) (xs (ii + 1)) && rIn (xs (ii + 2)) 1 127) = true by rw [hH.1, hH.2.1]; rfl)]; exact hh)))
  · obtain ⟨rfl, h9⟩ := h9
    rcases h9 with ⟨rfl, hH⟩ | ⟨rfl, hH⟩ | ⟨rfl, hH⟩
    · refine (Or.inl ⟨rfl, ?_⟩)
      show AW G κ _ _ 2615 _ _ _
      have hS2 := hS.l2
      have hM2 := hS2.2.1
      refine sL_law_2615 hΓ ?_
      refine sL_law_2617 hΓ rfl ?_
      refine sL_law_2618 hΓ rfl ?_
      refine sL_law_2619 hΓ rfl ?_
      refine sL_law_2621 hΓ ?_
      refine sL_law_2622 hΓ ?_
      refine sL_law_2623 hΓ hA (j := ii + 1) (show _ = nI (ii + 1) by rw [hyi]; exact nI_add ii 1) (by omega) hn ?_
      refine sL_law_2624 hΓ rfl ?_
      refine sL_law_2625 hΓ rfl ?_
      refine sL_law_2627 hΓ ?_
      refine sL_law_2628 hΓ ?_
      refine sL_law_2629 hΓ hA (j := ii + 2) (show _ = nI (ii + 2) by rw [hyi]; exact nI_add ii 2) (by omega) hn ?_
      refine sL_law_2630 hΓ 0 0 (Nat.le_of_ble_eq_true rfl) hM2.choose_spec.1.o (fun κ_2630 hΓ_2630 => rp_readdress hΓ_2630 hM2 hW hz8 hk8 (fun σ2 h1 f2 => ?_) )
      show AW G κ _ _ 2633 _ _ _
      have hS3 := hS2.md h1 f2
      obtain ⟨A3, hMV3, hB3⟩ := id hS3.2.1
      obtain ⟨-, -, -, ho3, -⟩ := id hS3
      refine sL_law_2633 hΓ ?_
      refine sL_law_2635 hΓ rfl ?_
      refine sL_law_2636 hΓ 0 0 (Nat.le_of_ble_eq_true rfl) hMV3.o (fun κ_2636 hΓ_2636 => sp_thrown hΓ_2636 hMV3 ?_)
      show AW G κ _ _ 2639 _ _ _
      refine sL_law_2639 hΓ rfl ?_
      have z9 : (gZ2 (rIsT (B 0) (xs (ii + 1))) (rIn (xs (ii + 2)) 1 127) z (oRead (upd z 9 0) (B 0) n0 (xs (ii + 1)) (xs (ii + 2))) k8) 9 = 1 := (by unfold gZ2; rw [if_neg (show ¬ (rIsT (B 0) (xs (ii + 1)) && rIn (xs (ii + 2)) 1 127) = true by rw [hH]; exact fun e => Bool.noConfusion e), hH]; exact upd_same _ _ _)
      refine sL_law_2641 hΓ (fun _ => ?_) (fun c9 => absurd z9 c9)
      refine sL_law_2646 hΓ rfl ?_
      refine sL_law_2648 hΓ (fun _ => ?_) (fun c9 => absurd c9 (by decide))
      refine sL_law_2663 hΓ ?_
      exact kk σ2 c _ _ _ _ _ _ _ (hS3.ls (fun hh => (by unfold gZ2 gB'; rw [if_neg (show ¬ (rIsT (B 0) (xs (ii + 1)) && rIn (xs (ii + 2)) 1 127) = true by rw [hH]; exact fun e => Bool.noConfusion e), if_neg (show ¬ (rIsT (B 0) (xs (ii + 1)) && rIn (xs (ii + 2)) 1 127) = true by rw [hH]; exact fun e => Bool.noConfusion e)]; exact hh.zc zJ9)))
    · refine (Or.inr (Or.inl ⟨rfl, ?_⟩))
      show AW G κ _ _ 2615 _ _ _
      have hS2 := hS.l2
      have hM2 := hS2.2.1
      refine sL_law_2615 hΓ ?_
      refine sL_law_2617 hΓ rfl ?_
      refine sL_law_2618 hΓ rfl ?_
      refine sL_law_2619 hΓ rfl ?_
      refine sL_law_2621 hΓ ?_
      refine sL_law_2622 hΓ ?_
      refine sL_law_2623 hΓ hA (j := ii + 1) (show _ = nI (ii + 1) by rw [hyi]; exact nI_add ii 1) (by omega) hn ?_
      refine sL_law_2624 hΓ rfl ?_
      refine sL_law_2625 hΓ rfl ?_
      refine sL_law_2627 hΓ ?_
      refine sL_law_2628 hΓ ?_
      refine sL_law_2629 hΓ hA (j := ii + 2) (show _ = nI (ii + 2) by rw [hyi]; exact nI_add ii 2) (by omega) hn ?_
      refine sL_law_2630 hΓ 0 0 (Nat.le_of_ble_eq_true rfl) hM2.choose_spec.1.o (fun κ_2630 hΓ_2630 => rp_readdress hΓ_2630 hM2 hW hz8 hk8 (fun σ2 h1 f2 => ?_) )
      show AW G κ _ _ 2633 _ _ _
      have hS3 := hS2.md h1 f2
      obtain ⟨A3, hMV3, hB3⟩ := id hS3.2.1
      obtain ⟨-, -, -, ho3, -⟩ := id hS3
      refine sL_law_2633 hΓ ?_
      refine sL_law_2635 hΓ rfl ?_
      refine sL_law_2636 hΓ 0 0 (Nat.le_of_ble_eq_true rfl) hMV3.o (fun κ_2636 hΓ_2636 => sp_thrown hΓ_2636 hMV3 ?_)
      show AW G κ _ _ 2639 _ _ _
      refine sL_law_2639 hΓ rfl ?_
      have z9 : (gZ2 (rIsT (B 0) (xs (ii + 1))) (rIn (xs (ii + 2)) 1 127) z (oRead (upd z 9 0) (B 0) n0 (xs (ii + 1)) (xs (ii + 2))) k8) 9 = 2 := (by unfold gZ2; rw [if_neg (show ¬ (rIsT (B 0) (xs (ii + 1)) && rIn (xs (ii + 2)) 1 127) = true by rw [hH.1, hH.2]; exact fun e => Bool.noConfusion e), hH.1, hH.2]; exact upd_same _ _ _)
      refine sL_law_2641 hΓ (fun _ => ?_) (fun c9 => absurd z9 c9)
      refine sL_law_2646 hΓ rfl ?_
      refine sL_law_2648 hΓ (fun _ => ?_) (fun c9 => absurd c9 (by decide))
      refine sL_law_2663 hΓ ?_
      exact kk σ2 c _ _ _ _ _ _ _ (hS3.ls (fun hh => (by unfold gZ2 gB'; rw [if_neg (show ¬ (rIsT (B 0) (xs (ii + 1)) && rIn (xs (ii + 2)) 1 127) = true by rw [hH.1, hH.2]; exact fun e => Bool.noConfusion e), if_neg (show ¬ (rIsT (B 0) (xs (ii + 1)) && rIn (xs (ii + 2)) 1 127) = true by rw [hH.1, hH.2]; exact fun e => Bool.noConfusion e)]; exact hh.zc zJ9)))
    · refine (Or.inr (Or.inr ⟨rfl, ?_⟩))
      show AW G κ _ _ 2615 _ _ _
      have hS2 := hS.l2
      have hM2 := hS2.2.1
      refine sL_law_2615 hΓ ?_
      refine sL_law_2617 hΓ rfl ?_
      refine sL_law_2618 hΓ rfl ?_
      refine sL_law_2619 hΓ rfl ?_
      refine sL_law_2621 hΓ ?_
      refine sL_law_2622 hΓ ?_
      refine sL_law_2623 hΓ hA (j := ii + 1) (show _ = nI (ii + 1) by rw [hyi]; exact nI_add ii 1) (by omega) hn ?_
      refine sL_law_2624 hΓ rfl ?_
      refine sL_law_2625 hΓ rfl ?_
      refine sL_law_2627 hΓ ?_
      refine sL_law_2628 hΓ ?_
      refine sL_law_2629 hΓ hA (j := ii + 2) (show _ = nI (ii + 2) by rw [hyi]; exact nI_add ii 2) (by omega) hn ?_
      refine sL_law_2630 hΓ 0 0 (Nat.le_of_ble_eq_true rfl) hM2.choose_spec.1.o (fun κ_2630 hΓ_2630 => rp_readdress hΓ_2630 hM2 hW hz8 hk8 (fun σ2 h1 f2 => ?_) )
      show AW G κ _ _ 2633 _ _ _
      have hS3 := hS2.md h1 f2
      obtain ⟨A3, hMV3, hB3⟩ := id hS3.2.1
      obtain ⟨-, -, -, ho3, -⟩ := id hS3
      refine sL_law_2633 hΓ ?_
      refine sL_law_2635 hΓ rfl ?_
      refine sL_law_2636 hΓ 0 0 (Nat.le_of_ble_eq_true rfl) hMV3.o (fun κ_2636 hΓ_2636 => sp_thrown hΓ_2636 hMV3 ?_)
      show AW G κ _ _ 2639 _ _ _
      refine sL_law_2639 hΓ rfl ?_
      have z9 : (gZ2 (rIsT (B 0) (xs (ii + 1))) (rIn (xs (ii + 2)) 1 127) z (oRead (upd z 9 0) (B 0) n0 (xs (ii + 1)) (xs (ii + 2))) k8) 9 = 3 := (by unfold gZ2 fZ; rw [if_pos (show (rIsT (B 0) (xs (ii + 1)) && rIn (xs (ii + 2)) 1 127) = true by rw [hH.1, hH.2.1]; rfl), if_neg hH.2.2, oRead_no hH.2.2]; exact upd_same _ _ _)
      refine sL_law_2641 hΓ (fun _ => ?_) (fun c9 => absurd z9 c9)
      refine sL_law_2646 hΓ rfl ?_
      refine sL_law_2648 hΓ (fun _ => ?_) (fun c9 => absurd c9 (by decide))
      refine sL_law_2663 hΓ ?_
      exact kk σ2 c _ _ _ _ _ _ _ (hS3.ls (fun hh => (by unfold gZ2 gB' fZ fB; rw [if_pos (show (rIsT (B 0) (xs (ii + 1)) && rIn (xs (ii + 2)) 1 127) = true by rw [hH.1, hH.2.1]; rfl), if_pos (show (rIsT (B 0) (xs (ii + 1)) && rIn (xs (ii + 2)) 1 127) = true by rw [hH.1, hH.2.1]; rfl), if_neg hH.2.2, if_neg hH.2.2, oRead_no hH.2.2]; exact (show updA B 0 (B 0) = B from updA_id B 0).symm ▸ hh.zc (fun j hj => (zJ9 j hj).trans (zJ9 j hj)))))
end LawOpsE
