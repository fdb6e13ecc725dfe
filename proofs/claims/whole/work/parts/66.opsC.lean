/-! the law's calls: changes -/
section LawState2
variable {G : Gl} {σ σ1 : Hp} {c c1 A r : Nat → Nat} {x am o : Nat} {zc z z1 : Nat → Int32} {Bc B B1 : Nat → Nat → Int32} {f : Nat → Int64}
/-- the class has gone on, the reference not yet -/
def LS2 (G : Gl) (σ : Hp) (c : Nat → Nat) (x am o : Nat) (A r : Nat → Nat) (zc : Nat → Int32) (Bc : Nat → Nat → Int32) (z : Nat → Int32) (B : Nat → Nat → Int32) (f : Nat → Int64) : Prop :=
  RLx G σ c x A am zc Bc ∧ MP G σ am r z B ∧ (c am = am ∧ ∀ k, (mArr k ∨ k = 26) → c (r k) = am) ∧ σ o = some (eL G 1 f) ∧ c o = am
theorem LSt.c2 (hS : LSt G σ c x am o A r z B f) (hR : RLx G σ1 c1 x A am zc Bc) (f1 : KF (NA am) σ c σ1 c1) : LS2 G σ1 c1 x am o A r zc Bc z B f := ⟨hR, hS.cls hR f1⟩
theorem LSt.l2 (hS : LSt G σ c x am o A r z B f) : LS2 G σ c x am o A r z B z B f := hS
theorem LS2.md (hS : LS2 G σ c x am o A r zc Bc z B f) (hM : MP G σ1 am r z1 B1) (fM : MF am r σ σ1) : LS2 G σ1 c x am o A r zc Bc z1 B1 f := by
  obtain ⟨h1, h2, h3, h4, h5⟩ := hS
  refine ⟨h1.keep (fM.kf h3 hM), hM, h3, ?_, h5⟩
  rw [fM o (fun e => by obtain ⟨vs, hv⟩ := h2.ob; rw [e, hv] at h4; cases h4) (fun k hk e => by obtain ⟨n, g, h6⟩ := h2.ex.2 k hk; exact eL_ne h4 h6 e)]
  exact h4
theorem LS2.out (hS : LS2 G σ c x am o A r zc Bc z B f) (f' : Nat → Int64) : LS2 G (hset σ o (eL G 1 f')) c x am o A r zc Bc z B f' := by
  obtain ⟨h1, h2, h3, h4, h5⟩ := hS
  have g : KF (fun y => y = am) σ c (hset σ o (eL G 1 f')) c := KF.set h4 h5
  refine ⟨h1.keep g, ?_, h3, hset_same _ _ _, h5⟩
  obtain ⟨A', ⟨m1, m2, m3, ⟨gg, m4, m5⟩, m6⟩, m7⟩ := h2
  have no : ∀ y e, σ y = some e → (∀ ff, e ≠ eL G 1 ff) → hset σ o (eL G 1 f') y = some e := fun y e hy hne => by
    rw [hset_ne (fun e9 => by rw [e9, h4] at hy; exact hne f (Option.some.inj hy).symm)]
    exact hy
  refine ⟨A', ⟨no _ _ m1 (fun ff e => by cases e), m2, fun k hk => no _ _ (m3 k hk) (fun ff e => ?_), ⟨gg, no _ _ m4 (fun ff e => ?_), m5⟩, m6⟩, m7⟩
  · have h3 := congrArg isLa e
    exact Bool.noConfusion (show false = true from h3)
  · have h3 := congrArg isLa e
    exact Bool.noConfusion (show false = true from h3)
theorem LS2.ls (hS : LS2 G σ c x am o A r zc Bc z B f) (hc : RLx G σ c x A am zc Bc → RLx G σ c x A am z B) : LSt G σ c x am o A r z B f := ⟨hc hS.1, hS.2⟩
end LawState2
theorem oPut_no {z ρ : Nat → Int32} {p : Nat} {v w k : Int32} (h : ¬ (oPut z ρ p v w k).1 = 0) : oPut z ρ p v w k = (2, z, ρ) := by
  unfold oPut at h ⊢
  by_cases e : ρ 6 = 12
  · exact if_pos e
  · rw [if_neg e] at h; exact absurd rfl h
theorem oWait_no {z ρ : Nat → Int32} {n s : Nat} {v : Int32} (h : ¬ (oWait n s z ρ v).1 = 0) : oWait n s z ρ v = (2, z, ρ) := by
  unfold oWait at h ⊢
  by_cases e : 10000 < ρ 0 + v
  · exact if_pos e
  · rw [if_neg e] at h; exact absurd rfl h
theorem oRead_no {z ρ : Nat → Int32} {n : Nat} {v w : Int32} (h : ¬ (oRead z ρ n v w).1 = 0) : oRead z ρ n v w = (3, z, ρ) := by
  unfold oRead at h ⊢
  by_cases e : ρ (58 + 15 * v.toNatClampNeg + 5) = 0 ∧ rFirst ρ n 0 w = none
  · rw [if_pos e] at h; exact absurd rfl h
  · exact if_neg e
section LawOpsC
variable {G : Gl} {κ : Kx} {d : Nat} {Q : Option Value → Hp → Prop} {X : String → Hp → Prop} {cs ss : Nat} {σ : Hp} {c A r : Nat → Nat} {s0 x am o n ii : Nat} {yi : Int32} {xs z : Nat → Int32} {B : Nat → Nat → Int32} {f : Nat → Int64} {w5 w6 w7 w8 : Option LV}
theorem op_sendPacket (hΓ : Ok G κ mL_law (d + 24) Q X) (hN : NcK κ) (hA : ArK G κ s0 n xs) (hn : n < 2 ^ 31) (hyi : yi = nI ii) (hb : ii + 6 ≤ n) (hS : LSt G σ c x am o A r z B f) (kk : ∀ (σ1 : Hp) (c1 : Nat → Nat) (z1 : Nat → Int32) (B1 : Nat → Nat → Int32) (f1 : Nat → Int64) (v5 v6 v7 v8 : Option LV), LSt G σ1 c1 x am o A r z1 B1 f1 → AW G κ cs ss 2959 [lR s0, lR x, lR am, lR o, lI yi, v5, v6, v7, v8] [] σ1) : AW G κ (cs + 40) (ss + 400) 2229 [lR s0, lR x, lR am, lR o, lI yi, w5, w6, w7, w8] [] σ := by
  refine aw_less (cs2 := cs + 11) (ss2 := ss + 120) (by omega) (by omega) ?_
  obtain ⟨hL, hM, hc, ho, hco⟩ := id hS
  obtain ⟨n0, s, C, n2, C2, Nh, Ch, u, b, l, cd, og, hs, out, ol, hT, hR⟩ := hL
  have hL : RLx G σ c x A am z B := ⟨n0, s, C, n2, C2, Nh, Ch, u, b, l, cd, og, hs, out, ol, hT, hR⟩
  obtain ⟨A', hMV, hB⟩ := id hM
  obtain ⟨⟨hV, hC⟩, -⟩ := id hR
  obtain ⟨t, q, p, tr, g, hcg⟩ := hT.m
  have hW := hV.1.1
  obtain ⟨l9, hl9, hQ9⟩ := hV.ql
  obtain ⟨k8, hk8, hu8, hz8⟩ := hR.u8
  have hq6 : B 0 6 = nI (rQ (B 0)) := by rw [rQ_lt hQ9 hl9]; exact hQ9
  have hq12 : rQ (B 0) ≤ 12 := by rw [rQ_lt hQ9 hl9]; exact hl9
  refine sL_law_2229 hΓ rfl ?_
  refine sL_law_2230 hΓ rfl ?_
  refine sL_law_2231 hΓ rfl ?_
  refine sL_law_2233 hΓ ?_
  refine sL_law_2234 hΓ ?_
  refine sL_law_2235 hΓ hA (j := ii + 1) (show _ = nI (ii + 1) by rw [hyi]; exact nI_add ii 1) (by omega) hn ?_
  refine sL_law_2236 hΓ rfl ?_
  refine sL_law_2237 hΓ rfl ?_
  refine sL_law_2239 hΓ ?_
  refine sL_law_2240 hΓ ?_
  refine sL_law_2241 hΓ hA (j := ii + 2) (show _ = nI (ii + 2) by rw [hyi]; exact nI_add ii 2) (by omega) hn ?_
  refine sL_law_2242 hΓ rfl ?_
  refine sL_law_2243 hΓ rfl ?_
  refine sL_law_2245 hΓ ?_
  refine sL_law_2246 hΓ ?_
  refine sL_law_2247 hΓ hA (j := ii + 3) (show _ = nI (ii + 3) by rw [hyi]; exact nI_add ii 3) (by omega) hn ?_
  refine sL_law_2248 hΓ rfl ?_
  refine sL_law_2249 hΓ hN 11 120 (Nat.le_of_ble_eq_true rfl) (fun κ2 hok hN2 => wL_sendPacket (cs := 0) (ss := 0) (f := f) hok hN2 11 120 hT.o (fun v σ1 => ∃ c1, RLx G σ1 c1 x A am (fZ (oPut (upd z 9 0) (B 0) (rQ (B 0)) (xs (ii + 1)) (xs (ii + 2)) (xs (ii + 3))) k8) (fB B (oPut (upd z 9 0) (B 0) (rQ (B 0)) (xs (ii + 1)) (xs (ii + 2)) (xs (ii + 3))) k8) ∧ KF (NA am) σ c σ1 c1 ∧ v = ((oPut (upd z 9 0) (B 0) (rQ (B 0)) (xs (ii + 1)) (xs (ii + 2)) (xs (ii + 3))).2.1 11) ∧ ((rByte (xs (ii + 1)) && rByte (xs (ii + 2)) && rByte (xs (ii + 3))) = true ∧ (oPut (upd z 9 0) (B 0) (rQ (B 0)) (xs (ii + 1)) (xs (ii + 2)) (xs (ii + 3))).1 = 0)) (fun E σ1 => σ1 = σ ∧ ((E = "java/lang/IllegalArgumentException" ∧ (rByte (xs (ii + 1)) && rByte (xs (ii + 2)) && rByte (xs (ii + 3))) = false) ∨ (E = "java/lang/IllegalStateException" ∧ ((rByte (xs (ii + 1)) && rByte (xs (ii + 2)) && rByte (xs (ii + 3))) = true ∧ ¬ (oPut (upd z 9 0) (B 0) (rQ (B 0)) (xs (ii + 1)) (xs (ii + 2)) (xs (ii + 3))).1 = 0)))) (fun κ3 Q3 X3 hok3 hr ht => tq_sendPacket (cs := 0) (ss := 0) hok3 hT hR hk8 hu8 hz8 (fun e => ht _ _ ⟨rfl, Or.inl ⟨rfl, e⟩⟩) (fun ec e0 => ht _ _ ⟨rfl, Or.inr ⟨rfl, ec, e0⟩⟩) (fun ec e0 σ1 c1 h1 f1 => hr _ _ ⟨c1, h1, f1, rfl, ec, e0⟩)) (fun v σ1 h9 => ?_) (fun E σ1 h9 => ?_))
  · obtain ⟨c1, hR1, fK, rfl, hH⟩ := h9
    have hS1 := hS.c2 hR1 fK
    refine ⟨hS1.2.2.2.1, ?_⟩
    show AW G κ _ _ 2252 _ _ _
    have hS2 := hS1.out (vp_updL f 0 (((oPut (upd z 9 0) (B 0) (rQ (B 0)) (xs (ii + 1)) (xs (ii + 2)) (xs (ii + 3))).2.1 11)).toInt64)
    have hM2 := hS2.2.1
    refine sL_law_2252 hΓ ?_
    refine sL_law_2254 hΓ rfl ?_
    refine sL_law_2255 hΓ rfl ?_
    refine sL_law_2256 hΓ rfl ?_
    refine sL_law_2258 hΓ ?_
    refine sL_law_2259 hΓ ?_
    refine sL_law_2260 hΓ hA (j := ii + 1) (show _ = nI (ii + 1) by rw [hyi]; exact nI_add ii 1) (by omega) hn ?_
    refine sL_law_2261 hΓ rfl ?_
    refine sL_law_2262 hΓ rfl ?_
    refine sL_law_2264 hΓ ?_
    refine sL_law_2265 hΓ ?_
    refine sL_law_2266 hΓ hA (j := ii + 2) (show _ = nI (ii + 2) by rw [hyi]; exact nI_add ii 2) (by omega) hn ?_
    refine sL_law_2267 hΓ rfl ?_
    refine sL_law_2268 hΓ rfl ?_
    refine sL_law_2270 hΓ ?_
    refine sL_law_2271 hΓ ?_
    refine sL_law_2272 hΓ hA (j := ii + 3) (show _ = nI (ii + 3) by rw [hyi]; exact nI_add ii 3) (by omega) hn ?_
    refine sL_law_2273 hΓ 0 0 (Nat.le_of_ble_eq_true rfl) hM2.choose_spec.1.o (fun κ_2273 hΓ_2273 => rp_sendPacket hΓ_2273 hM2 hq6 hq12 hz8 hk8 (fun σ2 h1 f2 => ?_) )
    show AW G κ _ _ 2276 _ _ _
    have hS3 := hS2.md h1 f2
    obtain ⟨A3, hMV3, hB3⟩ := id hS3.2.1
    obtain ⟨-, -, -, ho3, -⟩ := id hS3
    refine sL_law_2276 hΓ ?_
    refine sL_law_2278 hΓ rfl ?_
    refine sL_law_2279 hΓ 0 0 (Nat.le_of_ble_eq_true rfl) hMV3.o (fun κ_2279 hΓ_2279 => sp_thrown hΓ_2279 hMV3 ?_)
    show AW G κ _ _ 2282 _ _ _
    refine sL_law_2282 hΓ rfl ?_
    have z9 : (gZ (rByte (xs (ii + 1)) && rByte (xs (ii + 2)) && rByte (xs (ii + 3))) z (oPut (upd z 9 0) (B 0) (rQ (B 0)) (xs (ii + 1)) (xs (ii + 2)) (xs (ii + 3))) k8) 9 = 0 := (by unfold gZ fZ; rw [if_pos hH.1, if_pos hH.2, upd_ne (by decide), upd_same])
    refine sL_law_2284 hΓ (fun _ => ?_) (fun c9 => absurd z9 c9)
    refine sL_law_2289 hΓ rfl ?_
    refine sL_law_2291 hΓ (fun c9 => absurd rfl c9) (fun _ => ?_)
    refine sL_law_2294 hΓ rfl ?_
    refine sL_law_2295 hΓ ?_
    refine sL_law_2296 hΓ ho3 (j := 0) rfl (by decide) (by decide) ?_
    refine sL_law_2297 hΓ rfl ?_
    refine sL_law_2299 hΓ ?_
    refine sL_law_2300 hΓ ?_
    rw [vl0, show (gV' (rByte (xs (ii + 1)) && rByte (xs (ii + 2)) && rByte (xs (ii + 3))) (oPut (upd z 9 0) (B 0) (rQ (B 0)) (xs (ii + 1)) (xs (ii + 2)) (xs (ii + 3)))) = ((oPut (upd z 9 0) (B 0) (rQ (B 0)) (xs (ii + 1)) (xs (ii + 2)) (xs (ii + 3))).2.1 11) from (by unfold gV' fV; rw [if_pos hH.1, if_pos hH.2]), lc0]
    refine sL_law_2301 hΓ (fun _ => ?_) (fun c9 => absurd rfl c9)
    refine sL_law_2306 hΓ ?_
    exact kk σ2 c1 _ _ _ _ _ _ _ (hS3.ls (fun hh => (by unfold gZ gB'; rw [if_pos hH.1, if_pos hH.1]; exact hh)))
  · obtain ⟨rfl, h9⟩ := h9
    rcases h9 with ⟨rfl, hH⟩ | ⟨rfl, hH⟩
    · refine (Or.inl ⟨rfl, ?_⟩)
      show AW G κ _ _ 2252 _ _ _
      have hS2 := hS.l2
      have hM2 := hS2.2.1
      refine sL_law_2252 hΓ ?_
      refine sL_law_2254 hΓ rfl ?_
      refine sL_law_2255 hΓ rfl ?_
      refine sL_law_2256 hΓ rfl ?_
      refine sL_law_2258 hΓ ?_
      refine sL_law_2259 hΓ ?_
      refine sL_law_2260 hΓ hA (j := ii + 1) (show _ = nI (ii + 1) by rw [hyi]; exact nI_add ii 1) (by omega) hn ?_
      refine sL_law_2261 hΓ rfl ?_
      refine sL_law_2262 hΓ rfl ?_
      refine sL_law_2264 hΓ ?_
      refine sL_law_2265 hΓ ?_
      refine sL_law_2266 hΓ hA (j := ii + 2) (show _ = nI (ii + 2) by rw [hyi]; exact nI_add ii 2) (by omega) hn ?_
      refine sL_law_2267 hΓ rfl ?_
      refine sL_law_2268 hΓ rfl ?_
      refine sL_law_2270 hΓ ?_
      refine sL_law_2271 hΓ ?_
      refine sL_law_2272 hΓ hA (j := ii + 3) (show _ = nI (ii + 3) by rw [hyi]; exact nI_add ii 3) (by omega) hn ?_
      refine sL_law_2273 hΓ 0 0 (Nat.le_of_ble_eq_true rfl) hM2.choose_spec.1.o (fun κ_2273 hΓ_2273 => rp_sendPacket hΓ_2273 hM2 hq6 hq12 hz8 hk8 (fun σ2 h1 f2 => ?_) )
      show AW G κ _ _ 2276 _ _ _
      have hS3 := hS2.md h1 f2
      obtain ⟨A3, hMV3, hB3⟩ := id hS3.2.1
      obtain ⟨-, -, -, ho3, -⟩ := id hS3
      refine sL_law_2276 hΓ ?_
      refine sL_law_2278 hΓ rfl ?_
      refine sL_law_2279 hΓ 0 0 (Nat.le_of_ble_eq_true rfl) hMV3.o (fun κ_2279 hΓ_2279 => sp_thrown hΓ_2279 hMV3 ?_)
      show AW G κ _ _ 2282 _ _ _
      refine sL_law_2282 hΓ rfl ?_
      have z9 : (gZ (rByte (xs (ii + 1)) && rByte (xs (ii + 2)) && rByte (xs (ii + 3))) z (oPut (upd z 9 0) (B 0) (rQ (B 0)) (xs (ii + 1)) (xs (ii + 2)) (xs (ii + 3))) k8) 9 = 1 := (by unfold gZ; rw [if_neg (by rw [hH]; decide)]; exact upd_same _ _ _)
      refine sL_law_2284 hΓ (fun _ => ?_) (fun c9 => absurd z9 c9)
      refine sL_law_2289 hΓ rfl ?_
      refine sL_law_2291 hΓ (fun _ => ?_) (fun c9 => absurd c9 (by decide))
      refine sL_law_2306 hΓ ?_
      exact kk σ2 c _ _ _ _ _ _ _ (hS3.ls (fun hh => (by unfold gZ gB'; rw [if_neg (by rw [hH]; decide), if_neg (by rw [hH]; decide)]; exact hh.zc zJ9)))
    · refine (Or.inr ⟨rfl, ?_⟩)
      show AW G κ _ _ 2252 _ _ _
      have hS2 := hS.l2
      have hM2 := hS2.2.1
      refine sL_law_2252 hΓ ?_
      refine sL_law_2254 hΓ rfl ?_
      refine sL_law_2255 hΓ rfl ?_
      refine sL_law_2256 hΓ rfl ?_
      refine sL_law_2258 hΓ ?_
      refine sL_law_2259 hΓ ?_
      refine sL_law_2260 hΓ hA (j := ii + 1) (show _ = nI (ii + 1) by rw [hyi]; exact nI_add ii 1) (by omega) hn ?_
      refine sL_law_2261 hΓ rfl ?_
      refine sL_law_2262 hΓ rfl ?_
      refine sL_law_2264 hΓ ?_
      refine sL_law_2265 hΓ ?_
      refine sL_law_2266 hΓ hA (j := ii + 2) (show _ = nI (ii + 2) by rw [hyi]; exact nI_add ii 2) (by omega) hn ?_
      refine sL_law_2267 hΓ rfl ?_
      refine sL_law_2268 hΓ rfl ?_
      refine sL_law_2270 hΓ ?_
      refine sL_law_2271 hΓ ?_
      refine sL_law_2272 hΓ hA (j := ii + 3) (show _ = nI (ii + 3) by rw [hyi]; exact nI_add ii 3) (by omega) hn ?_
      refine sL_law_2273 hΓ 0 0 (Nat.le_of_ble_eq_true rfl) hM2.choose_spec.1.o (fun κ_2273 hΓ_2273 => rp_sendPacket hΓ_2273 hM2 hq6 hq12 hz8 hk8 (fun σ2 h1 f2 => ?_) )
      show AW G κ _ _ 2276 _ _ _
      have hS3 := hS2.md h1 f2
      obtain ⟨A3, hMV3, hB3⟩ := id hS3.2.1
      obtain ⟨-, -, -, ho3, -⟩ := id hS3
      refine sL_law_2276 hΓ ?_
      refine sL_law_2278 hΓ rfl ?_
      refine sL_law_2279 hΓ 0 0 (Nat.le_of_ble_eq_true rfl) hMV3.o (fun κ_2279 hΓ_2279 => sp_thrown hΓ_2279 hMV3 ?_)
      show AW G κ _ _ 2282 _ _ _
      refine sL_law_2282 hΓ rfl ?_
      have z9 : (gZ (rByte (xs (ii + 1)) && rByte (xs (ii + 2)) && rByte (xs (ii + 3))) z (oPut (upd z 9 0) (B 0) (rQ (B 0)) (xs (ii + 1)) (xs (ii + 2)) (xs (ii + 3))) k8) 9 = 2 := (by unfold gZ fZ; rw [if_pos hH.1, if_neg hH.2, oPut_no hH.2]; exact upd_same _ _ _)
      refine sL_law_2284 hΓ (fun _ => ?_) (fun c9 => absurd z9 c9)
      refine sL_law_2289 hΓ rfl ?_
      refine sL_law_2291 hΓ (fun _ => ?_) (fun c9 => absurd c9 (by decide))
      refine sL_law_2306 hΓ ?_
      exact kk σ2 c _ _ _ _ _ _ _ (hS3.ls (fun hh => (by unfold gZ gB' fZ fB; rw [if_pos hH.1, if_pos hH.1, if_neg hH.2, if_neg hH.2, oPut_no hH.2]; exact (show updA B 0 (B 0) = B from updA_id B 0).symm ▸ hh.zc (fun j hj => (zJ9 j hj).trans (zJ9 j hj)))))
theorem op_setSpeed (hΓ : Ok G κ mL_law (d + 24) Q X) (hN : NcK κ) (hA : ArK G κ s0 n xs) (hn : n < 2 ^ 31) (hyi : yi = nI ii) (hb : ii + 6 ≤ n) (hS : LSt G σ c x am o A r z B f) (kk : ∀ (σ1 : Hp) (c1 : Nat → Nat) (z1 : Nat → Int32) (B1 : Nat → Nat → Int32) (f1 : Nat → Int64) (v5 v6 v7 v8 : Option LV), LSt G σ1 c1 x am o A r z1 B1 f1 → AW G κ cs ss 2959 [lR s0, lR x, lR am, lR o, lI yi, v5, v6, v7, v8] [] σ1) : AW G κ (cs + 40) (ss + 400) 2309 [lR s0, lR x, lR am, lR o, lI yi, w5, w6, w7, w8] [] σ := by
  refine aw_less (cs2 := cs + 10) (ss2 := ss + 114) (by omega) (by omega) ?_
  obtain ⟨hL, hM, hc, ho, hco⟩ := id hS
  obtain ⟨n0, s, C, n2, C2, Nh, Ch, u, b, l, cd, og, hs, out, ol, hT, hR⟩ := hL
  have hL : RLx G σ c x A am z B := ⟨n0, s, C, n2, C2, Nh, Ch, u, b, l, cd, og, hs, out, ol, hT, hR⟩
  obtain ⟨A', hMV, hB⟩ := id hM
  obtain ⟨⟨hV, hC⟩, -⟩ := id hR
  obtain ⟨t, q, p, tr, g, hcg⟩ := hT.m
  have hW := hV.1.1
  obtain ⟨l9, hl9, hQ9⟩ := hV.ql
  obtain ⟨k8, hk8, hu8, hz8⟩ := hR.u8
  have hq6 : B 0 6 = nI (rQ (B 0)) := by rw [rQ_lt hQ9 hl9]; exact hQ9
  have hq12 : rQ (B 0) ≤ 12 := by rw [rQ_lt hQ9 hl9]; exact hl9
  refine sL_law_2309 hΓ rfl ?_
  refine sL_law_2310 hΓ rfl ?_
  refine sL_law_2311 hΓ rfl ?_
  refine sL_law_2313 hΓ ?_
  refine sL_law_2314 hΓ ?_
  refine sL_law_2315 hΓ hA (j := ii + 1) (show _ = nI (ii + 1) by rw [hyi]; exact nI_add ii 1) (by omega) hn ?_
  refine sL_law_2316 hΓ rfl ?_
  refine sL_law_2317 hΓ rfl ?_
  refine sL_law_2319 hΓ ?_
  refine sL_law_2320 hΓ ?_
  refine sL_law_2321 hΓ hA (j := ii + 2) (show _ = nI (ii + 2) by rw [hyi]; exact nI_add ii 2) (by omega) hn ?_
  refine sL_law_2322 hΓ rfl ?_
  refine sL_law_2323 hΓ hN 10 114 (Nat.le_of_ble_eq_true rfl) (fun κ2 hok hN2 => wL_setSpeed (cs := 0) (ss := 0) (f := f) hok hN2 10 114 hT.o (fun v σ1 => ∃ c1, RLx G σ1 c1 x A am (fZ (oInt (upd z 9 0) (B 0) (rQ (B 0)) (xs (ii + 1)) (xs (ii + 2))) k8) (fB B (oInt (upd z 9 0) (B 0) (rQ (B 0)) (xs (ii + 1)) (xs (ii + 2))) k8) ∧ KF (NA am) σ c σ1 c1 ∧ v = ((oInt (upd z 9 0) (B 0) (rQ (B 0)) (xs (ii + 1)) (xs (ii + 2))).2.1 11) ∧ ((rIn (xs (ii + 1)) 0 127 && rIn (xs (ii + 2)) 0 28) = true ∧ (oInt (upd z 9 0) (B 0) (rQ (B 0)) (xs (ii + 1)) (xs (ii + 2))).1 = 0)) (fun E σ1 => σ1 = σ ∧ ((E = "java/lang/IllegalArgumentException" ∧ (rIn (xs (ii + 1)) 0 127 && rIn (xs (ii + 2)) 0 28) = false) ∨ (E = "java/lang/IllegalStateException" ∧ ((rIn (xs (ii + 1)) 0 127 && rIn (xs (ii + 2)) 0 28) = true ∧ ¬ (oInt (upd z 9 0) (B 0) (rQ (B 0)) (xs (ii + 1)) (xs (ii + 2))).1 = 0)))) (fun κ3 Q3 X3 hok3 hr ht => tq_setSpeed (cs := 0) (ss := 0) hok3 hT hR hk8 hu8 hz8 (fun e => ht _ _ ⟨rfl, Or.inl ⟨rfl, e⟩⟩) (fun ec e0 => ht _ _ ⟨rfl, Or.inr ⟨rfl, ec, e0⟩⟩) (fun ec e0 σ1 c1 h1 f1 => hr _ _ ⟨c1, h1, f1, rfl, ec, e0⟩)) (fun v σ1 h9 => ?_) (fun E σ1 h9 => ?_))
  · obtain ⟨c1, hR1, fK, rfl, hH⟩ := h9
    have hS1 := hS.c2 hR1 fK
    refine ⟨hS1.2.2.2.1, ?_⟩
    show AW G κ _ _ 2326 _ _ _
    have hS2 := hS1.out (vp_updL f 0 (((oInt (upd z 9 0) (B 0) (rQ (B 0)) (xs (ii + 1)) (xs (ii + 2))).2.1 11)).toInt64)
    have hM2 := hS2.2.1
    refine sL_law_2326 hΓ ?_
    refine sL_law_2328 hΓ rfl ?_
    refine sL_law_2329 hΓ rfl ?_
    refine sL_law_2330 hΓ rfl ?_
    refine sL_law_2332 hΓ ?_
    refine sL_law_2333 hΓ ?_
    refine sL_law_2334 hΓ hA (j := ii + 1) (show _ = nI (ii + 1) by rw [hyi]; exact nI_add ii 1) (by omega) hn ?_
    refine sL_law_2335 hΓ rfl ?_
    refine sL_law_2336 hΓ rfl ?_
    refine sL_law_2338 hΓ ?_
    refine sL_law_2339 hΓ ?_
    refine sL_law_2340 hΓ hA (j := ii + 2) (show _ = nI (ii + 2) by rw [hyi]; exact nI_add ii 2) (by omega) hn ?_
    refine sL_law_2341 hΓ 0 0 (Nat.le_of_ble_eq_true rfl) hM2.choose_spec.1.o (fun κ_2341 hΓ_2341 => rp_setSpeed hΓ_2341 hM2 hq6 hq12 hz8 hk8 (fun σ2 h1 f2 => ?_) )
    show AW G κ _ _ 2344 _ _ _
    have hS3 := hS2.md h1 f2
    obtain ⟨A3, hMV3, hB3⟩ := id hS3.2.1
    obtain ⟨-, -, -, ho3, -⟩ := id hS3
    refine sL_law_2344 hΓ ?_
    refine sL_law_2346 hΓ rfl ?_
    refine sL_law_2347 hΓ 0 0 (Nat.le_of_ble_eq_true rfl) hMV3.o (fun κ_2347 hΓ_2347 => sp_thrown hΓ_2347 hMV3 ?_)
    show AW G κ _ _ 2350 _ _ _
    refine sL_law_2350 hΓ rfl ?_
    have z9 : (gZ (rIn (xs (ii + 1)) 0 127 && rIn (xs (ii + 2)) 0 28) z (oInt (upd z 9 0) (B 0) (rQ (B 0)) (xs (ii + 1)) (xs (ii + 2))) k8) 9 = 0 := (by unfold gZ fZ; rw [if_pos hH.1, if_pos hH.2, upd_ne (by decide), upd_same])
    refine sL_law_2352 hΓ (fun _ => ?_) (fun c9 => absurd z9 c9)
    refine sL_law_2357 hΓ rfl ?_
    refine sL_law_2359 hΓ (fun c9 => absurd rfl c9) (fun _ => ?_)
    refine sL_law_2362 hΓ rfl ?_
    refine sL_law_2363 hΓ ?_
    refine sL_law_2364 hΓ ho3 (j := 0) rfl (by decide) (by decide) ?_
    refine sL_law_2365 hΓ rfl ?_
    refine sL_law_2367 hΓ ?_
    refine sL_law_2368 hΓ ?_
    rw [vl0, show (gV' (rIn (xs (ii + 1)) 0 127 && rIn (xs (ii + 2)) 0 28) (oInt (upd z 9 0) (B 0) (rQ (B 0)) (xs (ii + 1)) (xs (ii + 2)))) = ((oInt (upd z 9 0) (B 0) (rQ (B 0)) (xs (ii + 1)) (xs (ii + 2))).2.1 11) from (by unfold gV' fV; rw [if_pos hH.1, if_pos hH.2]), lc0]
    refine sL_law_2369 hΓ (fun _ => ?_) (fun c9 => absurd rfl c9)
    refine sL_law_2374 hΓ ?_
    exact kk σ2 c1 _ _ _ _ _ _ _ (hS3.ls (fun hh => (by unfold gZ gB'; rw [if_pos hH.1, if_pos hH.1]; exact hh)))
  · obtain ⟨rfl, h9⟩ := h9
    rcases h9 with ⟨rfl, hH⟩ | ⟨rfl, hH⟩
    · refine (Or.inl ⟨rfl, ?_⟩)
      show AW G κ _ _ 2326 _ _ _
      have hS2 := hS.l2
      have hM2 := hS2.2.1
      refine sL_law_2326 hΓ ?_
      refine sL_law_2328 hΓ rfl ?_
      refine sL_law_2329 hΓ rfl ?_
      refine sL_law_2330 hΓ rfl ?_
      refine sL_law_2332 hΓ ?_
      refine sL_law_2333 hΓ ?_
      refine sL_law_2334 hΓ hA (j := ii + 1) (show _ = nI (ii + 1) by rw [hyi]; exact nI_add ii 1) (by omega) hn ?_
      refine sL_law_2335 hΓ rfl ?_
      refine sL_law_2336 hΓ rfl ?_
      refine sL_law_2338 hΓ ?_
      refine sL_law_2339 hΓ ?_
      refine sL_law_2340 hΓ hA (j := ii + 2) (show _ = nI (ii + 2) by rw [hyi]; exact nI_add ii 2) (by omega) hn ?_
      refine sL_law_2341 hΓ 0 0 (Nat.le_of_ble_eq_true rfl) hM2.choose_spec.1.o (fun κ_2341 hΓ_2341 => rp_setSpeed hΓ_2341 hM2 hq6 hq12 hz8 hk8 (fun σ2 h1 f2 => ?_) )
      show AW G κ _ _ 2344 _ _ _
      have hS3 := hS2.md h1 f2
      obtain ⟨A3, hMV3, hB3⟩ := id hS3.2.1
      obtain ⟨-, -, -, ho3, -⟩ := id hS3
      refine sL_law_2344 hΓ ?_
      refine sL_law_2346 hΓ rfl ?_
      refine sL_law_2347 hΓ 0 0 (Nat.le_of_ble_eq_true rfl) hMV3.o (fun κ_2347 hΓ_2347 => sp_thrown hΓ_2347 hMV3 ?_)
      show AW G κ _ _ 2350 _ _ _
      refine sL_law_2350 hΓ rfl ?_
      have z9 : (gZ (rIn (xs (ii + 1)) 0 127 && rIn (xs (ii + 2)) 0 28) z (oInt (upd z 9 0) (B 0) (rQ (B 0)) (xs (ii + 1)) (xs (ii + 2))) k8) 9 = 1 := (by unfold gZ; rw [if_neg (by rw [hH]; decide)]; exact upd_same _ _ _)
      refine sL_law_2352 hΓ (fun _ => ?_) (fun c9 => absurd z9 c9)
      refine sL_law_2357 hΓ rfl ?_
      refine sL_law_2359 hΓ (fun _ => ?_) (fun c9 => absurd c9 (by decide))
      refine sL_law_2374 hΓ ?_
      exact kk σ2 c _ _ _ _ _ _ _ (hS3.ls (fun hh => (by unfold gZ gB'; rw [if_neg (by rw [hH]; decide), if_neg (by rw [hH]; decide)]; exact hh.zc zJ9)))
    · refine (Or.inr ⟨rfl, ?_⟩)
      show AW G κ _ _ 2326 _ _ _
      have hS2 := hS.l2
      have hM2 := hS2.2.1
      refine sL_law_2326 hΓ ?_
      refine sL_law_2328 hΓ rfl ?_
      refine sL_law_2329 hΓ rfl ?_
      refine sL_law_2330 hΓ rfl ?_
      refine sL_law_2332 hΓ ?_
      refine sL_law_2333 hΓ ?_
      refine sL_law_2334 hΓ hA (j := ii + 1) (show _ = nI (ii + 1) by rw [hyi]; exact nI_add ii 1) (by omega) hn ?_
      refine sL_law_2335 hΓ rfl ?_
      refine sL_law_2336 hΓ rfl ?_
      refine sL_law_2338 hΓ ?_
      refine sL_law_2339 hΓ ?_
      refine sL_law_2340 hΓ hA (j := ii + 2) (show _ = nI (ii + 2) by rw [hyi]; exact nI_add ii 2) (by omega) hn ?_
      refine sL_law_2341 hΓ 0 0 (Nat.le_of_ble_eq_true rfl) hM2.choose_spec.1.o (fun κ_2341 hΓ_2341 => rp_setSpeed hΓ_2341 hM2 hq6 hq12 hz8 hk8 (fun σ2 h1 f2 => ?_) )
      show AW G κ _ _ 2344 _ _ _
      have hS3 := hS2.md h1 f2
      obtain ⟨A3, hMV3, hB3⟩ := id hS3.2.1
      obtain ⟨-, -, -, ho3, -⟩ := id hS3
      refine sL_law_2344 hΓ ?_
      refine sL_law_2346 hΓ rfl ?_
      refine sL_law_2347 hΓ 0 0 (Nat.le_of_ble_eq_true rfl) hMV3.o (fun κ_2347 hΓ_2347 => sp_thrown hΓ_2347 hMV3 ?_)
      show AW G κ _ _ 2350 _ _ _
      refine sL_law_2350 hΓ rfl ?_
      have z9 : (gZ (rIn (xs (ii + 1)) 0 127 && rIn (xs (ii + 2)) 0 28) z (oInt (upd z 9 0) (B 0) (rQ (B 0)) (xs (ii + 1)) (xs (ii + 2))) k8) 9 = 2 := (by unfold gZ fZ; rw [if_pos hH.1, if_neg hH.2, show oInt (upd z 9 0) (B 0) (rQ (B 0)) (xs (ii + 1)) (xs (ii + 2)) = _ from oPut_no hH.2]; exact upd_same _ _ _)
      refine sL_law_2352 hΓ (fun _ => ?_) (fun c9 => absurd z9 c9)
      refine sL_law_2357 hΓ rfl ?_
      refine sL_law_2359 hΓ (fun _ => ?_) (fun c9 => absurd c9 (by decide))
      refine sL_law_2374 hΓ ?_
      exact kk σ2 c _ _ _ _ _ _ _ (hS3.ls (fun hh => (by unfold gZ gB' fZ fB; rw [if_pos hH.1, if_pos hH.1, if_neg hH.2, if_neg hH.2, show oInt (upd z 9 0) (B 0) (rQ (B 0)) (xs (ii + 1)) (xs (ii + 2)) = _ from oPut_no hH.2]; exact (show updA B 0 (B 0) = B from updA_id B 0).symm ▸ hh.zc (fun j hj => (zJ9 j hj).trans (zJ9 j hj)))))
theorem op_setLamp (hΓ : Ok G κ mL_law (d + 24) Q X) (hN : NcK κ) (hA : ArK G κ s0 n xs) (hn : n < 2 ^ 31) (hyi : yi = nI ii) (hb : ii + 6 ≤ n) (hS : LSt G σ c x am o A r z B f) (kk : ∀ (σ1 : Hp) (c1 : Nat → Nat) (z1 : Nat → Int32) (B1 : Nat → Nat → Int32) (f1 : Nat → Int64) (v5 v6 v7 v8 : Option LV), LSt G σ1 c1 x am o A r z1 B1 f1 → AW G κ cs ss 2959 [lR s0, lR x, lR am, lR o, lI yi, v5, v6, v7, v8] [] σ1) : AW G κ (cs + 40) (ss + 400) 2377 [lR s0, lR x, lR am, lR o, lI yi, w5, w6, w7, w8] [] σ := by
  refine aw_less (cs2 := cs + 10) (ss2 := ss + 114) (by omega) (by omega) ?_
  obtain ⟨hL, hM, hc, ho, hco⟩ := id hS
  obtain ⟨n0, s, C, n2, C2, Nh, Ch, u, b, l, cd, og, hs, out, ol, hT, hR⟩ := hL
  have hL : RLx G σ c x A am z B := ⟨n0, s, C, n2, C2, Nh, Ch, u, b, l, cd, og, hs, out, ol, hT, hR⟩
  obtain ⟨A', hMV, hB⟩ := id hM
  obtain ⟨⟨hV, hC⟩, -⟩ := id hR
  obtain ⟨t, q, p, tr, g, hcg⟩ := hT.m
  have hW := hV.1.1
  obtain ⟨l9, hl9, hQ9⟩ := hV.ql
  obtain ⟨k8, hk8, hu8, hz8⟩ := hR.u8
  have hq6 : B 0 6 = nI (rQ (B 0)) := by rw [rQ_lt hQ9 hl9]; exact hQ9
  have hq12 : rQ (B 0) ≤ 12 := by rw [rQ_lt hQ9 hl9]; exact hl9
  refine sL_law_2377 hΓ rfl ?_
  refine sL_law_2378 hΓ rfl ?_
  refine sL_law_2379 hΓ rfl ?_
  refine sL_law_2381 hΓ ?_
  refine sL_law_2382 hΓ ?_
  refine sL_law_2383 hΓ hA (j := ii + 1) (show _ = nI (ii + 1) by rw [hyi]; exact nI_add ii 1) (by omega) hn ?_
  refine sL_law_2384 hΓ rfl ?_
  refine sL_law_2385 hΓ rfl ?_
  refine sL_law_2387 hΓ ?_
  refine sL_law_2388 hΓ ?_
  refine sL_law_2389 hΓ hA (j := ii + 2) (show _ = nI (ii + 2) by rw [hyi]; exact nI_add ii 2) (by omega) hn ?_
  refine sL_law_2390 hΓ rfl ?_
  refine sL_law_2391 hΓ hN 10 114 (Nat.le_of_ble_eq_true rfl) (fun κ2 hok hN2 => wL_setLamp (cs := 0) (ss := 0) (f := f) hok hN2 10 114 hT.o (fun v σ1 => ∃ c1, RLx G σ1 c1 x A am (fZ (oInt (upd z 9 0) (B 0) (rQ (B 0)) (xs (ii + 1)) (64 + (xs (ii + 2)))) k8) (fB B (oInt (upd z 9 0) (B 0) (rQ (B 0)) (xs (ii + 1)) (64 + (xs (ii + 2)))) k8) ∧ KF (NA am) σ c σ1 c1 ∧ v = ((oInt (upd z 9 0) (B 0) (rQ (B 0)) (xs (ii + 1)) (64 + (xs (ii + 2)))).2.1 11) ∧ ((rIn (xs (ii + 1)) 0 127 && rIn (xs (ii + 2)) 0 15) = true ∧ (oInt (upd z 9 0) (B 0) (rQ (B 0)) (xs (ii + 1)) (64 + (xs (ii + 2)))).1 = 0)) (fun E σ1 => σ1 = σ ∧ ((E = "java/lang/IllegalArgumentException" ∧ (rIn (xs (ii + 1)) 0 127 && rIn (xs (ii + 2)) 0 15) = false) ∨ (E = "java/lang/IllegalStateException" ∧ ((rIn (xs (ii + 1)) 0 127 && rIn (xs (ii + 2)) 0 15) = true ∧ ¬ (oInt (upd z 9 0) (B 0) (rQ (B 0)) (xs (ii + 1)) (64 + (xs (ii + 2)))).1 = 0)))) (fun κ3 Q3 X3 hok3 hr ht => tq_setLamp (cs := 0) (ss := 0) hok3 hT hR hk8 hu8 hz8 (fun e => ht _ _ ⟨rfl, Or.inl ⟨rfl, e⟩⟩) (fun ec e0 => ht _ _ ⟨rfl, Or.inr ⟨rfl, ec, e0⟩⟩) (fun ec e0 σ1 c1 h1 f1 => hr _ _ ⟨c1, h1, f1, rfl, ec, e0⟩)) (fun v σ1 h9 => ?_) (fun E σ1 h9 => ?_))
  · obtain ⟨c1, hR1, fK, rfl, hH⟩ := h9
    have hS1 := hS.c2 hR1 fK
    refine ⟨hS1.2.2.2.1, ?_⟩
    show AW G κ _ _ 2394 _ _ _
    have hS2 := hS1.out (vp_updL f 0 (((oInt (upd z 9 0) (B 0) (rQ (B 0)) (xs (ii + 1)) (64 + (xs (ii + 2)))).2.1 11)).toInt64)
    have hM2 := hS2.2.1
    refine sL_law_2394 hΓ ?_
    refine sL_law_2396 hΓ rfl ?_
    refine sL_law_2397 hΓ rfl ?_
    refine sL_law_2398 hΓ rfl ?_
    refine sL_law_2400 hΓ ?_
    refine sL_law_2401 hΓ ?_
    refine sL_law_2402 hΓ hA (j := ii + 1) (show _ = nI (ii + 1) by rw [hyi]; exact nI_add ii 1) (by omega) hn ?_
    refine sL_law_2403 hΓ rfl ?_
    refine sL_law_2404 hΓ rfl ?_
    refine sL_law_2406 hΓ ?_
    refine sL_law_2407 hΓ ?_
    refine sL_law_2408 hΓ hA (j := ii + 2) (show _ = nI (ii + 2) by rw [hyi]; exact nI_add ii 2) (by omega) hn ?_
    refine sL_law_2409 hΓ 0 0 (Nat.le_of_ble_eq_true rfl) hM2.choose_spec.1.o (fun κ_2409 hΓ_2409 => rp_setLamp hΓ_2409 hM2 hq6 hq12 hz8 hk8 (fun σ2 h1 f2 => ?_) )
    show AW G κ _ _ 2412 _ _ _
    have hS3 := hS2.md h1 f2
    obtain ⟨A3, hMV3, hB3⟩ := id hS3.2.1
    obtain ⟨-, -, -, ho3, -⟩ := id hS3
    refine sL_law_2412 hΓ ?_
    refine sL_law_2414 hΓ rfl ?_
    refine sL_law_2415 hΓ 0 0 (Nat.le_of_ble_eq_true rfl) hMV3.o (fun κ_2415 hΓ_2415 => sp_thrown hΓ_2415 hMV3 ?_)
    show AW G κ _ _ 2418 _ _ _
    refine sL_law_2418 hΓ rfl ?_
    have z9 : (gZ (rIn (xs (ii + 1)) 0 127 && rIn (xs (ii + 2)) 0 15) z (oInt (upd z 9 0) (B 0) (rQ (B 0)) (xs (ii + 1)) (64 + (xs (ii + 2)))) k8) 9 = 0 := (by unfold gZ fZ; rw [if_pos hH.1, if_pos hH.2, upd_ne (by decide), upd_same])
    refine sL_law_2420 hΓ (fun _ => ?_) (fun c9 => absurd z9 c9)
    refine sL_law_2425 hΓ rfl ?_
    refine sL_law_2427 hΓ (fun c9 => absurd rfl c9) (fun _ => ?_)
    refine sL_law_2430 hΓ rfl ?_
    refine sL_law_2431 hΓ ?_
    refine sL_law_2432 hΓ ho3 (j := 0) rfl (by decide) (by decide) ?_
    refine sL_law_2433 hΓ rfl ?_
    refine sL_law_2435 hΓ ?_
    refine sL_law_2436 hΓ ?_
    rw [vl0, show (gV' (rIn (xs (ii + 1)) 0 127 && rIn (xs (ii + 2)) 0 15) (oInt (upd z 9 0) (B 0) (rQ (B 0)) (xs (ii + 1)) (64 + (xs (ii + 2))))) = ((oInt (upd z 9 0) (B 0) (rQ (B 0)) (xs (ii + 1)) (64 + (xs (ii + 2)))).2.1 11) from (by unfold gV' fV; rw [if_pos hH.1, if_pos hH.2]), lc0]
    refine sL_law_2437 hΓ (fun _ => ?_) (fun c9 => absurd rfl c9)
    refine sL_law_2442 hΓ ?_
    exact kk σ2 c1 _ _ _ _ _ _ _ (hS3.ls (fun hh => (by unfold gZ gB'; rw [if_pos hH.1, if_pos hH.1]; exact hh)))
  · obtain ⟨rfl, h9⟩ := h9
    rcases h9 with ⟨rfl, hH⟩ | ⟨rfl, hH⟩
    · refine (Or.inl ⟨rfl, ?_⟩)
      show AW G κ _ _ 2394 _ _ _
      have hS2 := hS.l2
      have hM2 := hS2.2.1
      refine sL_law_2394 hΓ ?_
      refine sL_law_2396 hΓ rfl ?_
      refine sL_law_2397 hΓ rfl ?_
      refine sL_law_2398 hΓ rfl ?_
      refine sL_law_2400 hΓ ?_
      refine sL_law_2401 hΓ ?_
      refine sL_law_2402 hΓ hA (j := ii + 1) (show _ = nI (ii + 1) by rw [hyi]; exact nI_add ii 1) (by omega) hn ?_
      refine sL_law_2403 hΓ rfl ?_
      refine sL_law_2404 hΓ rfl ?_
      refine sL_law_2406 hΓ ?_
      refine sL_law_2407 hΓ ?_
      refine sL_law_2408 hΓ hA (j := ii + 2) (show _ = nI (ii + 2) by rw [hyi]; exact nI_add ii 2) (by omega) hn ?_
      refine sL_law_2409 hΓ 0 0 (Nat.le_of_ble_eq_true rfl) hM2.choose_spec.1.o (fun κ_2409 hΓ_2409 => rp_setLamp hΓ_2409 hM2 hq6 hq12 hz8 hk8 (fun σ2 h1 f2 => ?_) )
      show AW G κ _ _ 2412 _ _ _
      have hS3 := hS2.md h1 f2
      obtain ⟨A3, hMV3, hB3⟩ := id hS3.2.1
      obtain ⟨-, -, -, ho3, -⟩ := id hS3
      refine sL_law_2412 hΓ ?_
      refine sL_law_2414 hΓ rfl ?_
      refine sL_law_2415 hΓ 0 0 (Nat.le_of_ble_eq_true rfl) hMV3.o (fun κ_2415 hΓ_2415 => sp_thrown hΓ_2415 hMV3 ?_)
      show AW G κ _ _ 2418 _ _ _
      refine sL_law_2418 hΓ rfl ?_
      have z9 : (gZ (rIn (xs (ii + 1)) 0 127 && rIn (xs (ii + 2)) 0 15) z (oInt (upd z 9 0) (B 0) (rQ (B 0)) (xs (ii + 1)) (64 + (xs (ii + 2)))) k8) 9 = 1 := (by unfold gZ; rw [if_neg (by rw [hH]; decide)]; exact upd_same _ _ _)
      refine sL_law_2420 hΓ (fun _ => ?_) (fun c9 => absurd z9 c9)
      refine sL_law_2425 hΓ rfl ?_
      refine sL_law_2427 hΓ (fun _ => ?_) (fun c9 => absurd c9 (by decide))
      refine sL_law_2442 hΓ ?_
      exact kk σ2 c _ _ _ _ _ _ _ (hS3.ls (fun hh => (by unfold gZ gB'; rw [if_neg (by rw [hH]; decide), if_neg (by rw [hH]; decide)]; exact hh.zc zJ9)))
    · refine (Or.inr ⟨rfl, ?_⟩)
      show AW G κ _ _ 2394 _ _ _
      have hS2 := hS.l2
      have hM2 := hS2.2.1
      refine sL_law_2394 hΓ ?_
      refine sL_law_2396 hΓ rfl ?_
      refine sL_law_2397 hΓ rfl ?_
      refine sL_law_2398 hΓ rfl ?_
      refine sL_law_2400 hΓ ?_
      refine sL_law_2401 hΓ ?_
      refine sL_law_2402 hΓ hA (j := ii + 1) (show _ = nI (ii + 1) by rw [hyi]; exact nI_add ii 1) (by omega) hn ?_
      refine sL_law_2403 hΓ rfl ?_
      refine sL_law_2404 hΓ rfl ?_
      refine sL_law_2406 hΓ ?_
      refine sL_law_2407 hΓ ?_
      refine sL_law_2408 hΓ hA (j := ii + 2) (show _ = nI (ii + 2) by rw [hyi]; exact nI_add ii 2) (by omega) hn ?_
      refine sL_law_2409 hΓ 0 0 (Nat.le_of_ble_eq_true rfl) hM2.choose_spec.1.o (fun κ_2409 hΓ_2409 => rp_setLamp hΓ_2409 hM2 hq6 hq12 hz8 hk8 (fun σ2 h1 f2 => ?_) )
      show AW G κ _ _ 2412 _ _ _
      have hS3 := hS2.md h1 f2
      obtain ⟨A3, hMV3, hB3⟩ := id hS3.2.1
      obtain ⟨-, -, -, ho3, -⟩ := id hS3
      refine sL_law_2412 hΓ ?_
      refine sL_law_2414 hΓ rfl ?_
      refine sL_law_2415 hΓ 0 0 (Nat.le_of_ble_eq_true rfl) hMV3.o (fun κ_2415 hΓ_2415 => sp_thrown hΓ_2415 hMV3 ?_)
      show AW G κ _ _ 2418 _ _ _
      refine sL_law_2418 hΓ rfl ?_
      have z9 : (gZ (rIn (xs (ii + 1)) 0 127 && rIn (xs (ii + 2)) 0 15) z (oInt (upd z 9 0) (B 0) (rQ (B 0)) (xs (ii + 1)) (64 + (xs (ii + 2)))) k8) 9 = 2 := (by unfold gZ fZ; rw [if_pos hH.1, if_neg hH.2, show oInt (upd z 9 0) (B 0) (rQ (B 0)) (xs (ii + 1)) (64 + (xs (ii + 2))) = _ from oPut_no hH.2]; exact upd_same _ _ _)
      refine sL_law_2420 hΓ (fun _ => ?_) (fun c9 => absurd z9 c9)
      refine sL_law_2425 hΓ rfl ?_
      refine sL_law_2427 hΓ (fun _ => ?_) (fun c9 => absurd c9 (by decide))
      refine sL_law_2442 hΓ ?_
      exact kk σ2 c _ _ _ _ _ _ _ (hS3.ls (fun hh => (by unfold gZ gB' fZ fB; rw [if_pos hH.1, if_pos hH.1, if_neg hH.2, if_neg hH.2, show oInt (upd z 9 0) (B 0) (rQ (B 0)) (xs (ii + 1)) (64 + (xs (ii + 2))) = _ from oPut_no hH.2]; exact (show updA B 0 (B 0) = B from updA_id B 0).symm ▸ hh.zc (fun j hj => (zJ9 j hj).trans (zJ9 j hj)))))
theorem op_stop (hΓ : Ok G κ mL_law (d + 24) Q X) (hN : NcK κ) (hA : ArK G κ s0 n xs) (hn : n < 2 ^ 31) (hyi : yi = nI ii) (hb : ii + 6 ≤ n) (hS : LSt G σ c x am o A r z B f) (kk : ∀ (σ1 : Hp) (c1 : Nat → Nat) (z1 : Nat → Int32) (B1 : Nat → Nat → Int32) (f1 : Nat → Int64) (v5 v6 v7 v8 : Option LV), LSt G σ1 c1 x am o A r z1 B1 f1 → AW G κ cs ss 2959 [lR s0, lR x, lR am, lR o, lI yi, v5, v6, v7, v8] [] σ1) : AW G κ (cs + 40) (ss + 400) 2445 [lR s0, lR x, lR am, lR o, lI yi, w5, w6, w7, w8] [] σ := by
  refine aw_less (cs2 := cs + 9) (ss2 := ss + 108) (by omega) (by omega) ?_
  obtain ⟨hL, hM, hc, ho, hco⟩ := id hS
  obtain ⟨n0, s, C, n2, C2, Nh, Ch, u, b, l, cd, og, hs, out, ol, hT, hR⟩ := hL
  have hL : RLx G σ c x A am z B := ⟨n0, s, C, n2, C2, Nh, Ch, u, b, l, cd, og, hs, out, ol, hT, hR⟩
  obtain ⟨A', hMV, hB⟩ := id hM
  obtain ⟨⟨hV, hC⟩, -⟩ := id hR
  obtain ⟨t, q, p, tr, g, hcg⟩ := hT.m
  have hW := hV.1.1
  obtain ⟨l9, hl9, hQ9⟩ := hV.ql
  obtain ⟨k8, hk8, hu8, hz8⟩ := hR.u8
  have hq6 : B 0 6 = nI (rQ (B 0)) := by rw [rQ_lt hQ9 hl9]; exact hQ9
  have hq12 : rQ (B 0) ≤ 12 := by rw [rQ_lt hQ9 hl9]; exact hl9
  refine sL_law_2445 hΓ rfl ?_
  refine sL_law_2446 hΓ rfl ?_
  refine sL_law_2447 hΓ rfl ?_
  refine sL_law_2449 hΓ ?_
  refine sL_law_2450 hΓ ?_
  refine sL_law_2451 hΓ hA (j := ii + 1) (show _ = nI (ii + 1) by rw [hyi]; exact nI_add ii 1) (by omega) hn ?_
  refine sL_law_2452 hΓ rfl ?_
  refine sL_law_2453 hΓ hN 9 108 (Nat.le_of_ble_eq_true rfl) (fun κ2 hok hN2 => wL_stop (cs := 0) (ss := 0) (f := f) hok hN2 9 108 hT.o (fun v σ1 => ∃ c1, RLx G σ1 c1 x A am (fZ (oInt (upd z 9 0) (B 0) 0 (xs (ii + 1)) 128) k8) (fB B (oInt (upd z 9 0) (B 0) 0 (xs (ii + 1)) 128) k8) ∧ KF (NA am) σ c σ1 c1 ∧ v = ((oInt (upd z 9 0) (B 0) 0 (xs (ii + 1)) 128).2.1 11) ∧ (rIn (xs (ii + 1)) 0 127 = true ∧ (oInt (upd z 9 0) (B 0) 0 (xs (ii + 1)) 128).1 = 0)) (fun E σ1 => σ1 = σ ∧ ((E = "java/lang/IllegalArgumentException" ∧ rIn (xs (ii + 1)) 0 127 = false) ∨ (E = "java/lang/IllegalStateException" ∧ (rIn (xs (ii + 1)) 0 127 = true ∧ ¬ (oInt (upd z 9 0) (B 0) 0 (xs (ii + 1)) 128).1 = 0)))) (fun κ3 Q3 X3 hok3 hr ht => tq_stop (cs := 0) (ss := 0) hok3 hT hR hk8 hu8 hz8 (fun e => ht _ _ ⟨rfl, Or.inl ⟨rfl, e⟩⟩) (fun ec e0 => ht _ _ ⟨rfl, Or.inr ⟨rfl, ec, e0⟩⟩) (fun ec e0 σ1 c1 h1 f1 => hr _ _ ⟨c1, h1, f1, rfl, ec, e0⟩)) (fun v σ1 h9 => ?_) (fun E σ1 h9 => ?_))
  · obtain ⟨c1, hR1, fK, rfl, hH⟩ := h9
    have hS1 := hS.c2 hR1 fK
    refine ⟨hS1.2.2.2.1, ?_⟩
    show AW G κ _ _ 2456 _ _ _
    have hS2 := hS1.out (vp_updL f 0 (((oInt (upd z 9 0) (B 0) 0 (xs (ii + 1)) 128).2.1 11)).toInt64)
    have hM2 := hS2.2.1
    refine sL_law_2456 hΓ ?_
    refine sL_law_2458 hΓ rfl ?_
    refine sL_law_2459 hΓ rfl ?_
    refine sL_law_2460 hΓ rfl ?_
    refine sL_law_2462 hΓ ?_
    refine sL_law_2463 hΓ ?_
    refine sL_law_2464 hΓ hA (j := ii + 1) (show _ = nI (ii + 1) by rw [hyi]; exact nI_add ii 1) (by omega) hn ?_
    refine sL_law_2465 hΓ 0 0 (Nat.le_of_ble_eq_true rfl) hM2.choose_spec.1.o (fun κ_2465 hΓ_2465 => rp_stop hΓ_2465 hM2 hq6 hq12 hz8 hk8 (fun σ2 h1 f2 => ?_) )
    show AW G κ _ _ 2468 _ _ _
    have hS3 := hS2.md h1 f2
    obtain ⟨A3, hMV3, hB3⟩ := id hS3.2.1
    obtain ⟨-, -, -, ho3, -⟩ := id hS3
    refine sL_law_2468 hΓ ?_
    refine sL_law_2470 hΓ rfl ?_
    refine sL_law_2471 hΓ 0 0 (Nat.le_of_ble_eq_true rfl) hMV3.o (fun κ_2471 hΓ_2471 => sp_thrown hΓ_2471 hMV3 ?_)
    show AW G κ _ _ 2474 _ _ _
    refine sL_law_2474 hΓ rfl ?_
    have z9 : (gZ (rIn (xs (ii + 1)) 0 127) z (oInt (upd z 9 0) (B 0) 0 (xs (ii + 1)) 128) k8) 9 = 0 := (by unfold gZ fZ; rw [if_pos hH.1, if_pos hH.2, upd_ne (by decide), upd_same])
    refine sL_law_2476 hΓ (fun _ => ?_) (fun c9 => absurd z9 c9)
    refine sL_law_2481 hΓ rfl ?_
    refine sL_law_2483 hΓ (fun c9 => absurd rfl c9) (fun _ => ?_)
    refine sL_law_2486 hΓ rfl ?_
    refine sL_law_2487 hΓ ?_
    refine sL_law_2488 hΓ ho3 (j := 0) rfl (by decide) (by decide) ?_
    refine sL_law_2489 hΓ rfl ?_
    refine sL_law_2491 hΓ ?_
    refine sL_law_2492 hΓ ?_
    rw [vl0, show (gV' (rIn (xs (ii + 1)) 0 127) (oInt (upd z 9 0) (B 0) 0 (xs (ii + 1)) 128)) = ((oInt (upd z 9 0) (B 0) 0 (xs (ii + 1)) 128).2.1 11) from (by unfold gV' fV; rw [if_pos hH.1, if_pos hH.2]), lc0]
    refine sL_law_2493 hΓ (fun _ => ?_) (fun c9 => absurd rfl c9)
    refine sL_law_2498 hΓ ?_
    exact kk σ2 c1 _ _ _ _ _ _ _ (hS3.ls (fun hh => (by unfold gZ gB'; rw [if_pos hH.1, if_pos hH.1]; exact hh)))
  · obtain ⟨rfl, h9⟩ := h9
    rcases h9 with ⟨rfl, hH⟩ | ⟨rfl, hH⟩
    · refine (Or.inl ⟨rfl, ?_⟩)
      show AW G κ _ _ 2456 _ _ _
      have hS2 := hS.l2
      have hM2 := hS2.2.1
      refine sL_law_2456 hΓ ?_
      refine sL_law_2458 hΓ rfl ?_
      refine sL_law_2459 hΓ rfl ?_
      refine sL_law_2460 hΓ rfl ?_
      refine sL_law_2462 hΓ ?_
      refine sL_law_2463 hΓ ?_
      refine sL_law_2464 hΓ hA (j := ii + 1) (show _ = nI (ii + 1) by rw [hyi]; exact nI_add ii 1) (by omega) hn ?_
      refine sL_law_2465 hΓ 0 0 (Nat.le_of_ble_eq_true rfl) hM2.choose_spec.1.o (fun κ_2465 hΓ_2465 => rp_stop hΓ_2465 hM2 hq6 hq12 hz8 hk8 (fun σ2 h1 f2 => ?_) )
      show AW G κ _ _ 2468 _ _ _
      have hS3 := hS2.md h1 f2
      obtain ⟨A3, hMV3, hB3⟩ := id hS3.2.1
      obtain ⟨-, -, -, ho3, -⟩ := id hS3
      refine sL_law_2468 hΓ ?_
      refine sL_law_2470 hΓ rfl ?_
      refine sL_law_2471 hΓ 0 0 (Nat.le_of_ble_eq_true rfl) hMV3.o (fun κ_2471 hΓ_2471 => sp_thrown hΓ_2471 hMV3 ?_)
      show AW G κ _ _ 2474 _ _ _
      refine sL_law_2474 hΓ rfl ?_
      have z9 : (gZ (rIn (xs (ii + 1)) 0 127) z (oInt (upd z 9 0) (B 0) 0 (xs (ii + 1)) 128) k8) 9 = 1 := (by unfold gZ; rw [if_neg (by rw [hH]; decide)]; exact upd_same _ _ _)
      refine sL_law_2476 hΓ (fun _ => ?_) (fun c9 => absurd z9 c9)
      refine sL_law_2481 hΓ rfl ?_
      refine sL_law_2483 hΓ (fun _ => ?_) (fun c9 => absurd c9 (by decide))
      refine sL_law_2498 hΓ ?_
      exact kk σ2 c _ _ _ _ _ _ _ (hS3.ls (fun hh => (by unfold gZ gB'; rw [if_neg (by rw [hH]; decide), if_neg (by rw [hH]; decide)]; exact hh.zc zJ9)))
    · refine (Or.inr ⟨rfl, ?_⟩)
      show AW G κ _ _ 2456 _ _ _
      have hS2 := hS.l2
      have hM2 := hS2.2.1
      refine sL_law_2456 hΓ ?_
      refine sL_law_2458 hΓ rfl ?_
      refine sL_law_2459 hΓ rfl ?_
      refine sL_law_2460 hΓ rfl ?_
      refine sL_law_2462 hΓ ?_
      refine sL_law_2463 hΓ ?_
      refine sL_law_2464 hΓ hA (j := ii + 1) (show _ = nI (ii + 1) by rw [hyi]; exact nI_add ii 1) (by omega) hn ?_
      refine sL_law_2465 hΓ 0 0 (Nat.le_of_ble_eq_true rfl) hM2.choose_spec.1.o (fun κ_2465 hΓ_2465 => rp_stop hΓ_2465 hM2 hq6 hq12 hz8 hk8 (fun σ2 h1 f2 => ?_) )
      show AW G κ _ _ 2468 _ _ _
      have hS3 := hS2.md h1 f2
      obtain ⟨A3, hMV3, hB3⟩ := id hS3.2.1
      obtain ⟨-, -, -, ho3, -⟩ := id hS3
      refine sL_law_2468 hΓ ?_
      refine sL_law_2470 hΓ rfl ?_
      refine sL_law_2471 hΓ 0 0 (Nat.le_of_ble_eq_true rfl) hMV3.o (fun κ_2471 hΓ_2471 => sp_thrown hΓ_2471 hMV3 ?_)
      show AW G κ _ _ 2474 _ _ _
      refine sL_law_2474 hΓ rfl ?_
      have z9 : (gZ (rIn (xs (ii + 1)) 0 127) z (oInt (upd z 9 0) (B 0) 0 (xs (ii + 1)) 128) k8) 9 = 2 := (by unfold gZ fZ; rw [if_pos hH.1, if_neg hH.2, show oInt (upd z 9 0) (B 0) 0 (xs (ii + 1)) 128 = _ from oPut_no hH.2]; exact upd_same _ _ _)
      refine sL_law_2476 hΓ (fun _ => ?_) (fun c9 => absurd z9 c9)
      refine sL_law_2481 hΓ rfl ?_
      refine sL_law_2483 hΓ (fun _ => ?_) (fun c9 => absurd c9 (by decide))
      refine sL_law_2498 hΓ ?_
      exact kk σ2 c _ _ _ _ _ _ _ (hS3.ls (fun hh => (by unfold gZ gB' fZ fB; rw [if_pos hH.1, if_pos hH.1, if_neg hH.2, if_neg hH.2, show oInt (upd z 9 0) (B 0) 0 (xs (ii + 1)) 128 = _ from oPut_no hH.2]; exact (show updA B 0 (B 0) = B from updA_id B 0).symm ▸ hh.zc (fun j hj => (zJ9 j hj).trans (zJ9 j hj)))))
theorem op_passTicks (hΓ : Ok G κ mL_law (d + 24) Q X) (hN : NcK κ) (hA : ArK G κ s0 n xs) (hn : n < 2 ^ 31) (hyi : yi = nI ii) (hb : ii + 6 ≤ n) (hS : LSt G σ c x am o A r z B f) (kk : ∀ (σ1 : Hp) (c1 : Nat → Nat) (z1 : Nat → Int32) (B1 : Nat → Nat → Int32) (f1 : Nat → Int64) (v5 v6 v7 v8 : Option LV), LSt G σ1 c1 x am o A r z1 B1 f1 → AW G κ cs ss 2959 [lR s0, lR x, lR am, lR o, lI yi, v5, v6, v7, v8] [] σ1) : AW G κ (cs + 40) (ss + 400) 2666 [lR s0, lR x, lR am, lR o, lI yi, w5, w6, w7, w8] [] σ := by
  refine aw_less (cs2 := cs + 9) (ss2 := ss + 108) (by omega) (by omega) ?_
  obtain ⟨hL, hM, hc, ho, hco⟩ := id hS
  obtain ⟨n0, s, C, n2, C2, Nh, Ch, u, b, l, cd, og, hs, out, ol, hT, hR⟩ := hL
  have hL : RLx G σ c x A am z B := ⟨n0, s, C, n2, C2, Nh, Ch, u, b, l, cd, og, hs, out, ol, hT, hR⟩
  obtain ⟨A', hMV, hB⟩ := id hM
  obtain ⟨⟨hV, hC⟩, -⟩ := id hR
  obtain ⟨t, q, p, tr, g, hcg⟩ := hT.m
  have hW := hV.1.1
  obtain ⟨l9, hl9, hQ9⟩ := hV.ql
  obtain ⟨k8, hk8, hu8, hz8⟩ := hR.u8
  have hW2 := hV.1
  have hq6 : B 0 6 = nI (rQ (B 0)) := by rw [rQ_lt hQ9 hl9]; exact hQ9
  have hq12 : rQ (B 0) ≤ 12 := by rw [rQ_lt hQ9 hl9]; exact hl9
  refine sL_law_2666 hΓ rfl ?_
  refine sL_law_2667 hΓ rfl ?_
  refine sL_law_2668 hΓ rfl ?_
  refine sL_law_2670 hΓ ?_
  refine sL_law_2671 hΓ ?_
  refine sL_law_2672 hΓ hA (j := ii + 1) (show _ = nI (ii + 1) by rw [hyi]; exact nI_add ii 1) (by omega) hn ?_
  refine sL_law_2673 hΓ rfl ?_
  refine sL_law_2674 hΓ hN 9 108 (Nat.le_of_ble_eq_true rfl) (fun κ2 hok hN2 => wL_passTicks (cs := 0) (ss := 0) (f := f) hok hN2 9 108 hT.o (fun v σ1 => ∃ c1, RLx G σ1 c1 x A am (fZ (oWait n0 s (upd z 9 0) (B 0) (xs (ii + 1))) k8) (fB B (oWait n0 s (upd z 9 0) (B 0) (xs (ii + 1))) k8) ∧ KF (NA am) σ c σ1 c1 ∧ v = ((oWait n0 s (upd z 9 0) (B 0) (xs (ii + 1))).2.1 11) ∧ ((rIn (xs (ii + 1)) 1 60) = true ∧ (oWait n0 s (upd z 9 0) (B 0) (xs (ii + 1))).1 = 0)) (fun E σ1 => σ1 = σ ∧ ((E = "java/lang/IllegalArgumentException" ∧ (rIn (xs (ii + 1)) 1 60) = false) ∨ (E = "java/lang/IllegalStateException" ∧ ((rIn (xs (ii + 1)) 1 60) = true ∧ ¬ (oWait n0 s (upd z 9 0) (B 0) (xs (ii + 1))).1 = 0)))) (fun κ3 Q3 X3 hok3 hr ht => tq_passTicks (cs := 0) (ss := 0) hok3 hT hR hk8 hu8 hz8 (fun e => ht _ _ ⟨rfl, Or.inl ⟨rfl, e⟩⟩) (fun ec e0 => ht _ _ ⟨rfl, Or.inr ⟨rfl, ec, e0⟩⟩) (fun ec e0 σ1 c1 h1 f1 => hr _ _ ⟨c1, h1, f1, rfl, ec, e0⟩)) (fun v σ1 h9 => ?_) (fun E σ1 h9 => ?_))
  · obtain ⟨c1, hR1, fK, rfl, hH⟩ := h9
    have hS1 := hS.c2 hR1 fK
    refine ⟨hS1.2.2.2.1, ?_⟩
    show AW G κ _ _ 2677 _ _ _
    have hS2 := hS1.out (vp_updL f 0 (((oWait n0 s (upd z 9 0) (B 0) (xs (ii + 1))).2.1 11)).toInt64)
    have hM2 := hS2.2.1
    refine sL_law_2677 hΓ ?_
    refine sL_law_2679 hΓ rfl ?_
    refine sL_law_2680 hΓ rfl ?_
    refine sL_law_2681 hΓ rfl ?_
    refine sL_law_2683 hΓ ?_
    refine sL_law_2684 hΓ ?_
    refine sL_law_2685 hΓ hA (j := ii + 1) (show _ = nI (ii + 1) by rw [hyi]; exact nI_add ii 1) (by omega) hn ?_
    refine sL_law_2686 hΓ 0 0 (Nat.le_of_ble_eq_true rfl) hM2.choose_spec.1.o (fun κ_2686 hΓ_2686 => rp_passTicks hΓ_2686 hM2 hW2 hz8 hk8 (fun σ2 h1 f2 => ?_) )
    show AW G κ _ _ 2689 _ _ _
    have hS3 := hS2.md h1 f2
    obtain ⟨A3, hMV3, hB3⟩ := id hS3.2.1
    obtain ⟨-, -, -, ho3, -⟩ := id hS3
    refine sL_law_2689 hΓ ?_
    refine sL_law_2691 hΓ rfl ?_
    refine sL_law_2692 hΓ 0 0 (Nat.le_of_ble_eq_true rfl) hMV3.o (fun κ_2692 hΓ_2692 => sp_thrown hΓ_2692 hMV3 ?_)
    show AW G κ _ _ 2695 _ _ _
    refine sL_law_2695 hΓ rfl ?_
    have z9 : (gZ (rIn (xs (ii + 1)) 1 60) z (oWait n0 s (upd z 9 0) (B 0) (xs (ii + 1))) k8) 9 = 0 := (by unfold gZ fZ; rw [if_pos hH.1, if_pos hH.2, upd_ne (by decide), upd_same])
    refine sL_law_2697 hΓ (fun _ => ?_) (fun c9 => absurd z9 c9)
    refine sL_law_2702 hΓ rfl ?_
    refine sL_law_2704 hΓ (fun c9 => absurd rfl c9) (fun _ => ?_)
    refine sL_law_2707 hΓ rfl ?_
    refine sL_law_2708 hΓ ?_
    refine sL_law_2709 hΓ ho3 (j := 0) rfl (by decide) (by decide) ?_
    refine sL_law_2710 hΓ rfl ?_
    refine sL_law_2712 hΓ ?_
    refine sL_law_2713 hΓ ?_
    rw [vl0, show (gV' (rIn (xs (ii + 1)) 1 60) (oWait n0 s (upd z 9 0) (B 0) (xs (ii + 1)))) = ((oWait n0 s (upd z 9 0) (B 0) (xs (ii + 1))).2.1 11) from (by unfold gV' fV; rw [if_pos hH.1, if_pos hH.2]), lc0]
    refine sL_law_2714 hΓ (fun _ => ?_) (fun c9 => absurd rfl c9)
    refine sL_law_2719 hΓ ?_
    exact kk σ2 c1 _ _ _ _ _ _ _ (hS3.ls (fun hh => (by unfold gZ gB'; rw [if_pos hH.1, if_pos hH.1]; exact hh)))
  · obtain ⟨rfl, h9⟩ := h9
    rcases h9 with ⟨rfl, hH⟩ | ⟨rfl, hH⟩
    · refine (Or.inl ⟨rfl, ?_⟩)
      show AW G κ _ _ 2677 _ _ _
      have hS2 := hS.l2
      have hM2 := hS2.2.1
      refine sL_law_2677 hΓ ?_
      refine sL_law_2679 hΓ rfl ?_
      refine sL_law_2680 hΓ rfl ?_
      refine sL_law_2681 hΓ rfl ?_
      refine sL_law_2683 hΓ ?_
      refine sL_law_2684 hΓ ?_
      refine sL_law_2685 hΓ hA (j := ii + 1) (show _ = nI (ii + 1) by rw [hyi]; exact nI_add ii 1) (by omega) hn ?_
      refine sL_law_2686 hΓ 0 0 (Nat.le_of_ble_eq_true rfl) hM2.choose_spec.1.o (fun κ_2686 hΓ_2686 => rp_passTicks hΓ_2686 hM2 hW2 hz8 hk8 (fun σ2 h1 f2 => ?_) )
      show AW G κ _ _ 2689 _ _ _
      have hS3 := hS2.md h1 f2
      obtain ⟨A3, hMV3, hB3⟩ := id hS3.2.1
      obtain ⟨-, -, -, ho3, -⟩ := id hS3
      refine sL_law_2689 hΓ ?_
      refine sL_law_2691 hΓ rfl ?_
      refine sL_law_2692 hΓ 0 0 (Nat.le_of_ble_eq_true rfl) hMV3.o (fun κ_2692 hΓ_2692 => sp_thrown hΓ_2692 hMV3 ?_)
      show AW G κ _ _ 2695 _ _ _
      refine sL_law_2695 hΓ rfl ?_
      have z9 : (gZ (rIn (xs (ii + 1)) 1 60) z (oWait n0 s (upd z 9 0) (B 0) (xs (ii + 1))) k8) 9 = 1 := (by unfold gZ; rw [if_neg (by rw [hH]; decide)]; exact upd_same _ _ _)
      refine sL_law_2697 hΓ (fun _ => ?_) (fun c9 => absurd z9 c9)
      refine sL_law_2702 hΓ rfl ?_
      refine sL_law_2704 hΓ (fun _ => ?_) (fun c9 => absurd c9 (by decide))
      refine sL_law_2719 hΓ ?_
      exact kk σ2 c _ _ _ _ _ _ _ (hS3.ls (fun hh => (by unfold gZ gB'; rw [if_neg (by rw [hH]; decide), if_neg (by rw [hH]; decide)]; exact hh.zc zJ9)))
    · refine (Or.inr ⟨rfl, ?_⟩)
      show AW G κ _ _ 2677 _ _ _
      have hS2 := hS.l2
      have hM2 := hS2.2.1
      refine sL_law_2677 hΓ ?_
      refine sL_law_2679 hΓ rfl ?_
      refine sL_law_2680 hΓ rfl ?_
      refine sL_law_2681 hΓ rfl ?_
      refine sL_law_2683 hΓ ?_
      refine sL_law_2684 hΓ ?_
      refine sL_law_2685 hΓ hA (j := ii + 1) (show _ = nI (ii + 1) by rw [hyi]; exact nI_add ii 1) (by omega) hn ?_
      refine sL_law_2686 hΓ 0 0 (Nat.le_of_ble_eq_true rfl) hM2.choose_spec.1.o (fun κ_2686 hΓ_2686 => rp_passTicks hΓ_2686 hM2 hW2 hz8 hk8 (fun σ2 h1 f2 => ?_) )
      show AW G κ _ _ 2689 _ _ _
      have hS3 := hS2.md h1 f2
      obtain ⟨A3, hMV3, hB3⟩ := id hS3.2.1
      obtain ⟨-, -, -, ho3, -⟩ := id hS3
      refine sL_law_2689 hΓ ?_
      refine sL_law_2691 hΓ rfl ?_
      refine sL_law_2692 hΓ 0 0 (Nat.le_of_ble_eq_true rfl) hMV3.o (fun κ_2692 hΓ_2692 => sp_thrown hΓ_2692 hMV3 ?_)
      show AW G κ _ _ 2695 _ _ _
      refine sL_law_2695 hΓ rfl ?_
      have z9 : (gZ (rIn (xs (ii + 1)) 1 60) z (oWait n0 s (upd z 9 0) (B 0) (xs (ii + 1))) k8) 9 = 2 := (by unfold gZ fZ; rw [if_pos hH.1, if_neg hH.2, oWait_no hH.2]; exact upd_same _ _ _)
      refine sL_law_2697 hΓ (fun _ => ?_) (fun c9 => absurd z9 c9)
      refine sL_law_2702 hΓ rfl ?_
      refine sL_law_2704 hΓ (fun _ => ?_) (fun c9 => absurd c9 (by decide))
      refine sL_law_2719 hΓ ?_
      exact kk σ2 c _ _ _ _ _ _ _ (hS3.ls (fun hh => (by unfold gZ gB' fZ fB; rw [if_pos hH.1, if_pos hH.1, if_neg hH.2, if_neg hH.2, oWait_no hH.2]; exact (show updA B 0 (B 0) = B from updA_id B 0).symm ▸ hh.zc (fun j hj => (zJ9 j hj).trans (zJ9 j hj)))))
end LawOpsC
