/-! the law: its loops over the acts -/
def noF : Hp := fun _ => none
theorem GR.q {ρ : Nat → Int32} {n s τ : Nat} (h : GR ρ n s τ) : ∃ q, q ≤ 12 ∧ ρ 6 = nI q := h.1.ql
theorem alN_le {ρ : Nat → Int32} {n s τ q : Nat} (h : GR ρ n s τ) (hq : q ≤ 12) : alN n q s ≤ 150 := by
  have := h.2.2.2.1
  unfold alN
  omega
section LawLoop
variable {G : Gl} {κ : Kx} {d : Nat} {Q : Option Value → Hp → Prop} {X : String → Hp → Prop} {cs ss pc : Nat} {σ σ1 : Hp} {c c1 A : Nat → Nat} {x am n s τ k q m kk w q1 q2 a1 a2 : Nat} {z z1 : Nat → Int32} {B B1 : Nat → Nat → Int32} {F F1 : Hp} {v u l4 l5 : Int32} {ρ ρ1 : Nat → Int32} {C : Ct} {r6 o8 o9 o10 o11 : Option LV}
theorem LwS.cr (hS : LwS G σ c x am A z B F) (hV : RV (B 0) n s) : ∃ C, CR (B 0) n s C := by
  obtain ⟨C, hs_, ol, t_, q_, p_, tr_, -, -, hC⟩ := hS.tell hV
  exact ⟨C, hC⟩
theorem lw_415 (hΓ : Ok G κ mL_law (d + 11) Q X) (hS : LwS G σ c x am A z B F) (h : GR ρ n s τ) {ch : Bool} (hch : ch = false → ρ1 = ρ) (h6 : ρ 6 = nI q1) (hq1 : q1 ≤ 12) (h61 : ρ1 6 = nI q2) (hq2 : q2 ≤ 12) (hk8 : kk ≤ 8) (hz : z 8 = nI (if ch = true then hCnt kk else kk)) (f1 : F a1 = some (eI G (alN n q1 s) (alF ρ n q1 s))) (f2 : F a2 = some (eI G (alN n q2 s) (alF ρ1 n q2 s))) (kx : AW G κ cs ss 443 [lR (gE G 2), lR x, lR w, lI v, lI l4, lI l5, r6, lI (nI k), lI u, lR a1, lI (nI kk), lR a2] [] σ) : AW G κ cs ss 415 [lR (gE G 2), lR x, lR w, lI v, lI l4, lI l5, r6, lI (nI k), lI u, lR a1, lI (nI kk), lR a2] [] σ := by
  obtain ⟨fs, ho⟩ := hS.o
  have hN := alN_le h hq1
  refine sL_law_415 hΓ rfl ?_
  refine sL_law_416 hΓ 0 0 (Nat.le_of_ble_eq_true rfl) ho (fun κ_416 hΓ_416 => ct_undoableCount hΓ_416 hS ?_)
  show AW G κ _ _ 419 _ _ _
  refine sL_law_419 hΓ rfl ?_
  refine sL_law_421 hΓ (fun c421 => ?_) (fun c421 => ?_)
  · exact kx
  · refine sL_law_424 hΓ rfl ?_
    refine sL_law_426 hΓ ?_
    refine sL_law_428 hΓ (fun c428 => ?_) (fun c428 => ?_)
    · exact kx
    · have hk7 : kk < 8 := by
        rcases Nat.lt_or_ge kk 8 with e | e
        · exact e
        · exact absurd (show nI 8 ≤ nI kk from nI_le e (by omega)) c428
      have ec : ch = false := by
        cases hc : ch with
        | false => rfl
        | true =>
          rw [hz, hc, if_pos rfl] at c421
          unfold hCnt at c421
          rw [if_neg (by omega)] at c421
          have := (nI_eq (a := kk + 1) (b := kk) (by omega) (by omega)).mp c421
          omega
      have er := hch ec
      subst er
      have eq := (nI_eq (a := q1) (b := q2) (by omega) (by omega)).mp (h6.symm.trans h61)
      subst eq
      refine sL_law_431 hΓ rfl ?_
      refine sL_law_433 hΓ rfl ?_
      refine sL_law_435 hΓ 0 0 (Nat.le_of_ble_eq_true rfl) (fun κ_435 hΓ_435 => lm_alike hΓ_435 (hS.at f1) (hS.at f2) (show alN n q1 s < 2 ^ 31 by omega) ?_)
      show AW G κ _ _ 438 _ _ _
      refine sL_law_438 hΓ (fun c438 => ?_) (fun c438 => absurd c438 (by decide))
      exact kx
theorem lw_324 (hΓ : Ok G κ mL_law (d + 11) Q X) (hS : LwS G σ c x am A z B noF) (h : GR (B 0) n s τ) (hτ : τ + 60 ≤ 10000) (hk40 : k < 40) (hk8 : kk ≤ 8) (hz8 : z 8 = nI kk) (kx : ∀ (σ1 : Hp) (c1 : Nat → Nat) (z1 : Nat → Int32) (B1 : Nat → Nat → Int32) (τ1 kk1 a1 a2 : Nat), LwS G σ1 c1 x am A z1 B1 noF → GR (B1 0) n s τ1 → τ1 ≤ τ + 60 → kk1 ≤ 8 → z1 8 = nI kk1 → AW G κ cs ss 443 [lR (gE G 2), lR x, lR w, lI v, lI l4, lI l5, r6, lI (nI k), lI u, lR a1, lI (nI kk), lR a2] [] σ1) : AW G κ (cs + 140 + 220 + 140 + 8 + 140 + 220 + 140) (ss + 1000 + 1200 + 1000 + 102 + 1000 + 1200 + 1000) 324 [lR (gE G 2), lR x, lR w, lI v, lI l4, lI l5, r6, lI (nI k), lI u, o9, o10, o11] [] σ := by
  obtain ⟨C, hC⟩ := hS.cr h.1
  obtain ⟨ch, ρ1, τ1, gr1, t1, hch, run⟩ := lm_act h hC hτ u
  obtain ⟨q1, hq1, h6⟩ := h.q
  obtain ⟨q2, hq2, h61⟩ := gr1.q
  have hN1 := alN_le h hq1
  have hN2 := alN_le gr1 hq2
  have hkc : (if ch = true then hCnt kk else kk) ≤ 8 := by
    unfold hCnt
    split
    · split <;> omega
    · exact hk8
  have fin : ∀ (σ3 : Hp) (c3 : Nat → Nat) (z3 : Nat → Int32) (B3 : Nat → Nat → Int32) (F3 : Hp) (a1 a2 : Nat), LwS G σ3 c3 x am A z3 B3 F3 → AcO (B 0) ρ1 ch kk z B z3 B3 ∨ (B3 0 = ρ1 ∧ z3 8 = nI (if ch = true then hCnt kk else kk)) → F3 a1 = some (eI G (alN n q1 s) (alF (B 0) n q1 s)) → F3 a2 = some (eI G (alN n q2 s) (alF ρ1 n q2 s)) → AW G κ cs ss 415 [lR (gE G 2), lR x, lR w, lI v, lI l4, lI l5, r6, lI (nI k), lI u, lR a1, lI (nI kk), lR a2] [] σ3 := fun σ3 c3 z3 B3 F3 a1 a2 hS3 hA3 f1 f2 => by
    obtain ⟨e0, e8⟩ : B3 0 = ρ1 ∧ z3 8 = nI (if ch = true then hCnt kk else kk) := by
      rcases hA3 with e | e
      · exact ⟨e.1, e.2.2.2.1⟩
      · exact e
    refine lw_415 hΓ hS3 h hch h6 hq1 h61 hq2 hk8 e8 f1 f2 ?_
    exact kx σ3 c3 z3 B3 τ1 _ a1 a2 (hS3.less (fun y e hy => by cases hy)) (by rw [e0]; exact gr1) t1 hkc e8
  show AW G κ (cs + 140 + 220 + 140 + 8 + 140 + 220 + 140) (ss + 1000 + 1200 + 1000 + 102 + 1000 + 1200 + 1000) 324 _ [] σ
  refine sL_law_324 hΓ rfl ?_
  refine sL_law_325 hΓ 140 1000 (Nat.le_of_ble_eq_true rfl) (fun κ_325 hΓ_325 => ct_all hΓ_325 hS h.1 h6 hq1 (fun a1 ha1 ga1 => ?_))
  show AW G κ _ _ 328 _ _ _
  have hS1 := hS.new ha1 (eI G (alN n q1 s) (alF (B 0) n q1 s))
  obtain ⟨fs1, ho1⟩ := hS1.o
  refine sL_law_328 hΓ ?_
  refine sL_law_330 hΓ rfl ?_
  refine sL_law_331 hΓ 0 0 (Nat.le_of_ble_eq_true rfl) ho1 (fun κ_331 hΓ_331 => ct_undoableCount hΓ_331 hS1 ?_)
  show AW G κ _ _ 334 _ _ _
  rw [hz8]
  refine sL_law_334 hΓ ?_
  refine sL_law_336 hΓ rfl ?_
  refine sL_law_337 hΓ rfl ?_
  refine sL_law_339 hΓ 220 1200 (Nat.le_of_ble_eq_true rfl) (fun κ_339 hΓ_339 => run _ _ _ _ _ _ _ _ _ _ _ _ _ _ _ _ hΓ_339 hS1 rfl hk8 hz8 (fun σ2 c2 z2 B2 hS2 hA2 => ?_))
  show AW G κ _ _ 342 _ _ _
  have gB2 : GR (B2 0) n s τ1 := by rw [hA2.1]; exact gr1
  have h62 : B2 0 6 = nI q2 := by rw [hA2.1]; exact h61
  refine sL_law_342 hΓ (fun c342 => ?_) (fun c342 => absurd c342 (by decide))
  refine sL_law_347 hΓ rfl ?_
  refine sL_law_348 hΓ 140 1000 (Nat.le_of_ble_eq_true rfl) (fun κ_348 hΓ_348 => ct_all hΓ_348 hS2 gB2.1 h62 hq2 (fun a2 ha2 ga2 => ?_))
  show AW G κ _ _ 351 _ _ _
  rw [hA2.1]
  have hS3 := hS2.new ha2 (eI G (alN n q2 s) (alF ρ1 n q2 s))
  obtain ⟨fs3, ho3⟩ := hS3.o
  have n21 : a1 ≠ a2 := fun e => by
    have h9 := (hS2.at (hset_same _ _ _) : σ2 a1 = _)
    rw [e, ha2] at h9
    cases h9
  refine sL_law_351 hΓ ?_
  refine sL_law_353 hΓ rfl ?_
  refine sL_law_354 hΓ 0 0 (Nat.le_of_ble_eq_true rfl) ho3 (fun κ_354 hΓ_354 => ct_undoableCount hΓ_354 hS3 ?_)
  show AW G κ _ _ 357 _ _ _
  rw [hA2.2.2.2.1]
  refine sL_law_357 hΓ rfl ?_
  refine sL_law_359 hΓ ?_
  refine sL_law_360 hΓ ?_
  skip
  have f31 : hset (hset noF a1 (eI G (alN n q1 s) (alF (B 0) n q1 s))) a2 (eI G (alN n q2 s) (alF ρ1 n q2 s)) a1 = some (eI G (alN n q1 s) (alF (B 0) n q1 s)) := (hset_ne n21).trans (hset_same _ _ _)
  have f32 : hset (hset noF a1 (eI G (alN n q1 s) (alF (B 0) n q1 s))) a2 (eI G (alN n q2 s) (alF ρ1 n q2 s)) a2 = some (eI G (alN n q2 s) (alF ρ1 n q2 s)) := hset_same _ _ _
  have done : ∀ st : Unit, AW G κ (cs + 140 + 220 + 140 + 8) (ss + 1000 + 1200 + 1000 + 102) 415 [lR (gE G 2), lR x, lR w, lI v, lI l4, lI l5, r6, lI (nI k), lI u, lR a1, lI (nI kk), lR a2] [] (hset σ2 a2 (eI G (alN n q2 s) (alF ρ1 n q2 s))) := fun _ => aw_less (by omega) (by omega) (fin _ _ z2 B2 _ a1 a2 hS3 (Or.inl hA2) f31 f32)
  refine sL_law_361 hΓ (fun c361 => ?_) (fun c361 => ?_)
  · exact done ()
  · have ec : ch = true ∧ kk < 8 := by
      cases hc : ch with
      | false =>
        rw [hc, if_neg (by decide), nI_1] at c361
        have := (nI_eq (a := kk) (b := kk + 1) (by omega) (by omega)).mp c361
        omega
      | true =>
        refine ⟨rfl, ?_⟩
        rw [hc, if_pos rfl, nI_1] at c361
        unfold hCnt at c361
        by_cases e8 : kk = 8
        · rw [if_pos e8, e8] at c361
          exact absurd c361 (by decide)
        · omega
    obtain ⟨ec, hk7⟩ := ec
    subst ec
    have ehc : hCnt kk = kk + 1 := by unfold hCnt; rw [if_neg (by omega)]
    refine sL_law_364 hΓ rfl ?_
    refine sL_law_366 hΓ ?_
    refine sL_law_367 hΓ (by decide) ?_
    refine sL_law_368 hΓ (fun c368 => ?_) (fun c368 => ?_)
    · exact done ()
    · refine sL_law_371 hΓ rfl ?_
      refine sL_law_372 hΓ 8 102 (Nat.le_of_ble_eq_true rfl) ho3 (fun κ_372 hΓ_372 => ct_undo hΓ_372 hS3 gB2.1 (kk := kk + 1) (by omega) (by rw [hA2.2.2.2.1, if_pos rfl, ehc]) (by omega) (ρ := B 0) h.1 (fun j hj => by have e9 := hA2.2.2.2.2 rfl j hj; rw [ehc] at e9; exact e9.symm) (fun σ4 c4 hS4 => ?_))
      show AW G κ _ _ 375 _ _ _
      refine sL_law_375 hΓ rfl ?_
      refine sL_law_377 hΓ (fun c377 => absurd rfl c377) (fun c377 => ?_)
      refine sL_law_380 hΓ rfl ?_
      refine sL_law_381 hΓ 140 1000 (Nat.le_of_ble_eq_true rfl) (fun κ_381 hΓ_381 => ct_all hΓ_381 hS4 (show RV (updA B2 0 (B 0) 0) n s from h.1) (show updA B2 0 (B 0) 0 6 = nI q1 from h6) hq1 (fun a3 ha3 ga3 => ?_))
      show AW G κ _ _ 384 _ _ _
      have hS5 := hS4.new ha3 (eI G (alN n q1 s) (alF (B 0) n q1 s))
      have n3 : ∀ y e, hset (hset noF a1 (eI G (alN n q1 s) (alF (B 0) n q1 s))) a2 (eI G (alN n q2 s) (alF ρ1 n q2 s)) y = some e → y ≠ a3 := fun y e hy e9 => by
        have h9 := hS4.at hy
        rw [e9, ha3] at h9
        cases h9
      have f51 := (hset_ne (e := eI G (alN n q1 s) (alF (B 0) n q1 s)) (n3 a1 _ f31)).trans f31
      have f52 := (hset_ne (e := eI G (alN n q1 s) (alF (B 0) n q1 s)) (n3 a2 _ f32)).trans f32
      refine sL_law_384 hΓ rfl ?_
      refine sL_law_386 hΓ 0 0 (Nat.le_of_ble_eq_true rfl) (fun κ_386 hΓ_386 => lm_alike hΓ_386 (f := alF (B 0) n q1 s) (hset_same _ _ _) (hS5.at f51) (show alN n q1 s < 2 ^ 31 by omega) ?_)
      show AW G κ _ _ 389 _ _ _
      refine sL_law_389 hΓ (fun c389 => absurd c389 (by decide)) (fun c389 => ?_)
      refine sL_law_392 hΓ rfl ?_
      refine sL_law_393 hΓ rfl ?_
      refine sL_law_395 hΓ 220 1200 (Nat.le_of_ble_eq_true rfl) (fun κ_395 hΓ_395 => run _ _ _ _ _ _ _ _ _ _ _ _ _ _ _ _ hΓ_395 hS5 rfl hk8 rfl (fun σ6 c6 z6 B6 hS6 hA6 => ?_))
      show AW G κ _ _ 398 _ _ _
      refine sL_law_398 hΓ (fun c398 => absurd c398 (by decide)) (fun c398 => ?_)
      refine sL_law_401 hΓ rfl ?_
      refine sL_law_402 hΓ 140 1000 (Nat.le_of_ble_eq_true rfl) (fun κ_402 hΓ_402 => ct_all hΓ_402 hS6 (show RV (B6 0) n s by rw [hA6.1]; exact gr1.1) (show B6 0 6 = nI q2 by rw [hA6.1]; exact h61) hq2 (fun a4 ha4 ga4 => ?_))
      show AW G κ _ _ 405 _ _ _
      rw [hA6.1]
      have hS7 := hS6.new ha4 (eI G (alN n q2 s) (alF ρ1 n q2 s))
      have n4 : ∀ y e, hset (hset (hset noF a1 (eI G (alN n q1 s) (alF (B 0) n q1 s))) a2 (eI G (alN n q2 s) (alF ρ1 n q2 s))) a3 (eI G (alN n q1 s) (alF (B 0) n q1 s)) y = some e → y ≠ a4 := fun y e hy e9 => by
        have h9 := hS6.at hy
        rw [e9, ha4] at h9
        cases h9
      have f71 := (hset_ne (e := eI G (alN n q2 s) (alF ρ1 n q2 s)) (n4 a1 _ f51)).trans f51
      have f72 := (hset_ne (e := eI G (alN n q2 s) (alF ρ1 n q2 s)) (n4 a2 _ f52)).trans f52
      refine sL_law_405 hΓ rfl ?_
      refine sL_law_407 hΓ 0 0 (Nat.le_of_ble_eq_true rfl) (fun κ_407 hΓ_407 => lm_alike hΓ_407 (f := alF ρ1 n q2 s) (hset_same _ _ _) (hS7.at f72) (show alN n q2 s < 2 ^ 31 by omega) ?_)
      show AW G κ _ _ 410 _ _ _
      refine sL_law_410 hΓ (fun c410 => ?_) (fun c410 => absurd c410 (by decide))
      exact aw_less (by omega) (by omega) (fin _ _ z6 B6 _ a1 a2 hS7 (Or.inr ⟨hA6.1, hA6.2.2.2.1⟩) f71 f72)
theorem lw_D (hΓ : Ok G κ mL_law (d + 11) Q X) (hG3 : gE G 3 ≤ 260) (kx : ∀ (σ : Hp) (c : Nat → Nat) (z : Nat → Int32) (B : Nat → Nat → Int32) (τ kk : Nat) (o8 o9 o10 o11 : Option LV), LwS G σ c x am A z B noF → GR (B 0) n s τ → τ ≤ 2400 → kk ≤ 8 → z 8 = nI kk → AW G κ cs ss 449 [lR (gE G 2), lR x, lR w, lI v, lI l4, lI l5, r6, lI 40, o8, o9, o10, o11] [] σ) : ∀ j k, k + j = 40 → ∀ (σ : Hp) (c : Nat → Nat) (z : Nat → Int32) (B : Nat → Nat → Int32) (τ kk : Nat) (o8 o9 o10 o11 : Option LV), LwS G σ c x am A z B noF → GR (B 0) n s τ → τ ≤ 60 * k → kk ≤ 8 → z 8 = nI kk → AW G κ (cs + 2100 * j) (ss + 14000 * j) 279 [lR (gE G 2), lR x, lR w, lI v, lI l4, lI l5, r6, lI (nI k), o8, o9, o10, o11] [] σ := by
  intro j
  induction j with
  | zero =>
    intro k hk σ c z B τ kk o8 o9 o10 o11 hS h hτ hk8 hz8
    obtain rfl : k = 40 := by omega
    refine sL_law_279 hΓ rfl ?_
    refine sL_law_281 hΓ ?_
    refine sL_law_283 hΓ (fun c283 => ?_) (fun c283 => absurd (show nI 40 ≤ nI 40 from Int32.le_refl _) c283)
    exact kx σ c z B τ kk o8 o9 o10 o11 hS h (by omega) hk8 hz8
  | succ j ih =>
    intro k hk σ c z B τ kk o8 o9 o10 o11 hS h hτ hk8 hz8
    have hk40 : k < 40 := by omega
    have g443 : ∀ (u : Int32) (σ1 : Hp) (c1 : Nat → Nat) (z1 : Nat → Int32) (B1 : Nat → Nat → Int32) (τ1 kk1 a1 a2 kk : Nat), LwS G σ1 c1 x am A z1 B1 noF → GR (B1 0) n s τ1 → τ1 ≤ τ + 60 → kk1 ≤ 8 → z1 8 = nI kk1 → AW G κ (cs + 2100 * j) (ss + 14000 * j) 443 [lR (gE G 2), lR x, lR w, lI v, lI l4, lI l5, r6, lI (nI k), lI u, lR a1, lI (nI kk), lR a2] [] σ1 := fun u σ1 c1 z1 B1 τ1 kk1 a1 a2 kk hS1 h1 ht1 hk1 hz1 => by
      refine sL_law_443 hΓ rfl ?_
      refine sL_law_446 hΓ ?_
      skip
      show AW G κ (cs + 2100 * j) (ss + 14000 * j) 279 [lR (gE G 2), lR x, lR w, lI v, lI l4, lI l5, r6, lI (nI k + 1), lI u, lR a1, lI (nI kk), lR a2] [] σ1
      rw [nI_1]
      exact ih (k + 1) (by omega) σ1 c1 z1 B1 τ1 kk1 _ _ _ _ hS1 h1 (by omega) hk1 hz1
    refine aw_less (cs2 := cs + 2100 * j + 140 + 220 + 140 + 8 + 140 + 220 + 140 + 1000) (ss2 := ss + 14000 * j + 1000 + 1200 + 1000 + 102 + 1000 + 1200 + 1000 + 7000) (by omega) (by omega) ?_
    obtain ⟨cs9, hcs⟩ : ∃ q, q = cs + 2100 * j + 140 + 220 + 140 + 8 + 140 + 220 + 140 + 1000 := ⟨_, rfl⟩
    obtain ⟨ss9, hss⟩ : ∃ q, q = ss + 14000 * j + 1000 + 1200 + 1000 + 102 + 1000 + 1200 + 1000 + 7000 := ⟨_, rfl⟩
    rw [← hcs, ← hss]
    have e28 : (8 : Int32) + (nI k - nI k / 28 * 28) = nI (8 + k % 28) := by
      rw [show nI k - nI k / 28 * 28 = nI (k % 28) from pk_rem (by omega) (by decide) (by decide)]
      exact nI_add 8 _
    refine sL_law_279 hΓ rfl ?_
    refine sL_law_281 hΓ ?_
    refine sL_law_283 hΓ (fun c283 => absurd c283 (show ¬ nI 40 ≤ nI k from nI_ge hk40 (by decide))) (fun c283 => ?_)
    refine sL_law_286 hΓ rfl ?_
    refine sL_law_287 hΓ ?_
    refine sL_law_289 hΓ rfl ?_
    refine sL_law_291 hΓ ?_
    refine sL_law_293 hΓ (by decide) ?_
    refine sL_law_294 hΓ ?_
    rw [e28]
    refine sL_law_295 hΓ 0 0 (Nat.le_of_ble_eq_true rfl) (fun κ_295 hΓ_295 => lm_cell hΓ_295 hG3 (k := 8 + k % 28) (by omega) ?_)
    show AW G κ _ _ 298 _ _ _
    rw [hcs, hss]
    refine sL_law_298 hΓ rfl ?_
    refine sL_law_300 hΓ ?_
    refine sL_law_302 hΓ (by decide) ?_
    refine sL_law_303 hΓ ?_
    refine sL_law_304 hΓ ?_
    refine sL_law_305 hΓ ?_
    refine sL_law_306 hΓ ?_
    refine sL_law_308 hΓ rfl ?_
    refine sL_law_310 hΓ ?_
    refine sL_law_311 hΓ (by decide) ?_
    refine sL_law_312 hΓ (fun c312 => ?_) (fun c312 => ?_)
    · refine aw_less (cs2 := cs + 2100 * j + 140 + 220 + 140 + 8 + 140 + 220 + 140) (ss2 := ss + 14000 * j + 1000 + 1200 + 1000 + 102 + 1000 + 1200 + 1000) (by omega) (by omega) ?_
      exact lw_324 hΓ hS h (by omega) hk40 hk8 hz8 (fun σ1 c1 z1 B1 τ1 kk1 a1 a2 h1 h2 h3 h4 h5 => g443 _ σ1 c1 z1 B1 τ1 kk1 a1 a2 kk h1 h2 h3 h4 h5)
    · refine sL_law_315 hΓ rfl ?_
      refine sL_law_316 hΓ 1000 7000 (Nat.le_of_ble_eq_true rfl) (fun κ_316 hΓ_316 => ct_isRailway hΓ_316 hS h (fun σ1 c1 hS1 => ?_))
      show AW G κ _ _ 319 _ _ _
      refine sL_law_319 hΓ (fun c319 => ?_) (fun c319 => absurd c319 (by decide))
      exact lw_324 hΓ hS1 (show GR (B 0) n s τ from h) (by omega) hk40 hk8 (show z 8 = nI kk from hz8) (fun σ1 c1 z1 B1 τ1 kk1 a1 a2 h1 h2 h3 h4 h5 => g443 _ σ1 c1 z1 B1 τ1 kk1 a1 a2 kk h1 h2 h3 h4 h5)
theorem lw_E (hΓ : Ok G κ mL_law (d + 11) Q X) (hG3 : gE G 3 ≤ 260) (kx : ∀ (σ : Hp) (c : Nat → Nat) (z : Nat → Int32) (B : Nat → Nat → Int32) (τ : Nat), LwS G σ c x am A z B F → GR (B 0) n s τ → z 12 = 1 → B 4 = ρ → AW G κ cs ss 492 [lR (gE G 2), lR x, lR w, lI v, lI l4, lI l5, r6, lR a1, lI 5, o9, o10, o11] [] σ) : ∀ j k, k + j = 5 → ∀ (σ : Hp) (c : Nat → Nat) (z : Nat → Int32) (B : Nat → Nat → Int32) (τ kk : Nat), LwS G σ c x am A z B F → GR (B 0) n s τ → τ ≤ 2400 + 60 * k → kk ≤ 8 → z 8 = nI kk → z 12 = 1 → B 4 = ρ → AW G κ (cs + 220 * j) (ss + 1200 * j) 462 [lR (gE G 2), lR x, lR w, lI v, lI l4, lI l5, r6, lR a1, lI (nI k), o9, o10, o11] [] σ := by
  intro j
  induction j with
  | zero =>
    intro k hk σ c z B τ kk hS h hτ hk8 hz8 h12 h4
    obtain rfl : k = 5 := by omega
    refine sL_law_462 hΓ rfl ?_
    refine sL_law_464 hΓ ?_
    refine sL_law_465 hΓ (fun c465 => ?_) (fun c465 => absurd (show nI 5 ≤ nI 5 from Int32.le_refl _) c465)
    exact kx σ c z B τ hS h h12 h4
  | succ j ih =>
    intro k hk σ c z B τ kk hS h hτ hk8 hz8 h12 h4
    have hk5 : k < 5 := by omega
    obtain ⟨C, hC⟩ := hS.cr h.1
    refine aw_less (cs2 := cs + 220 * j + 220) (ss2 := ss + 1200 * j + 1200) (by omega) (by omega) ?_
    have e36 : (36 : Int32) + nI k = nI (36 + k) := nI_add 36 k
    obtain ⟨ch, ρ1, τ1, gr1, t1, hch, run⟩ := lm_act h hC (by omega) (clF G (36 + k))
    have hkc : (if ch = true then hCnt kk else kk) ≤ 8 := by
      unfold hCnt
      split
      · split <;> omega
      · exact hk8
    refine sL_law_462 hΓ rfl ?_
    refine sL_law_464 hΓ ?_
    refine sL_law_465 hΓ (fun c465 => absurd c465 (show ¬ nI 5 ≤ nI k from nI_ge hk5 (by decide))) (fun c465 => ?_)
    refine sL_law_468 hΓ rfl ?_
    refine sL_law_469 hΓ rfl ?_
    refine sL_law_470 hΓ ?_
    refine sL_law_472 hΓ rfl ?_
    refine sL_law_474 hΓ ?_
    rw [e36]
    refine sL_law_475 hΓ 0 0 (Nat.le_of_ble_eq_true rfl) (fun κ_475 hΓ_475 => lm_cell hΓ_475 hG3 (k := 36 + k) (by omega) ?_)
    show AW G κ _ _ 478 _ _ _
    refine sL_law_478 hΓ 220 1200 (Nat.le_of_ble_eq_true rfl) (fun κ_478 hΓ_478 => run _ _ _ _ _ _ _ _ _ _ _ _ _ _ _ _ hΓ_478 hS rfl hk8 hz8 (fun σ2 c2 z2 B2 hS2 hA2 => ?_))
    show AW G κ _ _ 481 _ _ _
    refine sL_law_481 hΓ (fun c481 => ?_) (fun c481 => absurd c481 (by decide))
    refine sL_law_486 hΓ rfl ?_
    refine sL_law_489 hΓ ?_
    skip
    show AW G κ (cs + 220 * j) (ss + 1200 * j) 462 [lR (gE G 2), lR x, lR w, lI v, lI l4, lI l5, r6, lR a1, lI (nI k + 1), o9, o10, o11] [] σ2
    rw [nI_1]
    exact ih (k + 1) (by omega) σ2 c2 z2 B2 τ1 _ hS2 (by rw [hA2.1]; exact gr1) (by omega) hkc hA2.2.2.2.1 (hA2.2.2.1.trans h12) (hA2.2.1.trans h4)
theorem lw_449 (hΓ : Ok G κ mL_law (d + 11) Q X) (hG3 : gE G 3 ≤ 260) (hS : LwS G σ c x am A z B noF) (h : GR (B 0) n s τ) (hτ : τ ≤ 2400) (hk8 : kk ≤ 8) (hz8 : z 8 = nI kk) (hq : ∀ σ1 : Hp, Q (some (.int 1)) σ1) : AW G κ (cs + 140 + 8 + 220 * 5 + 140 + 7) (ss + 1000 + 102 + 1200 * 5 + 1000 + 96) 449 [lR (gE G 2), lR x, lR w, lI v, lI l4, lI l5, r6, lI 40, o8, o9, o10, o11] [] σ := by
  obtain ⟨fs, ho⟩ := hS.o
  obtain ⟨q1, hq1, h6⟩ := h.q
  have hN1 := alN_le h hq1
  refine sL_law_449 hΓ rfl ?_
  refine sL_law_450 hΓ 7 96 (Nat.le_of_ble_eq_true rfl) ho (fun κ_450 hΓ_450 => ct_saveSnapshot hΓ_450 hS h.1 (fun σ1 c1 hS1 => ?_))
  show AW G κ _ _ 453 _ _ _
  refine sL_law_453 hΓ rfl ?_
  refine sL_law_454 hΓ 140 1000 (Nat.le_of_ble_eq_true rfl) (fun κ_454 hΓ_454 => ct_all hΓ_454 hS1 (show RV (updA B 4 (B 0) 0) n s from h.1) (show updA B 4 (B 0) 0 6 = nI q1 from h6) hq1 (fun a1 ha1 ga1 => ?_))
  show AW G κ _ _ 457 _ _ _
  have hS2 := hS1.new ha1 (eI G (alN n q1 s) (alF (B 0) n q1 s))
  refine sL_law_457 hΓ ?_
  refine sL_law_459 hΓ ?_
  refine sL_law_460 hΓ ?_
  skip
  refine lw_E (ρ := B 0) hΓ hG3 (fun σ3 c3 z3 B3 τ3 hS3 h3 h12 h4 => ?_) 5 0 rfl _ _ (upd (upd z 9 0) 12 1) (updA B 4 (B 0)) τ kk hS2 h (by omega) hk8 hz8 rfl rfl
  obtain ⟨fs3, ho3⟩ := hS3.o
  refine sL_law_492 hΓ rfl ?_
  refine sL_law_493 hΓ 8 102 (Nat.le_of_ble_eq_true rfl) ho3 (fun κ_493 hΓ_493 => ct_restoreSnapshot hΓ_493 hS3 h3.1 h12 (ρ := B 0) h.1 h4 (fun σ4 c4 hS4 => ?_))
  show AW G κ _ _ 496 _ _ _
  refine sL_law_496 hΓ rfl ?_
  refine sL_law_498 hΓ ?_
  refine sL_law_499 hΓ (hS4.at (hset_same _ _ _)) (j := 0) rfl (by unfold alN; omega) (show alN n q1 s < 2 ^ 31 by omega) ?_
  refine sL_law_500 hΓ (fun c500 => absurd (alF_0 _ _ _ _).symm c500) (fun c500 => ?_)
  refine sL_law_503 hΓ rfl ?_
  refine sL_law_504 hΓ 140 1000 (Nat.le_of_ble_eq_true rfl) (fun κ_504 hΓ_504 => ct_all hΓ_504 hS4 (show RV (updA B3 0 (B 0) 0) n s from h.1) (show updA B3 0 (B 0) 0 6 = nI q1 from h6) hq1 (fun a3 ha3 ga3 => ?_))
  show AW G κ _ _ 507 _ _ _
  have hS5 := hS4.new ha3 (eI G (alN n q1 s) (alF (B 0) n q1 s))
  obtain ⟨fs5, ho5⟩ := hS5.o
  have n13 : a1 ≠ a3 := fun e => by
    have h9 := (hS4.at (hset_same _ _ _) : σ4 a1 = _)
    rw [e, ha3] at h9
    cases h9
  refine sL_law_507 hΓ rfl ?_
  refine sL_law_509 hΓ 0 0 (Nat.le_of_ble_eq_true rfl) (fun κ_509 hΓ_509 => lm_alike hΓ_509 (f := alF (B 0) n q1 s) (hset_same _ _ _) (hS5.at ((hset_ne n13).trans (hset_same _ _ _))) (show alN n q1 s < 2 ^ 31 by omega) ?_)
  show AW G κ _ _ 512 _ _ _
  refine sL_law_512 hΓ (fun c512 => absurd c512 (by decide)) (fun c512 => ?_)
  refine sL_law_515 hΓ rfl ?_
  refine sL_law_516 hΓ 0 0 (Nat.le_of_ble_eq_true rfl) ho5 (fun κ_516 hΓ_516 => ct_undoableCount hΓ_516 hS5 ?_)
  show AW G κ _ _ 519 _ _ _
  refine sL_law_519 hΓ (fun c519 => absurd rfl c519) (fun c519 => ?_)
  refine sL_law_522 hΓ ?_
  refine sL_law_523 hΓ ?_
  exact sL_law_527 hΓ (Or.inr rfl) (hq _)
end LawLoop
