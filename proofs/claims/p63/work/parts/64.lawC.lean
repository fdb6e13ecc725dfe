/-! the law's text: say, end -/
section LawText2
variable {G : Gl} {κ : Kx} {d : Nat} {Q : Option Value → Hp → Prop} {X : String → Hp → Prop} {cs ss pc : Nat} {σ σ1 : Hp} {c c1 A : Nat → Nat} {x am w : Nat} {z z1 : Nat → Int32} {B B1 : Nat → Nat → Int32} {F F1 : Hp} {W : Nat → Int32} {l : List Nat}
theorem rng_succ (t : Nat → Nat) (k : Nat) : (List.range (k + 1)).map t = (List.range k).map t ++ [t k] := by
  rw [List.range_succ, List.map_append]
  rfl
theorem lm_say (hΓ : Ok G κ mL_say (d + 4) Q X) (hS : LwS G σ c x am A z B F) (hw : F w = some (eI G 6 W)) (hT : TI W z (B 15) l) {s wb n : Nat} {a : Nat → Int32} {t : Nat → Nat} (hs : F s = some (.inr (0, stV wb))) (hb : F wb = some (eB G n a)) (hn : n ≤ 640) (hL : sb_Lat t n a) (h1 : s ≠ w) (h2 : wb ≠ w) (ht : ∀ i, i < n → t i < 128) (hl : l.length + n ≤ 499) (hq : ∀ (σ1 : Hp) (z1 : Nat → Int32) (B1 : Nat → Nat → Int32) (W1 : Nat → Int32), LwS G σ1 c x am A z1 B1 (hset F w (eI G 6 W1)) → TI W1 z1 (B1 15) (l ++ (List.range n).map t) → B1 0 = B 0 → z1 8 = z 8 → Q none σ1) : AW G κ cs ss 0 [lR x, lR w, lR s, none] [] σ := by
  have loop : ∀ j k, k + j = n → ∀ (σ1 : Hp) (z1 : Nat → Int32) (B1 : Nat → Nat → Int32) (W1 : Nat → Int32), LwS G σ1 c x am A z1 B1 (hset F w (eI G 6 W1)) → TI W1 z1 (B1 15) (l ++ (List.range k).map t) → B1 0 = B 0 → z1 8 = z 8 → AW G κ cs ss 2 [lR x, lR w, lR s, lI (nI k)] [] σ1 := by
    intro j
    induction j with
    | zero =>
      intro k hk σ1 z1 B1 W1 hS1 hT1 e0 e8
      obtain rfl : k = n := by omega
      have hX : STx G σ1 s t k := ⟨wb, a, hS1.at ((hset_ne h1).trans hs), hS1.at ((hset_ne h2).trans hb), hn, hL⟩
      refine sL_say_2 hΓ rfl ?_
      refine sL_say_3 hΓ rfl ?_
      refine sL_say_4h hΓ 0 0 (Nat.le_of_ble_eq_true rfl) (hS1.at ((hset_ne h1).trans hs)) (fun κ2 hg => sh_length (d := d + 2) hg hX ?_)
      show AW G κ _ _ 7 _ _ _
      refine sL_say_7 hΓ (fun _ => ?_) (fun c9 => absurd (nI_le (Nat.le_refl _) (by omega)) c9)
      exact sL_say_26 hΓ (hq σ1 z1 B1 W1 hS1 hT1 e0 e8)
    | succ j ih =>
      intro k hk σ1 z1 B1 W1 hS1 hT1 e0 e8
      have hX : STx G σ1 s t n := ⟨wb, a, hS1.at ((hset_ne h1).trans hs), hS1.at ((hset_ne h2).trans hb), hn, hL⟩
      have hlen : (l ++ (List.range k).map t).length = l.length + k := by rw [List.length_append, List.length_map, List.length_range]
      refine sL_say_2 hΓ rfl ?_
      refine sL_say_3 hΓ rfl ?_
      refine sL_say_4h hΓ 0 0 (Nat.le_of_ble_eq_true rfl) (hS1.at ((hset_ne h1).trans hs)) (fun κ2 hg => sh_length (d := d + 2) hg hX ?_)
      show AW G κ _ _ 7 _ _ _
      refine sL_say_7 hΓ (fun c9 => absurd c9 (nI_ge (by omega) (by omega))) (fun _ => ?_)
      refine sL_say_10 hΓ rfl ?_
      refine sL_say_11 hΓ rfl ?_
      refine sL_say_12 hΓ rfl ?_
      refine sL_say_13 hΓ rfl ?_
      refine sL_say_14h hΓ 0 0 (Nat.le_of_ble_eq_true rfl) (hS1.at ((hset_ne h1).trans hs)) (fun κ2 hg => sh_charAt (d := d) hg hX (by omega) ?_)
      show AW G κ _ _ 17 _ _ _
      refine sL_say_17 hΓ 0 0 (Nat.le_of_ble_eq_true rfl) (fun κ2 hg => lm_add (d := d) hg hS1 (hset_same _ _ _) hT1 (ht k (by omega)) (by rw [hlen]; omega) (fun σ2 z2 B2 W2 hS2 hT2 e2 e82 _ => ?_))
      show AW G κ _ _ 20 _ _ _
      rw [hset_hset] at hS2
      rw [List.append_assoc, ← rng_succ] at hT2
      refine sL_say_20 hΓ rfl ?_
      refine sL_say_23 hΓ ?_
      show AW G κ cs ss 2 [lR x, lR w, lR s, lI (nI k + 1)] [] σ2
      rw [nI_1]
      exact ih (k + 1) (by omega) σ2 z2 B2 W2 hS2 hT2 (e2.trans e0) (e82.trans e8)
  refine sL_say_0 hΓ ?_
  refine sL_say_1 hΓ ?_
  refine loop n 0 (Nat.zero_add n) σ z B W ?_ (by rw [List.range_zero, List.map_nil, List.append_nil]; exact hT) rfl rfl
  rw [hset_id hw]
  exact hS
theorem lm_end (hΓ : Ok G κ mL_end (d + 4) Q X) (hS : LwS G σ c x am A z B F) (hw : F w = some (eI G 6 W)) (hT : TI W z (B 15) l) (hl : l.length ≤ 480) (hq : ∀ (σ1 : Hp) (z1 : Nat → Int32) (B1 : Nat → Nat → Int32) (W1 : Nat → Int32) (N : Nat), LwS G σ1 c x am A z1 B1 (hset F w (eI G 6 W1)) → l.length ≤ N → N ≤ 500 → z1 16 = nI N → (∀ j, j < l.length → B1 15 j = nI (gl l j)) → B1 0 = B 0 → z1 8 = z 8 → Q (some (.int (nI l.length))) σ1) : AW G κ cs ss 0 [lR x, lR w, none] [] σ := by
  have loop : ∀ j k, (l.length + k + j) % 20 = 0 → j < 20 → k + j < 20 → ∀ (σ1 : Hp) (z1 : Nat → Int32) (B1 : Nat → Nat → Int32) (W1 : Nat → Int32), LwS G σ1 c x am A z1 B1 (hset F w (eI G 6 W1)) → TI W1 z1 (B1 15) (l ++ List.replicate k 32) → B1 0 = B 0 → z1 8 = z 8 → AW G κ cs ss 4 [lR x, lR w, lI (nI l.length)] [] σ1 := by
    intro j
    induction j with
    | zero =>
      intro k hk hj hkj σ1 z1 B1 W1 hS1 hT1 e0 e8
      have hlen : (l ++ List.replicate k 32).length = l.length + k := by rw [List.length_append, List.length_replicate]
      have hw1 := hS1.at (hset_same _ _ _)
      refine sL_end_4 hΓ rfl ?_
      refine sL_end_5 hΓ ?_
      refine sL_end_6 hΓ hw1 (j := 5) rfl (by decide) (by decide) ?_
      rw [hT1.2.1, hlen]
      refine sL_end_7 hΓ ?_
      refine sL_end_9 hΓ (by decide) ?_
      rw [show nI (l.length + k) - nI (l.length + k) / 20 * 20 = nI ((l.length + k) % 20) from pk_rem (by omega) (by decide) (by decide)]
      refine sL_end_10 hΓ (fun _ => ?_) (fun c9 => absurd (by rw [show (l.length + k) % 20 = 0 by omega]; rfl) c9)
      refine sL_end_23 hΓ rfl ?_
      refine sL_end_24 hΓ ?_
      refine sL_end_25 hΓ ?_
      refine sL_end_26 hΓ hw1 (j := 5) rfl (by decide) (by decide) ?_
      refine sL_end_27 hΓ rfl ?_
      have hS2 := hS1.put (hset_same _ _ _) (eI G 6 (upd W1 5 0))
      rw [hset_hset] at hS2
      have eN : txN20 (l ++ List.replicate k 32) = l.length + k := by unfold txN20; rw [hlen]; omega
      refine sL_end_28 hΓ (hq _ z1 B1 _ (l.length + k) hS2 (by omega) (by omega) (by rw [hT1.2.2.2.1, eN]) (fun j hj => ?_) e0 e8)
      rw [hT1.2.2.2.2 j (by omega), gl_app hj]
    | succ j ih =>
      intro k hk hj hkj σ1 z1 B1 W1 hS1 hT1 e0 e8
      have hlen : (l ++ List.replicate k 32).length = l.length + k := by rw [List.length_append, List.length_replicate]
      have hw1 := hS1.at (hset_same _ _ _)
      refine sL_end_4 hΓ rfl ?_
      refine sL_end_5 hΓ ?_
      refine sL_end_6 hΓ hw1 (j := 5) rfl (by decide) (by decide) ?_
      rw [hT1.2.1, hlen]
      refine sL_end_7 hΓ ?_
      refine sL_end_9 hΓ (by decide) ?_
      rw [show nI (l.length + k) - nI (l.length + k) / 20 * 20 = nI ((l.length + k) % 20) from pk_rem (by omega) (by decide) (by decide)]
      refine sL_end_10 hΓ (fun c9 => absurd ((nI_eq (a := (l.length + k) % 20) (b := 0) (by omega) (by decide)).mp c9) (by omega)) (fun _ => ?_)
      refine sL_end_13 hΓ rfl ?_
      refine sL_end_14 hΓ rfl ?_
      refine sL_end_15 hΓ ?_
      refine sL_end_17 hΓ 0 0 (Nat.le_of_ble_eq_true rfl) (fun κ2 hg => lm_add (d := d) (b := 32) hg hS1 (hset_same _ _ _) hT1 (by decide) (by rw [hlen]; omega) (fun σ2 z2 B2 W2 hS2 hT2 e2 e82 _ => ?_))
      show AW G κ _ _ 20 _ _ _
      rw [hset_hset] at hS2
      rw [List.append_assoc, show List.replicate k 32 ++ [32] = List.replicate (k + 1) 32 from (List.replicate_succ' (n := k) (a := 32)).symm] at hT2
      refine sL_end_20 hΓ ?_
      exact ih (k + 1) (by omega) (by omega) (by omega) σ2 z2 B2 W2 hS2 hT2 (e2.trans e0) (e82.trans e8)
  have hw0 := hS.at hw
  refine sL_end_0 hΓ rfl ?_
  refine sL_end_1 hΓ ?_
  refine sL_end_2 hΓ hw0 (j := 5) rfl (by decide) (by decide) ?_
  rw [hT.2.1]
  refine sL_end_3 hΓ ?_
  refine loop ((20 - l.length % 20) % 20) 0 (by omega) (by omega) (by omega) σ z B W ?_ (by rw [List.replicate_zero, List.append_nil]; exact hT) rfl rfl
  rw [hset_id hw]
  exact hS
end LawText2
