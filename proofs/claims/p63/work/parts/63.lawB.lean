/-! the law's text, packed -/
def gl (l : List Nat) (j : Nat) : Nat := l.getD j 0
def pkN (l : List Nat) (p : Nat) : Nat := 16777216 * gl l p + 65536 * gl l (p + 1) + 256 * gl l (p + 2) + gl l (p + 3)
theorem gl_out {l : List Nat} {j : Nat} (h : l.length ≤ j) : gl l j = 0 := by
  unfold gl
  rw [List.getD_eq_getElem?_getD, List.getElem?_eq_none h]
  rfl
theorem gl_app {l m : List Nat} {j : Nat} (h : j < l.length) : gl (l ++ m) j = gl l j := by
  unfold gl
  rw [List.getD_eq_getElem?_getD, List.getD_eq_getElem?_getD, List.getElem?_append_left h]
theorem gl_last {l : List Nat} {c : Nat} : gl (l ++ [c]) l.length = c := by
  unfold gl
  rw [List.getD_eq_getElem?_getD, List.getElem?_append_right (Nat.le_refl _), Nat.sub_self]
  rfl
theorem gl_ne {l : List Nat} {c j : Nat} (h : j ≠ l.length) : gl (l ++ [c]) j = gl l j := by
  rcases Nat.lt_or_ge j l.length with h1 | h1
  · exact gl_app h1
  · rw [gl_out (by rw [List.length_append]; show l.length + 1 ≤ j; omega), gl_out h1]
def l7 (l : List Nat) : Prop := ∀ j, gl l j < 128
theorem l7.app {l : List Nat} (h : l7 l) {c : Nat} (hc : c < 128) : l7 (l ++ [c]) := fun j => by
  by_cases e : j = l.length
  · rw [e, gl_last]; exact hc
  · rw [gl_ne e]; exact h j
theorem pkN_lt {l : List Nat} (h : l7 l) (p : Nat) : pkN l p < 2 ^ 31 := by
  have h0 := h p
  have h1 := h (p + 1)
  have h2 := h (p + 2)
  have h3 := h (p + 3)
  unfold pkN
  omega
theorem or_low {a b k : Nat} (h : b < 2 ^ k) : 2 ^ k * a ||| b = 2 ^ k * a + b := (Nat.two_pow_add_eq_or_of_lt h a).symm
/-- the word in which the next letter falls -/
theorem pkN_or {l : List Nat} (h : l7 l) {c p m : Nat} (hc : c < 128) (hm : m < 4) (hp : p + m = l.length) : pkN l p ||| c * 2 ^ (24 - 8 * m) = pkN (l ++ [c]) p := by
  have h0 := h p
  have h1 := h (p + 1)
  have h2 := h (p + 2)
  have g0 := fun i (hi : l.length ≤ p + i) => gl_out (l := l) hi
  have r : ∀ i, p + i ≠ l.length → gl (l ++ [c]) (p + i) = gl l (p + i) := fun i hi => gl_ne hi
  unfold pkN
  match m, hm with
  | 0, _ =>
    have e0 : p = l.length := by omega
    have q0 : gl (l ++ [c]) p = c := by rw [e0]; exact gl_last
    rw [r 1 (by omega), r 2 (by omega), r 3 (by omega), q0, g0 1 (by omega), g0 2 (by omega), g0 3 (by omega), show gl l p = 0 from gl_out (by omega)]
    show 0 ||| c * 16777216 = _
    rw [Nat.zero_or]
    omega
  | 1, _ =>
    have q0 : gl (l ++ [c]) (p + 1) = c := by rw [hp]; exact gl_last
    rw [show gl (l ++ [c]) p = gl l p from r 0 (by omega), r 2 (by omega), r 3 (by omega), q0, g0 1 (by omega), g0 2 (by omega), g0 3 (by omega)]
    have h9 := or_low (a := gl l p) (b := c * 65536) (k := 24) (by omega)
    show 16777216 * gl l p + 65536 * 0 + 256 * 0 + 0 ||| c * 65536 = _
    rw [show 16777216 * gl l p + 65536 * 0 + 256 * 0 + 0 = 2 ^ 24 * gl l p by omega, h9]
    omega
  | 2, _ =>
    have q0 : gl (l ++ [c]) (p + 2) = c := by rw [hp]; exact gl_last
    rw [show gl (l ++ [c]) p = gl l p from r 0 (by omega), r 1 (by omega), r 3 (by omega), q0, g0 2 (by omega), g0 3 (by omega)]
    have h9 := or_low (a := 256 * gl l p + gl l (p + 1)) (b := c * 256) (k := 16) (by omega)
    show 16777216 * gl l p + 65536 * gl l (p + 1) + 256 * 0 + 0 ||| c * 256 = _
    rw [show 16777216 * gl l p + 65536 * gl l (p + 1) + 256 * 0 + 0 = 2 ^ 16 * (256 * gl l p + gl l (p + 1)) by omega, h9]
    omega
  | 3, _ =>
    have q0 : gl (l ++ [c]) (p + 3) = c := by rw [hp]; exact gl_last
    rw [show gl (l ++ [c]) p = gl l p from r 0 (by omega), r 1 (by omega), r 2 (by omega), q0, g0 3 (by omega)]
    have h9 := or_low (a := 65536 * gl l p + 256 * gl l (p + 1) + gl l (p + 2)) (b := c) (k := 8) (by omega)
    show 16777216 * gl l p + 65536 * gl l (p + 1) + 256 * gl l (p + 2) + 0 ||| c * 1 = _
    rw [Nat.mul_one, show 16777216 * gl l p + 65536 * gl l (p + 1) + 256 * gl l (p + 2) + 0 = 2 ^ 8 * (65536 * gl l p + 256 * gl l (p + 1) + gl l (p + 2)) by omega, h9]
    omega
theorem pkN_zero {l : List Nat} {p : Nat} (h : l.length ≤ p) : pkN l p = 0 := by
  unfold pkN
  rw [gl_out h, gl_out (by omega), gl_out (by omega), gl_out (by omega)]
theorem pkN_ne {l : List Nat} {c p : Nat} (h : l.length < p ∨ p + 4 ≤ l.length) : pkN (l ++ [c]) p = pkN l p := by
  unfold pkN
  rw [gl_ne (by omega), gl_ne (by omega), gl_ne (by omega), gl_ne (by omega)]
theorem wb_n {l : List Nat} (h : l7 l) {p m : Nat} (hm : m < 4) : nI (pkN l p) >>> nI (24 - 8 * m) &&& 255 = nI (gl l (p + m)) := by
  have h0 := h p
  have h1 := h (p + 1)
  have h2 := h (p + 2)
  have h3 := h (p + 3)
  have hN := pkN_lt h p
  have key : ∀ k, k < 32 → ((nI k).toBitVec.smod 32).toNat = k → (nI (pkN l p) >>> nI k) &&& 255 = nI (pkN l p / 2 ^ k % 2 ^ 8) := fun k hk hs => by
    rw [pk_shrN hN _ k hs, pk_andN (Nat.lt_of_le_of_lt (Nat.div_le_self _ _) (by omega)) 8 (by decide)]
  match m, hm with
  | 0, _ => rw [show 24 - 8 * 0 = 24 from rfl, key 24 (by decide) (by decide)]; congr 1; show pkN l p / 16777216 % 256 = gl l p; unfold pkN; omega
  | 1, _ => rw [show 24 - 8 * 1 = 16 from rfl, key 16 (by decide) (by decide)]; congr 1; show pkN l p / 65536 % 256 = _; unfold pkN; omega
  | 2, _ => rw [show 24 - 8 * 2 = 8 from rfl, key 8 (by decide) (by decide)]; congr 1; show pkN l p / 256 % 256 = _; unfold pkN; omega
  | 3, _ => rw [show 24 - 8 * 3 = 0 from rfl, key 0 (by decide) (by decide)]; congr 1; show pkN l p / 1 % 256 = _; unfold pkN; omega
theorem app_b {l : List Nat} (h : l7 l) {b : Nat → Int32} {N j : Nat} (hj : N ≤ j) (hj2 : j < N + 20) : bApp b N (nI (pkN l N)) (nI (pkN l (N + 4))) (nI (pkN l (N + 8))) (nI (pkN l (N + 12))) (nI (pkN l (N + 16))) 20 j = nI (gl l j) := by
  unfold bApp
  rw [if_pos ⟨hj, hj2⟩]
  unfold wByte
  obtain ⟨k, rfl⟩ : ∃ k, j = N + k := ⟨j - N, by omega⟩
  rw [Nat.add_sub_cancel_left]
  have h9 := fun p => wb_n h (p := p) (m := k % 4) (Nat.mod_lt _ (by decide))
  by_cases c1 : k < 4
  · rw [if_pos c1, h9 N, show N + k % 4 = N + k by omega]
  by_cases c2 : k < 8
  · rw [if_neg c1, if_pos c2, h9 (N + 4), show N + 4 + k % 4 = N + k by omega]
  by_cases c3 : k < 12
  · rw [if_neg c1, if_neg c2, if_pos c3, h9 (N + 8), show N + 8 + k % 4 = N + k by omega]
  by_cases c4 : k < 16
  · rw [if_neg c1, if_neg c2, if_neg c3, if_pos c4, h9 (N + 12), show N + 12 + k % 4 = N + k by omega]
  rw [if_neg c1, if_neg c2, if_neg c3, if_neg c4, h9 (N + 16), show N + 16 + k % 4 = N + k by omega]
theorem app_o {b : Nat → Int32} {N j : Nat} {x y v u w : Int32} (hj : j < N) : bApp b N x y v u w 20 j = b j := if_neg (fun h => by omega)
theorem gl_m1 (l : List Nat) (h : l7 l) (j : Nat) : ¬ nI (gl l j) = -1 := by
  have h1 := h j
  exact fun e => (by decide +kernel : ∀ q : Fin 128, ¬ nI q.1 = -1) ⟨gl l j, h1⟩ e
def txN20 (l : List Nat) : Nat := 20 * (l.length / 20)
/-- what was said so far: the words being filled, the class's buffer -/
def TI (W : Nat → Int32) (z : Nat → Int32) (b : Nat → Int32) (l : List Nat) : Prop :=
  l7 l ∧ W 5 = nI l.length ∧ (∀ i, i < 5 → W i = nI (pkN l (txN20 l + 4 * i))) ∧ z 16 = nI (txN20 l) ∧ ∀ j, j < txN20 l → b j = nI (gl l j)
section LawText
variable {G : Gl} {κ : Kx} {d : Nat} {Q : Option Value → Hp → Prop} {X : String → Hp → Prop} {cs ss pc : Nat} {σ σ1 : Hp} {c c1 A : Nat → Nat} {x am w : Nat} {z z1 : Nat → Int32} {B B1 : Nat → Nat → Int32} {F F1 : Hp} {W : Nat → Int32} {l : List Nat}
theorem aw_eqA {κ : Kx} {cs ss pc : Nat} {L : List (Option LV)} {st : List Value} {σ σ2 : Hp} (h : σ = σ2) (k : AW G κ cs ss pc L st σ2) : AW G κ cs ss pc L st σ := by rw [h]; exact k
/-- one letter more -/
theorem lm_add (hΓ : Ok G κ mL_add (d + 3) Q X) (hS : LwS G σ c x am A z B F) (hw : F w = some (eI G 6 W)) (hT : TI W z (B 15) l) {b : Nat} (hb : b < 128) (hl : l.length + 1 ≤ 500) (hq : ∀ (σ1 : Hp) (z1 : Nat → Int32) (B1 : Nat → Nat → Int32) (W1 : Nat → Int32), LwS G σ1 c x am A z1 B1 (hset F w (eI G 6 W1)) → TI W1 z1 (B1 15) (l ++ [b]) → B1 0 = B 0 → z1 8 = z 8 → (∀ y e, y ≠ w → F y = some e → σ1 y = some e) → Q none σ1) : AW G κ cs ss 0 [lR x, lR w, lI (nI b), none] [] σ := by
  obtain ⟨h7, hW5, hW, hz, hB⟩ := hT
  have hwσ := hS.at hw
  have hlen : l.length < 2 ^ 31 := by omega
  obtain ⟨i, m, hi, hm, e20⟩ : ∃ i m, i < 5 ∧ m < 4 ∧ l.length % 20 = 4 * i + m := ⟨l.length % 20 / 4, l.length % 20 % 4, by omega, by omega, by omega⟩
  have eP : txN20 l + 4 * i + m = l.length := by unfold txN20; omega
  have e1 : nI l.length - nI l.length / 20 * 20 = nI (l.length % 20) := pk_rem hlen (by decide) (by decide)
  have e2 : nI (l.length % 20) / 4 = nI i := by rw [show (4 : Int32) = nI 4 from rfl, pk_div (by omega) (by decide) (by decide), show l.length % 20 / 4 = i by omega]
  have e3 : nI l.length - nI l.length / 4 * 4 = nI m := by rw [show (4 : Int32) = nI 4 from rfl, pk_rem hlen (by decide) (by decide), show l.length % 4 = m by omega]
  have e4 : nI b <<< ((24 - 8 * nI m) &&& 31) = nI (b * 2 ^ (24 - 8 * m)) := by
    match m, hm with
    | 0, _ => exact pk_shlN (n := b) _ 24 (by decide) (by omega)
    | 1, _ => exact pk_shlN (n := b) _ 16 (by decide) (by omega)
    | 2, _ => exact pk_shlN (n := b) _ 8 (by decide) (by omega)
    | 3, _ => exact pk_shlN (n := b) _ 0 (by decide) (by omega)
  refine sL_add_0 hΓ rfl ?_
  refine sL_add_1 hΓ rfl ?_
  refine sL_add_2 hΓ ?_
  refine sL_add_3 hΓ hwσ (j := 5) rfl (by decide) (by decide) ?_
  rw [hW5]
  refine sL_add_4 hΓ ?_
  refine sL_add_6 hΓ (by decide) ?_
  rw [e1]
  refine sL_add_7 hΓ ?_
  refine sL_add_8 hΓ (by decide) ?_
  rw [e2]
  refine sL_add_9 hΓ ?_
  refine sL_add_10 hΓ hwσ rfl (by omega) (by decide) ?_
  refine sL_add_11 hΓ rfl ?_
  refine sL_add_12 hΓ ?_
  refine sL_add_14 hΓ ?_
  refine sL_add_16 hΓ rfl ?_
  refine sL_add_17 hΓ ?_
  refine sL_add_18 hΓ hwσ (j := 5) rfl (by decide) (by decide) ?_
  rw [hW5]
  refine sL_add_19 hΓ ?_
  refine sL_add_20 hΓ (by decide) ?_
  rw [e3]
  refine sL_add_21 hΓ ?_
  refine sL_add_22 hΓ ?_
  refine sL_add_23 hΓ ?_
  rw [e4]
  refine sL_add_24 hΓ ?_
  rw [hW i hi, orI, pkN_or h7 hb hm eP]
  refine sL_add_25 hΓ hwσ rfl (by omega) (by decide) ?_
  refine sL_add_26 hΓ rfl ?_
  refine sL_add_27 hΓ ?_
  refine sL_add_28 hΓ ?_
  refine sL_add_29 hΓ (hset_same _ _ _) (j := 5) rfl (by decide) (by decide) ?_
  rw [upd_ne (show (5 : Nat) ≠ i by omega), hW5]
  refine sL_add_30 hΓ ?_
  refine sL_add_31 hΓ ?_
  rw [nI_1]
  refine sL_add_32w hΓ (j := 5) rfl (by decide) (by decide) ?_
  refine sL_add_33 hΓ rfl ?_
  refine sL_add_34 hΓ ?_
  refine sL_add_35 hΓ (hset_same _ _ _) (j := 5) rfl (by decide) (by decide) ?_
  rw [upd_same]
  refine sL_add_36 hΓ ?_
  refine sL_add_38 hΓ (by decide) ?_
  rw [show nI (l.length + 1) - nI (l.length + 1) / 20 * 20 = nI ((l.length + 1) % 20) from pk_rem (by omega) (by decide) (by decide)]
  have hS1 := hS.put hw (eI G 6 (upd (upd W i (nI (pkN (l ++ [b]) (txN20 l + 4 * i)))) 5 (nI (l.length + 1))))
  have hlen1 : (l ++ [b]).length = l.length + 1 := by rw [List.length_append]; rfl
  have hW1 : ∀ j, j < 5 → upd (upd W i (nI (pkN (l ++ [b]) (txN20 l + 4 * i)))) 5 (nI (l.length + 1)) j = nI (pkN (l ++ [b]) (txN20 l + 4 * j)) := fun j hj => by
    rw [upd_ne (by omega)]
    by_cases ej : j = i
    · rw [ej, upd_same]
    · rw [upd_ne ej, hW j hj, pkN_ne (by omega)]
  by_cases c20 : (l.length + 1) % 20 = 0
  · refine sL_add_39 hΓ (fun _ => ?_) (fun c9 => absurd (by rw [c20]; rfl) c9)
    refine sL_add_43 hΓ rfl ?_
    refine sL_add_44 hΓ rfl ?_
    refine sL_add_45 hΓ ?_
    refine sL_add_46 hΓ (hset_same _ _ _) (j := 0) rfl (by decide) (by decide) ?_
    refine sL_add_47 hΓ rfl ?_
    refine sL_add_48 hΓ ?_
    refine sL_add_49 hΓ (hset_same _ _ _) (j := 1) rfl (by decide) (by decide) ?_
    refine sL_add_50 hΓ rfl ?_
    refine sL_add_51 hΓ ?_
    refine sL_add_52 hΓ (hset_same _ _ _) (j := 2) rfl (by decide) (by decide) ?_
    refine sL_add_53 hΓ rfl ?_
    refine sL_add_54 hΓ ?_
    refine sL_add_55 hΓ (hset_same _ _ _) (j := 3) rfl (by decide) (by decide) ?_
    refine sL_add_56 hΓ rfl ?_
    refine sL_add_57 hΓ ?_
    refine sL_add_58 hΓ (hset_same _ _ _) (j := 4) rfl (by decide) (by decide) ?_
    rw [hW1 0 (by decide), hW1 1 (by decide), hW1 2 (by decide), hW1 3 (by decide), hW1 4 (by decide)]
    show AW G κ cs ss 59 [lR x, lR w, lI (nI b), none] [.int (nI (pkN (l ++ [b]) (txN20 l + 16))), .int (nI (pkN (l ++ [b]) (txN20 l + 12))), .int (nI (pkN (l ++ [b]) (txN20 l + 8))), .int (nI (pkN (l ++ [b]) (txN20 l + 4))), .int (nI (pkN (l ++ [b]) (txN20 l))), .ref x] _
    obtain ⟨n, s, C, n2, C2, Nh, Ch, u, bb, ll, cd, og, hs, out, ol, hTD, hTR⟩ := hS1.1
    have h71 := h7.app hb
    have eN : txN20 (l ++ [b]) = txN20 l + 20 := by unfold txN20; rw [hlen1]; omega
    have hk : txN20 l ≤ 500 := by unfold txN20; omega
    refine sL_add_59 hΓ 0 0 (Nat.le_of_ble_eq_true rfl) hTD.o (fun κ2 h2 => tq_appendText (d := d) h2 hTD hTR hz hk (fun _ j hj => ?_) (fun c9 => absurd (show txN20 l + 20 ≤ 500 by unfold txN20; omega) c9) (fun _ σ1 hR1 f1 => ?_))
    · rcases Nat.lt_or_ge j (txN20 l) with h8 | h8
      · rw [app_o h8, hB j h8]; exact gl_m1 l h7 j
      · rw [app_b h71 h8 hj]; exact gl_m1 _ h71 j
    show AW G κ _ _ 62 _ _ _
    have hS2 := hS1.cls hR1 f1
    have hw2 := hS2.at (hset_same _ _ _)
    refine sL_add_62i hΓ ?_
    refine sL_add_63 hΓ ?_
    refine sL_add_64 hΓ ?_
    have loop : ∀ k j, j + k = 5 → ∀ (σ3 : Hp) (W3 : Nat → Int32), W3 5 = nI (l.length + 1) → (∀ i, i < j → W3 i = 0) → LwS G σ3 c x am A (upd (upd z 9 0) 16 (nI (txN20 l + 20))) (updA B 15 (bApp (B 15) (txN20 l) (nI (pkN (l ++ [b]) (txN20 l))) (nI (pkN (l ++ [b]) (txN20 l + 4))) (nI (pkN (l ++ [b]) (txN20 l + 8))) (nI (pkN (l ++ [b]) (txN20 l + 12))) (nI (pkN (l ++ [b]) (txN20 l + 16))) 20)) (hset F w (eI G 6 W3)) → AW G κ cs ss 65 [lR x, lR w, lI (nI b), lI (nI j)] [] σ3 := by
      intro k
      induction k with
      | zero =>
        intro j hj σ3 W3 g5 g0 hS3
        refine sL_add_65 hΓ rfl ?_
        refine sL_add_66 hΓ ?_
        refine sL_add_67 hΓ (fun _ => ?_) (fun c9 => absurd (show nI 5 ≤ nI j from nI_le (by omega) (by omega)) c9)
        refine sL_add_80 hΓ (hq σ3 _ _ W3 hS3 ⟨h71, by rw [hlen1]; exact g5, fun i hi => ?_, ?_, fun j9 hj9 => ?_⟩ rfl ?_ (fun y e hy he => hS3.at ((hset_ne hy).trans he)))
        · rw [g0 i (by omega), eN, pkN_zero (by rw [hlen1]; unfold txN20; omega)]
          rfl
        · rw [upd_same, eN]
        · rw [eN] at hj9
          show updA B 15 _ 15 j9 = _
          unfold updA
          rw [if_pos rfl]
          rcases Nat.lt_or_ge j9 (txN20 l) with h8 | h8
          · rw [app_o h8, hB j9 h8, gl_app (by unfold txN20 at h8; omega)]
          · exact app_b h71 h8 hj9
        · rw [upd_ne (by decide), upd_ne (by decide)]
      | succ k ih =>
        intro j hj σ3 W3 g5 g0 hS3
        have hw3 := hS3.at (hset_same _ _ _)
        refine sL_add_65 hΓ rfl ?_
        refine sL_add_66 hΓ ?_
        refine sL_add_67 hΓ (fun c9 => absurd c9 (show ¬ nI 5 ≤ nI j from nI_ge (by omega) (by decide))) (fun _ => ?_)
        refine sL_add_70 hΓ rfl ?_
        refine sL_add_71 hΓ rfl ?_
        refine sL_add_72 hΓ ?_
        refine sL_add_73 hΓ hw3 rfl (by omega) (by decide) ?_
        refine sL_add_74 hΓ rfl ?_
        refine sL_add_77 hΓ ?_
        show AW G κ cs ss 65 [lR x, lR w, lI (nI b), lI (nI j + 1)] [] _
        rw [nI_1]
        have hS4 := hS3.put (hset_same _ _ _) (eI G 6 (upd W3 j 0))
        rw [hset_hset] at hS4
        refine ih (j + 1) (by omega) _ (upd W3 j 0) (by rw [upd_ne (by omega)]; exact g5) (fun i hi => ?_) hS4
        by_cases ei : i = j
        · rw [ei, upd_same]
        · rw [upd_ne ei]; exact g0 i (by omega)
    refine loop 5 0 rfl _ _ ?_ (fun i hi => absurd hi (Nat.not_lt_zero i)) hS2
    exact upd_same _ _ _
  · refine sL_add_39 hΓ (fun c9 => absurd ((nI_eq (a := (l.length + 1) % 20) (b := 0) (by omega) (by decide)).mp c9) c20) (fun _ => ?_)
    have eN : txN20 (l ++ [b]) = txN20 l := by unfold txN20; rw [hlen1]; omega
    refine sL_add_42 hΓ (hq _ z B _ hS1 ⟨h7.app hb, by rw [hlen1]; exact upd_same _ _ _, fun j hj => by rw [eN]; exact hW1 j hj, by rw [eN]; exact hz, fun j hj => ?_⟩ rfl rfl (fun y e hy he => hS1.at ((hset_ne hy).trans he)))
    rw [eN] at hj
    rw [hB j hj, gl_app (by unfold txN20 at hj; omega)]
end LawText
