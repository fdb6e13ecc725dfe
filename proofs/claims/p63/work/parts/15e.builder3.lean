/-! the builder's end; texts in the heap -/
section Builder3
variable {G : Gl} {κ : Kx} {d : Nat} {Q : Option Value → Hp → Prop} {X : String → Hp → Prop} {cs ss : Nat} {σ σ0 : Hp} {b v n m : Nat} {ml : Int32} {a : Nat → Int32} {t : Nat → Nat}
theorem sj_value (hΓ : Ok G κ mJ5_getValue_6d5f1 (d + 0) Q X) (hb : σ b = some (.inr (1, bV v ml n))) (hq : Q (some (.ref v)) σ) : AW G κ cs ss 0 [lR b] [] σ := by
  refine sJ5_getValue_6d5f1_0 hΓ rfl ?_
  refine sJ5_getValue_6d5f1_1 hΓ hb rfl ?_
  exact sJ5_getValue_6d5f1_4 hΓ hq
theorem sj_len5 (hΓ : Ok G κ mJ5_length_8abf5 (d + 0) Q X) (hb : σ b = some (.inr (1, bV v ml n))) (hq : Q (some (.int (nI n))) σ) : AW G κ cs ss 0 [lR b] [] σ := by
  refine sJ5_length_8abf5_0 hΓ rfl ?_
  refine sJ5_length_8abf5_1 hΓ hb rfl ?_
  exact sJ5_length_8abf5_4 hΓ hq
theorem sj_len4 (hΓ : Ok G κ mJ4_length_8abf5 (d + 1) Q X) (hb : σ b = some (.inr (1, bV v ml n))) (hq : Q (some (.int (nI n))) σ) : AW G κ cs ss 0 [lR b] [] σ := by
  refine sJ4_length_8abf5_0 hΓ rfl ?_
  refine sJ4_length_8abf5_1 hΓ 0 0 (Nat.le_of_ble_eq_true rfl) hb (fun κ2 h2 => sj_len5 (d := d) h2 hb ?_)
  show AW G κ _ _ 4 _ _ _
  exact sJ4_length_8abf5_4 hΓ hq
theorem sj_ckLen (hΓ : Ok G κ mJ7_checkLength_df160 (d + 0) Q X) (hn : n < 2 ^ 31) (hq : Q none σ) : AW G κ cs ss 0 [lI 0, lI (nI n)] [] σ := by
  refine sJ7_checkLength_df160_0 hΓ rfl ?_
  refine sJ7_checkLength_df160_1 hΓ rfl ?_
  refine sJ7_checkLength_df160_2 hΓ (fun _ => ?_) (fun c9 => absurd (nI_pos' hn) c9)
  exact sJ7_checkLength_df160_37 hΓ hq
theorem nI_sub0 (x : Int32) : x - 0 = x := Int32.sub_zero x
theorem sj_rangeB (hΓ : Ok G κ mJ7_copyOfRangeByte_39247 (d + 1) Q X) (hv : σ v = some (eB G m a)) (hf : sb_Fit a) (hn : n < m) (hm : m ≤ 640) (hq : ∀ r : Nat, σ r = none → gB G ≤ r → Q (some (.ref r)) (hset σ r (eB G n (va_cpy a (fun _ => 0) 0 0 n)))) : AW G κ (cs + 1) (ss + n) 0 [lR v, lI 0, lI (nI n), none, none] [] σ := by
  refine sJ7_copyOfRangeByte_39247_0 hΓ rfl ?_
  refine sJ7_copyOfRangeByte_39247_1 hΓ rfl ?_
  refine sJ7_copyOfRangeByte_39247_2 hΓ 0 0 (Nat.le_of_ble_eq_true rfl) (fun κ2 h2 => sj_ckLen (d := d) h2 (by omega) ?_)
  show AW G κ _ _ 5 _ _ _
  refine sJ7_copyOfRangeByte_39247_5 hΓ rfl ?_
  refine sJ7_copyOfRangeByte_39247_6 hΓ rfl ?_
  refine sJ7_copyOfRangeByte_39247_7 hΓ ?_
  rw [nI_sub0]
  refine sJ7_copyOfRangeByte_39247_8 hΓ ?_
  refine sJ7_copyOfRangeByte_39247_9 hΓ rfl ?_
  refine sJ7_copyOfRangeByte_39247_10 hΓ rfl (by omega) (fun r hr hr9 => ?_)
  have hne : v ≠ r := fun e => by rw [e, hr] at hv; cases hv
  refine sJ7_copyOfRangeByte_39247_12 hΓ ?_
  refine sJ7_copyOfRangeByte_39247_14 hΓ rfl ?_
  refine sJ7_copyOfRangeByte_39247_15 hΓ rfl ?_
  refine sJ7_copyOfRangeByte_39247_16 hΓ rfl ?_
  refine sJ7_copyOfRangeByte_39247_18 hΓ ?_
  refine sJ7_copyOfRangeByte_39247_19 hΓ rfl ?_
  refine sJ7_copyOfRangeByte_39247_20b hΓ ((hset_ne hne).trans hv) ?_
  refine sJ7_copyOfRangeByte_39247_21 hΓ rfl ?_
  refine sJ7_copyOfRangeByte_39247_22 hΓ ?_
  rw [nI_sub0]
  refine sJ7_copyOfRangeByte_39247_23 hΓ rfl ?_
  refine sJ7_copyOfRangeByte_39247_24 hΓ (Nat.le_of_ble_eq_true rfl) ?_
  refine sJ7_copyOfRangeByte_39247_27 hΓ (i := 0) (j := 0) (n := n) (Nat.le_of_ble_eq_true rfl) ((hset_ne hne).trans hv) (hset_same _ _ _) rfl rfl (if_pos (nI_lt hn (by omega))) (by omega) (by omega) (by omega) (by omega) (fun k _ => hf _) ?_
  rw [hset_hset]
  refine sJ7_copyOfRangeByte_39247_30 hΓ rfl ?_
  exact sJ7_copyOfRangeByte_39247_32 hΓ (hq r hr hr9)
theorem sj_range (hΓ : Ok G κ mJ7_copyOfRange_39247 (d + 2) Q X) (hv : σ v = some (eB G m a)) (hf : sb_Fit a) (hn : n ≤ m) (hm : m ≤ 640) (hL : sb_Lat t n a) (hq : ∀ (r : Nat) (a2 : Nat → Int32), σ r = none → gB G ≤ r → sb_Lat t n a2 → Q (some (.ref r)) (hset σ r (eB G n a2))) : AW G κ (cs + 1) (ss + n) 0 [lR v, lI 0, lI (nI n)] [] σ := by
  refine sJ7_copyOfRange_39247_0 hΓ rfl ?_
  refine sJ7_copyOfRange_39247_1 hΓ (fun c9 => absurd rfl c9) (fun _ => ?_)
  refine sJ7_copyOfRange_39247_4 hΓ rfl ?_
  refine sJ7_copyOfRange_39247_5 hΓ rfl ?_
  refine sJ7_copyOfRange_39247_6b hΓ hv ?_
  refine sJ7_copyOfRange_39247_7 hΓ (fun c9 => ?_) (fun c9 => ?_)
  · obtain rfl : n = m := (nI_eq (by omega) (by omega)).mp c9
    refine sJ7_copyOfRange_39247_17 hΓ rfl ?_
    refine sJ7_copyOfRange_39247_18 hΓ (Nat.le_of_ble_eq_true rfl) hv (fun k _ => hf k) (fun r hr hr9 => ?_)
    refine sJ7_copyOfRange_39247_21 hΓ (hset_same _ _ _) ?_
    exact sJ7_copyOfRange_39247_24 hΓ (hq r a hr hr9 hL)
  have hlt : n < m := by
    rcases Nat.lt_or_eq_of_le hn with h | h
    · exact h
    · exact absurd (by rw [h]) c9
  refine sJ7_copyOfRange_39247_10 hΓ rfl ?_
  refine sJ7_copyOfRange_39247_11 hΓ rfl ?_
  refine sJ7_copyOfRange_39247_12 hΓ rfl ?_
  refine sJ7_copyOfRange_39247_13 hΓ 1 n (Nat.le_of_ble_eq_true rfl) (fun κ2 h2 => ?_)
  have k2 := sj_rangeB (cs := 0) (ss := 0) (d := d) h2 hv hf hlt hm (fun r hr hr9 => ?_)
  · rw [Nat.zero_add, Nat.zero_add] at k2; exact k2
  show AW G κ _ _ 16 _ _ _
  exact sJ7_copyOfRange_39247_16 hΓ (hq r _ hr hr9 (sb_latKeep hL (fun j hj => sb_cpy0 hj)))
abbrev stV (w : Nat) : List Value := [.ref w, .int 0, .int 0, .int 0]
/-- a text in the heap -/
def STx (G : Gl) (σ : Hp) (s : Nat) (t : Nat → Nat) (n : Nat) : Prop := ∃ (w : Nat) (a : Nat → Int32), σ s = some (.inr (0, stV w)) ∧ σ w = some (eB G n a) ∧ n ≤ 640 ∧ sb_Lat t n a
theorem sj_str2 (hΓ : Ok G κ mJ0_init_db425 (d + 3) Q X) (h : SBv G σ0 σ b t n v m a ml) {s : Nat} (hs : σ s = some (.inr (0, [.null, .int 0, .int 0, .int 0]))) (hq : ∀ (σ1 : Hp) (w : Nat) (a2 : Nat → Int32), σ w = none → (∀ y e, y ≠ s → σ y = some e → σ1 y = some e) → σ1 s = some (.inr (0, stV w)) → σ1 w = some (eB G n a2) → sb_Lat t n a2 → Q none σ1) : AW G κ (cs + 1) (ss + 640) 0 [lR s, lR b, lQ none, none, none] [] σ := by
  have hbs : b ≠ s := fun e => by
    have h9 := h.2.1
    rw [e, hs] at h9
    have h8 : (0 : Nat) = 1 := congrArg Prod.fst (Sum.inr.inj (Option.some.inj h9))
    exact absurd h8 (by decide)
  have hvs : v ≠ s := fun e => by have := h.2.2.1; rw [e, hs] at this; cases this
  refine sJ0_init_db425_0 hΓ rfl ?_
  refine sJ0_init_db425_1 hΓ (Nat.le_of_ble_eq_true rfl) ?_
  refine sJ0_init_db425_4 hΓ rfl ?_
  refine sJ0_init_db425_5 hΓ 0 0 (Nat.le_of_ble_eq_true rfl) h.2.1 (fun κ2 h2 => sj_value (d := d + 2) h2 h.2.1 ?_)
  show AW G κ _ _ 8 _ _ _
  refine sJ0_init_db425_8 hΓ ?_
  refine sJ0_init_db425_9 hΓ rfl ?_
  refine sJ0_init_db425_10 hΓ 0 0 (Nat.le_of_ble_eq_true rfl) h.2.1 (fun κ2 h2 => sj_len4 (d := d + 1) h2 h.2.1 ?_)
  show AW G κ _ _ 13 _ _ _
  refine sJ0_init_db425_13 hΓ ?_
  refine sJ0_init_db425_15 hΓ rfl ?_
  refine sJ0_init_db425_16 hΓ 0 0 (Nat.le_of_ble_eq_true rfl) h.2.1 (fun κ2 h2 => sj_latin (d := d + 2) h2 h.2.1 rfl ?_)
  show AW G κ _ _ 19 _ _ _
  refine sJ0_init_db425_19 hΓ (fun c9 => absurd c9 (by decide)) (fun _ => ?_)
  refine sJ0_init_db425_22 hΓ rfl ?_
  refine sJ0_init_db425_23 hΓ ?_
  refine sJ0_init_db425_24 hΓ hs (Or.inl rfl) (Nat.le_of_ble_eq_true rfl) ?_
  refine sJ0_init_db425_27 hΓ rfl ?_
  refine sJ0_init_db425_28 hΓ rfl ?_
  refine sJ0_init_db425_29 hΓ ?_
  refine sJ0_init_db425_30 hΓ rfl ?_
  refine aw_less (cs2 := cs + 1) (ss2 := ss + n) (by omega) (by have := h.2.2.2.1; omega) ?_
  refine sJ0_init_db425_32 hΓ 1 n (Nat.le_of_ble_eq_true rfl) (fun κ2 h2 => ?_)
  have k2 := sj_range (σ := hset σ s (.inr (0, [.null, .int 0, .int 0, .int 0]))) (cs := 0) (ss := 0) (d := d) (t := t) h2 ((hset_ne hvs).trans h.2.2.1) h.2.2.2.2.2 h.2.2.2.1.1 h.2.2.2.1.2 h.2.2.2.2.1 (fun r a2 hr hr9 hL2 => ?_)
  · rw [Nat.zero_add, Nat.zero_add] at k2; exact k2
  show AW G κ _ _ 35 _ _ _
  have hsr : s ≠ r := fun e => by rw [e, hset_same] at hr; cases hr
  have hr0 : σ r = none := by rw [← hr]; exact (hset_ne (Ne.symm hsr)).symm
  refine sJ0_init_db425_35 hΓ ((hset_ne hsr).trans (hset_same _ _ _)) (Nat.le_of_ble_eq_true rfl) ?_
  refine sJ0_init_db425_38 hΓ ?_
  refine sJ0_init_db425_97 hΓ (hq _ r a2 hr0 (fun y e hy he => ?_) (hset_same _ _ _) ((hset_ne (Ne.symm hsr)).trans (hset_same _ _ _)) hL2)
  have y2 : y ≠ r := fun e9 => by rw [e9, hr0] at he; cases he
  rw [hset_ne hy, hset_ne y2, hset_ne hy]
  exact he
theorem sj_str1 (hΓ : Ok G κ mJ0_init_81219 (d + 4) Q X) (h : SBv G σ0 σ b t n v m a ml) {s : Nat} (hs : σ s = some (.inr (0, [.null, .int 0, .int 0, .int 0]))) (hq : ∀ (σ1 : Hp) (w : Nat) (a2 : Nat → Int32), σ w = none → (∀ y e, y ≠ s → σ y = some e → σ1 y = some e) → σ1 s = some (.inr (0, stV w)) → σ1 w = some (eB G n a2) → sb_Lat t n a2 → Q none σ1) : AW G κ (cs + 1) (ss + 640) 0 [lR s, lR b] [] σ := by
  refine sJ0_init_81219_0 hΓ rfl ?_
  refine sJ0_init_81219_1q hΓ (r := some b) rfl ?_
  refine sJ0_init_81219_2 hΓ ?_
  refine sJ0_init_81219_3q hΓ (p0 := some b) (p1 := none) 1 640 (Nat.le_of_ble_eq_true rfl) (fun κ2 h2 => sj_str2 (d := d) h2 h hs (fun σ1 w a2 g1 g2 g3 g4 g5 => ?_))
  show AW G κ _ _ 6 _ _ _
  exact sJ0_init_81219_6 hΓ (hq _ w a2 g1 g2 g3 g4 g5)
/-- StringBuilder.toString -/
theorem sj_str (hΓ : Ok G κ mJ4_toString_0e30d (d + 5) Q X) (h : SBv G σ0 σ b t n v m a ml) (hq : ∀ (σ1 : Hp) (s : Nat), (∀ y e, σ y = some e → σ1 y = some e) → STx G σ1 s t n → Q (some (.ref s)) σ1) : AW G κ (cs + 1 + 1) (ss + 640 + 4) 0 [lR b] [] σ := by
  refine sJ4_toString_0e30d_0 hΓ (fun s hs hs9 => ?_)
  have hS : SBv G σ0 (hset σ s (.inr (0, [.null, .int 0, .int 0, .int 0]))) b t n v m a ml := by
    obtain ⟨⟨a1, a2, a3⟩, a4, a5, a6⟩ := h
    have n1 : b ≠ s := fun e => by rw [e, hs] at a4; cases a4
    have n2 : v ≠ s := fun e => by rw [e, hs] at a5; cases a5
    refine ⟨⟨fun y e hy => ?_, a2, a3⟩, (hset_ne n1).trans a4, (hset_ne n2).trans a5, a6⟩
    have y1 : y ≠ s := fun e9 => by have := a1 y e hy; rw [e9, hs] at this; cases this
    rw [hset_ne y1]
    exact a1 y e hy
  refine sJ4_toString_0e30d_3 hΓ ?_
  refine sJ4_toString_0e30d_4 hΓ rfl ?_
  refine sJ4_toString_0e30d_5 hΓ 1 640 (Nat.le_of_ble_eq_true rfl) (fun κ2 h2 => sj_str1 (d := d) h2 hS (hset_same _ _ _) (fun σ1 w a2 g1 g2 g3 g4 g5 => ?_))
  show AW G κ _ _ 8 _ _ _
  refine sJ4_toString_0e30d_8 hΓ (hq σ1 s (fun y e hy => ?_) ⟨w, a2, g3, g4, by have := h.2.2.2.1; omega, g5⟩)
  have y1 : y ≠ s := fun e9 => by rw [e9, hs] at hy; cases hy
  exact g2 y e y1 ((hset_ne y1).trans hy)
theorem sh_coder (hΓ : Ok G κ mJ0_coder_7d493 (d + 0) Q X) {s w : Nat} (hs : σ s = some (.inr (0, stV w))) (hq : Q (some (.int 0)) σ) : AW G κ cs ss 0 [lR s] [] σ := by
  refine sJ0_coder_7d493_0 hΓ ?_
  refine sJ0_coder_7d493_3 hΓ (fun c9 => absurd c9 (by decide)) (fun _ => ?_)
  refine sJ0_coder_7d493_6 hΓ rfl ?_
  refine sJ0_coder_7d493_7h hΓ hs rfl ?_
  refine sJ0_coder_7d493_10 hΓ ?_
  exact sJ0_coder_7d493_14 hΓ rfl hq
theorem sh_latin (hΓ : Ok G κ mJ0_isLatin1_aae02 (d + 0) Q X) {s w : Nat} (hs : σ s = some (.inr (0, stV w))) (hq : Q (some (.int 1)) σ) : AW G κ cs ss 0 [lR s] [] σ := by
  refine sJ0_isLatin1_aae02_0 hΓ ?_
  refine sJ0_isLatin1_aae02_3 hΓ (fun c9 => absurd c9 (by decide)) (fun _ => ?_)
  refine sJ0_isLatin1_aae02_6 hΓ rfl ?_
  refine sJ0_isLatin1_aae02_7h hΓ hs rfl ?_
  refine sJ0_isLatin1_aae02_10 hΓ (fun c9 => absurd rfl c9) (fun _ => ?_)
  refine sJ0_isLatin1_aae02_13 hΓ ?_
  refine sJ0_isLatin1_aae02_14 hΓ ?_
  exact sJ0_isLatin1_aae02_18 hΓ (Or.inr rfl) hq
/-- String.length of a text in the heap -/
theorem sh_length (hΓ : Ok G κ mJ0_length_8abf5 (d + 1) Q X) {s : Nat} (h : STx G σ s t n) (hq : Q (some (.int (nI n))) σ) : AW G κ cs ss 0 [lR s] [] σ := by
  obtain ⟨w, a, hs, hw, hn, hL⟩ := h
  refine sJ0_length_8abf5_0 hΓ rfl ?_
  refine sJ0_length_8abf5_1h hΓ hs rfl ?_
  refine sJ0_length_8abf5_4b hΓ hw ?_
  refine sJ0_length_8abf5_5 hΓ rfl ?_
  refine sJ0_length_8abf5_6h hΓ 0 0 (Nat.le_of_ble_eq_true rfl) hs (fun κ2 h2 => sh_coder (d := d) h2 hs ?_)
  show AW G κ _ _ 9 _ _ _
  refine sJ0_length_8abf5_9 hΓ ?_
  rw [sb_shr0]
  exact sJ0_length_8abf5_10 hΓ hq
theorem sh_char1 (hΓ : Ok G κ mJ1_charAt_3b067 (d + 2) Q X) {w i : Nat} (hw : σ w = some (eB G n a)) (hn : n ≤ 640) (hL : sb_Lat t n a) (hi : i < n) (hq : Q (some (.int (nI (t i)))) σ) : AW G κ cs ss 0 [lR w, lI (nI i)] [] σ := by
  obtain ⟨h1, h2⟩ := hL i hi
  obtain ⟨b1, b2, -⟩ := sb_byte _ h1
  refine sJ1_charAt_3b067_0 hΓ rfl ?_
  refine sJ1_charAt_3b067_1 hΓ rfl ?_
  refine sJ1_charAt_3b067_2b hΓ hw ?_
  refine sJ1_charAt_3b067_3 hΓ 0 0 (Nat.le_of_ble_eq_true rfl) (fun κ2 hg => sp_ckI (d := d) hg (nI_pos (by omega)) (nI_lt hi (by omega)) ?_)
  show AW G κ _ _ 6 _ _ _
  refine sJ1_charAt_3b067_6 hΓ rfl ?_
  refine sJ1_charAt_3b067_7 hΓ rfl ?_
  refine sJ1_charAt_3b067_8h hΓ hw rfl hi (by omega) ?_
  refine sJ1_charAt_3b067_9 hΓ ?_
  refine sJ1_charAt_3b067_12 hΓ ?_
  rw [h2, b1]
  refine sJ1_charAt_3b067_13 hΓ ?_
  rw [b2]
  exact sJ1_charAt_3b067_14 hΓ (pk_charN (by omega)).1 hq
/-- String.charAt of a text in the heap -/
theorem sh_charAt (hΓ : Ok G κ mJ0_charAt_5068e (d + 3) Q X) {s i : Nat} (h : STx G σ s t n) (hi : i < n) (hq : Q (some (.int (nI (t i)))) σ) : AW G κ cs ss 0 [lR s, lI (nI i)] [] σ := by
  obtain ⟨w, a, hs, hw, hn, hL⟩ := h
  refine sJ0_charAt_5068e_0 hΓ rfl ?_
  refine sJ0_charAt_5068e_1h hΓ 0 0 (Nat.le_of_ble_eq_true rfl) hs (fun κ2 hg => sh_latin (d := d + 2) hg hs ?_)
  show AW G κ _ _ 4 _ _ _
  refine sJ0_charAt_5068e_4 hΓ (fun c9 => absurd c9 (by decide)) (fun _ => ?_)
  refine sJ0_charAt_5068e_7 hΓ rfl ?_
  refine sJ0_charAt_5068e_8h hΓ hs rfl ?_
  refine sJ0_charAt_5068e_11 hΓ rfl ?_
  refine sJ0_charAt_5068e_12 hΓ 0 0 (Nat.le_of_ble_eq_true rfl) (fun κ2 hg => sh_char1 (d := d) hg hw hn hL hi ?_)
  show AW G κ _ _ 15 _ _ _
  exact sJ0_charAt_5068e_15 hΓ (pk_charN (by have := (hL i hi).1; omega)).1 hq
end Builder3
