/-! the text constants' methods -/
theorem tx_len {t : Nat} (ht : t < 7) : (txB t).length < 2 ^ 31 :=
  Nat.lt_trans ((by decide : ∀ t : Fin 7, (txB t.1).length < 8) ⟨t, ht⟩) (by decide)
theorem tx_all : (List.range 7).all (fun t => (txB t).all (fun x => decide (¬ x < 0) && decide (x ≤ 127))) = true := by decide
theorem tx_nI {t j : Nat} (ht : t < 7) (hj : j < (txB t).length) : ∃ q, q ≤ 127 ∧ (txB t).getD j 0 = nI q := by
  have h1 := List.all_eq_true.mp tx_all t (List.mem_range.mpr ht)
  have h2 := List.all_eq_true.mp h1 ((txB t).getD j 0) (by rw [List.getD_eq_getElem?_getD, List.getElem?_eq_getElem hj]; exact List.getElem_mem hj)
  rw [Bool.and_eq_true] at h2
  exact nI_of2 (by decide) (of_decide_eq_true h2.1) (of_decide_eq_true h2.2)
theorem tx_char {x : Int32} {q : Nat} (hq : q ≤ 127) (hx : x = nI q) : ((x &&& 255).toUInt32 % 65536).toInt32 = x ∧ narrow .char (.int x) = .int x := by
  subst hx
  refine ⟨?_, (pk_charN (by omega)).1⟩
  rw [pk_andN (by omega) 8 (by decide), pk_char, pk_tn (by omega), show q % 2 ^ 8 % 65536 = q by omega]
theorem tx_shr {n : Nat} (h : n < 2 ^ 31) : nI n >>> ((0 : Int32) &&& 31) = nI n := by
  rw [pk_shrN h _ 0 (by decide), Nat.pow_zero, Nat.div_one]
theorem q481 : Cond.fieldLink "java/lang/String" (38) "java/lang/String" "COMPACT_STRINGS" "Z" ∈ lw_tbl := List.mem_of_getElem? (i := 481) (by decide +kernel)
theorem q497 : Cond.fieldLink "java/lang/String" (1053) "jdk/internal/util/Preconditions" "SIOOBE_FORMATTER" "Ljava/util/function/BiFunction;" ∈ lw_tbl := List.mem_of_getElem? (i := 497) (by decide +kernel)
theorem sJ0_coder_7d493_0 {G : Gl} {κ : Kx} {d : Nat} {Q : Option Value → Hp → Prop} {X : String → Hp → Prop} {cs ss : Nat} {L : List (Option LV)} {st : List Value} {σ : Hp}  (hΓ : Ok G κ mJ0_coder_7d493 d Q X) (k : AW G κ cs ss 3 L (.int 1 :: st) (σ)) : AW G κ cs ss 0 L (st) (σ) := aw_gets hΓ (fun _ _ h => h.2.2.2.2.2.2.1) q481 dJ0_coder_7d493_0 k
theorem sJ0_isLatin1_aae02_0 {G : Gl} {κ : Kx} {d : Nat} {Q : Option Value → Hp → Prop} {X : String → Hp → Prop} {cs ss : Nat} {L : List (Option LV)} {st : List Value} {σ : Hp}  (hΓ : Ok G κ mJ0_isLatin1_aae02 d Q X) (k : AW G κ cs ss 3 L (.int 1 :: st) (σ)) : AW G κ cs ss 0 L (st) (σ) := aw_gets hΓ (fun _ _ h => h.2.2.2.2.2.2.1) q481 dJ0_isLatin1_aae02_0 k
theorem sJ0_coder_7d493_7 {G : Gl} {κ : Kx} {d : Nat} {Q : Option Value → Hp → Prop} {X : String → Hp → Prop} {cs ss : Nat} {L : List (Option LV)} {st : List Value} {σ : Hp} {t : Nat} (hΓ : Ok G κ mJ0_coder_7d493 d Q X) (ht : t < 7) (k : AW G κ cs ss 10 L (.int 0 :: st) (σ)) : AW G κ cs ss 7 L (.ref (gK G t) :: st) (σ) := aw_getfC hΓ (fun _ _ h => (h.2.2.1 t ht).2.1) q1354 dJ0_coder_7d493_7 k
theorem sJ0_isLatin1_aae02_7 {G : Gl} {κ : Kx} {d : Nat} {Q : Option Value → Hp → Prop} {X : String → Hp → Prop} {cs ss : Nat} {L : List (Option LV)} {st : List Value} {σ : Hp} {t : Nat} (hΓ : Ok G κ mJ0_isLatin1_aae02 d Q X) (ht : t < 7) (k : AW G κ cs ss 10 L (.int 0 :: st) (σ)) : AW G κ cs ss 7 L (.ref (gK G t) :: st) (σ) := aw_getfC hΓ (fun _ _ h => (h.2.2.1 t ht).2.1) q1354 dJ0_isLatin1_aae02_7 k
theorem sJ0_length_8abf5_1 {G : Gl} {κ : Kx} {d : Nat} {Q : Option Value → Hp → Prop} {X : String → Hp → Prop} {cs ss : Nat} {L : List (Option LV)} {st : List Value} {σ : Hp} {t : Nat} (hΓ : Ok G κ mJ0_length_8abf5 d Q X) (ht : t < 7) (k : AW G κ cs ss 4 L (.ref (gV G t) :: st) (σ)) : AW G κ cs ss 1 L (.ref (gK G t) :: st) (σ) := aw_getfC hΓ (fun _ _ h => (h.2.2.1 t ht).2.2.1) q1353 dJ0_length_8abf5_1 k
theorem sJ0_charAt_5068e_8 {G : Gl} {κ : Kx} {d : Nat} {Q : Option Value → Hp → Prop} {X : String → Hp → Prop} {cs ss : Nat} {L : List (Option LV)} {st : List Value} {σ : Hp} {t : Nat} (hΓ : Ok G κ mJ0_charAt_5068e d Q X) (ht : t < 7) (k : AW G κ cs ss 11 L (.ref (gV G t) :: st) (σ)) : AW G κ cs ss 8 L (.ref (gK G t) :: st) (σ) := aw_getfC hΓ (fun _ _ h => (h.2.2.1 t ht).2.2.1) q1353 dJ0_charAt_5068e_8 k
theorem sJ0_length_8abf5_6 {G : Gl} {κ : Kx} {d : Nat} {Q : Option Value → Hp → Prop} {X : String → Hp → Prop} {cs ss : Nat} {L : List (Option LV)} {st : List Value} {σ : Hp} {t : Nat} (hΓ : Ok G κ mJ0_length_8abf5 (d + 1) Q X) (mc ms : Nat) (hst : (st.map fun v => v.category).sum ≤ 8) (ht : t < 7) (body : ∀ κ2 : Kx, Ok G κ2 mJ0_coder_7d493 d (KV G κ cs ss 9 L st) X → AW G κ2 mc ms 0 [some (.inr (some (gK G t)))] [] σ) : AW G κ (cs + mc) (ss + ms) 6 L (.ref (gK G t) :: st) (σ) := aw_invT hΓ (M2 := mJ0_coder_7d493) [] mc ms rfl okJ0_coder_7d493 ht rfl q478 q479 q477 rfl (Nat.le_of_ble_eq_true rfl) hst dJ0_length_8abf5_6 body
theorem sJ0_charAt_5068e_1 {G : Gl} {κ : Kx} {d : Nat} {Q : Option Value → Hp → Prop} {X : String → Hp → Prop} {cs ss : Nat} {L : List (Option LV)} {st : List Value} {σ : Hp} {t : Nat} (hΓ : Ok G κ mJ0_charAt_5068e (d + 1) Q X) (mc ms : Nat) (hst : (st.map fun v => v.category).sum ≤ 8) (ht : t < 7) (body : ∀ κ2 : Kx, Ok G κ2 mJ0_isLatin1_aae02 d (KV G κ cs ss 4 L st) X → AW G κ2 mc ms 0 [some (.inr (some (gK G t)))] [] σ) : AW G κ (cs + mc) (ss + ms) 1 L (.ref (gK G t) :: st) (σ) := aw_invT hΓ (M2 := mJ0_isLatin1_aae02) [] mc ms rfl okJ0_isLatin1_aae02 ht rfl q488 q489 q487 rfl (Nat.le_of_ble_eq_true rfl) hst dJ0_charAt_5068e_1 body
theorem sJ0_length_8abf5_4t {G : Gl} {κ : Kx} {d : Nat} {Q : Option Value → Hp → Prop} {X : String → Hp → Prop} {cs ss : Nat} {L : List (Option LV)} {st : List Value} {σ : Hp} {t : Nat} (hΓ : Ok G κ mJ0_length_8abf5 d Q X) (ht : t < 7) (k : AW G κ cs ss 5 L (.int (nI (txB t).length) :: st) (σ)) : AW G κ cs ss 4 L (.ref (gV G t) :: st) (σ) := aw_tlen hΓ (fun _ _ h => (h.2.2.1 t ht).2.2.2) dJ0_length_8abf5_4 k
theorem sJ1_charAt_3b067_2t {G : Gl} {κ : Kx} {d : Nat} {Q : Option Value → Hp → Prop} {X : String → Hp → Prop} {cs ss : Nat} {L : List (Option LV)} {st : List Value} {σ : Hp} {t : Nat} (hΓ : Ok G κ mJ1_charAt_3b067 d Q X) (ht : t < 7) (k : AW G κ cs ss 3 L (.int (nI (txB t).length) :: st) (σ)) : AW G κ cs ss 2 L (.ref (gV G t) :: st) (σ) := aw_tlen hΓ (fun _ _ h => (h.2.2.1 t ht).2.2.2) dJ1_charAt_3b067_2 k
theorem sJ1_charAt_3b067_8 {G : Gl} {κ : Kx} {d : Nat} {Q : Option Value → Hp → Prop} {X : String → Hp → Prop} {cs ss : Nat} {L : List (Option LV)} {st : List Value} {σ : Hp} {t j : Nat} {i : Int32} (hΓ : Ok G κ mJ1_charAt_3b067 d Q X) (ht : t < 7) (hi : i = nI j) (hj : j < (txB t).length) (k : AW G κ cs ss 9 L (.int ((txB t).getD j 0) :: st) (σ)) : AW G κ cs ss 8 L (.int i :: .ref (gV G t) :: st) (σ) := aw_tb hΓ (f := fun j => .int ((txB t).getD j 0)) (fun _ _ h => (h.2.2.1 t ht).2.2.2) hi hj (tx_len ht) dJ1_charAt_3b067_8 k
theorem sJ0_checkIndex_df160_2 {G : Gl} {κ : Kx} {d : Nat} {Q : Option Value → Hp → Prop} {X : String → Hp → Prop} {cs ss : Nat} {L : List (Option LV)} {st : List Value} {σ : Hp}  (hΓ : Ok G κ mJ0_checkIndex_df160 d Q X) (k : ∀ r : Option Nat, AW G κ cs ss 5 L (va_rf r :: st) (σ)) : AW G κ cs ss 2 L (st) (σ) := aw_getsq hΓ (fun _ _ h => h.2.2.2.2.2.2.2) q497 dJ0_checkIndex_df160_2 k
theorem sX10_isWord_9 {G : Gl} {κ : Kx} {d : Nat} {Q : Option Value → Hp → Prop} {X : String → Hp → Prop} {cs ss : Nat} {L : List (Option LV)} {st : List Value} {σ : Hp} {t : Nat} (hΓ : Ok G κ mX10_isWord (d + 1) Q X) (mc ms : Nat) (hst : (st.map fun v => v.category).sum ≤ 8) (ht : t < 7) (body : ∀ κ2 : Kx, Ok G κ2 mJ0_length_8abf5 d (KV G κ cs ss 12 L st) X → AW G κ2 mc ms 0 [some (.inr (some (gK G t)))] [] σ) : AW G κ (cs + mc) (ss + ms) 9 L (.ref (gK G t) :: st) (σ) := aw_invT hΓ (M2 := mJ0_length_8abf5) [] mc ms rfl okJ0_length_8abf5 ht rfl q474 q475 q473 rfl (Nat.le_of_ble_eq_true rfl) hst dX10_isWord_9 body
theorem sX10_isWord_30 {G : Gl} {κ : Kx} {d : Nat} {Q : Option Value → Hp → Prop} {X : String → Hp → Prop} {cs ss : Nat} {L : List (Option LV)} {st : List Value} {σ : Hp} {t : Nat} (hΓ : Ok G κ mX10_isWord (d + 1) Q X) (mc ms : Nat) (hst : (st.map fun v => v.category).sum ≤ 8) (ht : t < 7) (body : ∀ κ2 : Kx, Ok G κ2 mJ0_length_8abf5 d (KV G κ cs ss 33 L st) X → AW G κ2 mc ms 0 [some (.inr (some (gK G t)))] [] σ) : AW G κ (cs + mc) (ss + ms) 30 L (.ref (gK G t) :: st) (σ) := aw_invT hΓ (M2 := mJ0_length_8abf5) [] mc ms rfl okJ0_length_8abf5 ht rfl q474 q475 q473 rfl (Nat.le_of_ble_eq_true rfl) hst dX10_isWord_30 body
theorem sX10_isWord_38 {G : Gl} {κ : Kx} {d : Nat} {Q : Option Value → Hp → Prop} {X : String → Hp → Prop} {cs ss : Nat} {L : List (Option LV)} {st : List Value} {σ : Hp} {t : Nat} {p0 : Int32} (hΓ : Ok G κ mX10_isWord (d + 1) Q X) (mc ms : Nat) (hst : (st.map fun v => v.category).sum ≤ 8) (ht : t < 7) (body : ∀ κ2 : Kx, Ok G κ2 mJ0_charAt_5068e d (KV G κ cs ss 41 L st) X → AW G κ2 mc ms 0 [some (.inr (some (gK G t))), some (.inl p0)] [] σ) : AW G κ (cs + mc) (ss + ms) 38 L (.int p0 :: .ref (gK G t) :: st) (σ) := aw_invT hΓ (M2 := mJ0_charAt_5068e) [.inl p0] mc ms rfl okJ0_charAt_5068e ht rfl q484 q485 q483 rfl (Nat.le_of_ble_eq_true rfl) hst dX10_isWord_38 body
theorem sp_coder {G : Gl} {κ : Kx} {d : Nat} {Q : Option Value → Hp → Prop} {X : String → Hp → Prop} {cs ss : Nat} {σ : Hp}  (hΓ : Ok G κ mJ0_coder_7d493 (d + 0) Q X) {t : Nat} (ht : t < 7) (hq : Q (some (.int 0)) σ) : AW G κ cs ss 0 [lR (gK G t)] [] σ := by
  refine sJ0_coder_7d493_0 hΓ ?_
  refine sJ0_coder_7d493_3 hΓ (fun c => absurd c (by decide)) (fun _ => ?_)
  refine sJ0_coder_7d493_6 hΓ rfl ?_
  refine sJ0_coder_7d493_7 hΓ ht ?_
  refine sJ0_coder_7d493_10 hΓ ?_
  exact sJ0_coder_7d493_14 hΓ rfl hq
theorem sp_latin {G : Gl} {κ : Kx} {d : Nat} {Q : Option Value → Hp → Prop} {X : String → Hp → Prop} {cs ss : Nat} {σ : Hp}  (hΓ : Ok G κ mJ0_isLatin1_aae02 (d + 0) Q X) {t : Nat} (ht : t < 7) (hq : Q (some (.int 1)) σ) : AW G κ cs ss 0 [lR (gK G t)] [] σ := by
  refine sJ0_isLatin1_aae02_0 hΓ ?_
  refine sJ0_isLatin1_aae02_3 hΓ (fun c => absurd c (by decide)) (fun _ => ?_)
  refine sJ0_isLatin1_aae02_6 hΓ rfl ?_
  refine sJ0_isLatin1_aae02_7 hΓ ht ?_
  refine sJ0_isLatin1_aae02_10 hΓ (fun c => absurd rfl c) (fun _ => ?_)
  refine sJ0_isLatin1_aae02_13 hΓ ?_
  refine sJ0_isLatin1_aae02_14 hΓ ?_
  exact sJ0_isLatin1_aae02_18 hΓ (Or.inr rfl) hq
theorem sp_slen {G : Gl} {κ : Kx} {d : Nat} {Q : Option Value → Hp → Prop} {X : String → Hp → Prop} {cs ss : Nat} {σ : Hp}  (hΓ : Ok G κ mJ0_length_8abf5 (d + 1) Q X) {t : Nat} (ht : t < 7) (hq : Q (some (.int (nI (txB t).length))) σ) : AW G κ cs ss 0 [lR (gK G t)] [] σ := by
  refine sJ0_length_8abf5_0 hΓ rfl ?_
  refine sJ0_length_8abf5_1 hΓ ht ?_
  refine sJ0_length_8abf5_4t hΓ ht ?_
  refine sJ0_length_8abf5_5 hΓ rfl ?_
  refine sJ0_length_8abf5_6 hΓ 0 0 (Nat.le_of_ble_eq_true rfl) ht (fun κ2 h2 => sp_coder (d := d) h2 ht ?_)
  show AW G κ _ _ 9 _ _ _
  refine sJ0_length_8abf5_9 hΓ ?_
  rw [tx_shr (tx_len ht)]
  exact sJ0_length_8abf5_10 hΓ hq
theorem sp_ckI3 {G : Gl} {κ : Kx} {d : Nat} {Q : Option Value → Hp → Prop} {X : String → Hp → Prop} {cs ss : Nat} {σ : Hp}  (hΓ : Ok G κ mJ3_checkIndex_8e157 (d + 0) Q X) {x y : Int32} {r : Option Nat} (h1 : ¬ x < 0) (h2 : x < y) (hq : Q (some (.int x)) σ) : AW G κ cs ss 0 [lI x, lI y, lQ r] [] σ := by
  refine sJ3_checkIndex_8e157_0 hΓ rfl ?_
  refine sJ3_checkIndex_8e157_1 hΓ (fun c => absurd c h1) (fun _ => ?_)
  refine sJ3_checkIndex_8e157_4 hΓ rfl ?_
  refine sJ3_checkIndex_8e157_5 hΓ rfl ?_
  refine sJ3_checkIndex_8e157_6 hΓ (fun _ => ?_) (fun c => absurd h2 c)
  refine sJ3_checkIndex_8e157_16 hΓ rfl ?_
  exact sJ3_checkIndex_8e157_17 hΓ hq
theorem sp_ckI {G : Gl} {κ : Kx} {d : Nat} {Q : Option Value → Hp → Prop} {X : String → Hp → Prop} {cs ss : Nat} {σ : Hp}  (hΓ : Ok G κ mJ0_checkIndex_df160 (d + 1) Q X) {x y : Int32} (h1 : ¬ x < 0) (h2 : x < y) (hq : Q none σ) : AW G κ cs ss 0 [lI x, lI y] [] σ := by
  refine sJ0_checkIndex_df160_0 hΓ rfl ?_
  refine sJ0_checkIndex_df160_1 hΓ rfl ?_
  refine sJ0_checkIndex_df160_2 hΓ (fun r => ?_)
  refine sJ0_checkIndex_df160_5q hΓ 0 0 (Nat.le_of_ble_eq_true rfl) (fun κ2 hg => sp_ckI3 (d := d) hg h1 h2 ?_)
  show AW G κ _ _ 8 _ _ _
  refine sJ0_checkIndex_df160_8i hΓ ?_
  exact sJ0_checkIndex_df160_9 hΓ hq
theorem sp_schar1 {G : Gl} {κ : Kx} {d : Nat} {Q : Option Value → Hp → Prop} {X : String → Hp → Prop} {cs ss : Nat} {σ : Hp}  (hΓ : Ok G κ mJ1_charAt_3b067 (d + 2) Q X) {t j : Nat} {i : Int32} (ht : t < 7) (hi : i = nI j) (hj : j < (txB t).length) (hq : Q (some (.int ((txB t).getD j 0))) σ) : AW G κ cs ss 0 [lR (gV G t), lI i] [] σ := by
  have hl := tx_len ht
  obtain ⟨q, hq1, hq2⟩ := tx_nI ht hj
  refine sJ1_charAt_3b067_0 hΓ rfl ?_
  refine sJ1_charAt_3b067_1 hΓ rfl ?_
  refine sJ1_charAt_3b067_2t hΓ ht ?_
  refine sJ1_charAt_3b067_3 hΓ 0 0 (Nat.le_of_ble_eq_true rfl) (fun κ2 hg => sp_ckI (d := d) hg (by rw [hi]; exact nI_pos (by omega)) (by rw [hi]; exact nI_lt hj hl) ?_)
  show AW G κ _ _ 6 _ _ _
  refine sJ1_charAt_3b067_6 hΓ rfl ?_
  refine sJ1_charAt_3b067_7 hΓ rfl ?_
  refine sJ1_charAt_3b067_8 hΓ ht hi hj ?_
  refine sJ1_charAt_3b067_9 hΓ ?_
  refine sJ1_charAt_3b067_12 hΓ ?_
  refine sJ1_charAt_3b067_13 hΓ ?_
  rw [(tx_char hq1 hq2).1]
  exact sJ1_charAt_3b067_14 hΓ (tx_char hq1 hq2).2 hq
theorem sp_schar {G : Gl} {κ : Kx} {d : Nat} {Q : Option Value → Hp → Prop} {X : String → Hp → Prop} {cs ss : Nat} {σ : Hp}  (hΓ : Ok G κ mJ0_charAt_5068e (d + 3) Q X) {t j : Nat} {i : Int32} (ht : t < 7) (hi : i = nI j) (hj : j < (txB t).length) (hq : Q (some (.int ((txB t).getD j 0))) σ) : AW G κ cs ss 0 [lR (gK G t), lI i] [] σ := by
  obtain ⟨q, hq1, hq2⟩ := tx_nI ht hj
  refine sJ0_charAt_5068e_0 hΓ rfl ?_
  refine sJ0_charAt_5068e_1 hΓ 0 0 (Nat.le_of_ble_eq_true rfl) ht (fun κ2 hg => sp_latin (d := d + 2) hg ht ?_)
  show AW G κ _ _ 4 _ _ _
  refine sJ0_charAt_5068e_4 hΓ (fun c => absurd c (by decide)) (fun _ => ?_)
  refine sJ0_charAt_5068e_7 hΓ rfl ?_
  refine sJ0_charAt_5068e_8 hΓ ht ?_
  refine sJ0_charAt_5068e_11 hΓ rfl ?_
  refine sJ0_charAt_5068e_12 hΓ 0 0 (Nat.le_of_ble_eq_true rfl) (fun κ2 hg => sp_schar1 (d := d) hg ht hi hj ?_)
  show AW G κ _ _ 15 _ _ _
  exact sJ0_charAt_5068e_15 hΓ (tx_char hq1 hq2).2 hq
