/-! the builder's code: numbers, texts, the making, the end -/
section Builder2
variable {G : Gl} {κ : Kx} {d : Nat} {Q : Option Value → Hp → Prop} {X : String → Hp → Prop} {cs ss : Nat} {σ σ0 : Hp} {b v n m : Nat} {ml : Int32} {a : Nat → Int32} {t : Nat → Nat}
theorem dg_b (c : Nat) : vp_nar .byte (nI c) = sb_b c := rfl
theorem sb_fitD {f : Nat → Int32} {i c : Nat} (h : sb_Fit f) : sb_Fit (upd f i (sb_b c)) := sb_fitU h (sb_fitB c)
theorem nI_dec {e : Nat} (h : 1 ≤ e) : nI e + (-1) = nI (e - 1) := by
  rw [← pk_sub h, Int32.sub_eq_add_neg]
  rfl
/-- Integer.getChars, the last digits -/
theorem sj_tail (hΓ : Ok G κ mJ6_getChars_ba4f3 (d + 0) Q X) {r e : Nat} {l1 l3 l4 : Option LV} (hr : r < 100) (hv : σ v = some (eB G m a)) (hm : m ≤ 640) (he : e ≤ m) (he1 : 1 ≤ e) (he2 : r < 10 ∨ 2 ≤ e) (hq1 : r < 10 → Q (some (.int (nI (e - 1)))) (hset σ v (eB G m (upd a (e - 1) (sb_b (48 + r)))))) (hq2 : ¬ r < 10 → Q (some (.int (nI (e - 1 - 1)))) (hset σ v (eB G m (upd (upd a (e - 1) (sb_b (48 + r % 10))) (e - 1 - 1) (sb_b (48 + r / 10)))))) : AW G κ cs ss 72 [lI (-(nI r)), l1, lR v, l3, l4, lI (nI e), lI 0] [] σ := by
  obtain ⟨f1, -, -, -, -, -, f7, f8⟩ := dg_f ⟨r, by omega⟩
  refine sJ6_getChars_ba4f3_72 hΓ rfl ?_
  refine sJ6_getChars_ba4f3_73 hΓ rfl ?_
  rw [nI_dec he1]
  refine sJ6_getChars_ba4f3_76 hΓ rfl ?_
  refine sJ6_getChars_ba4f3_78 hΓ ?_
  refine sJ6_getChars_ba4f3_81 hΓ rfl ?_
  refine sJ6_getChars_ba4f3_82 hΓ ?_
  rw [f8]
  refine sJ6_getChars_ba4f3_83 hΓ rfl hr ?_
  refine sJ6_getChars_ba4f3_84h hΓ hv rfl (by omega) (by omega) (dg_b _) ?_
  refine sJ6_getChars_ba4f3_85 hΓ rfl ?_
  refine sJ6_getChars_ba4f3_86 hΓ ?_
  by_cases c1 : r < 10
  · refine sJ6_getChars_ba4f3_88 hΓ (fun _ => ?_) (fun c9 => absurd (f7.mpr c1) c9)
    refine sJ6_getChars_ba4f3_104 hΓ rfl ?_
    refine sJ6_getChars_ba4f3_106 hΓ (fun _ => ?_) (fun c9 => absurd rfl c9)
    refine sJ6_getChars_ba4f3_118 hΓ rfl ?_
    have hq := hq1 c1
    rw [show 48 + r = 48 + r % 10 by omega] at hq
    exact sJ6_getChars_ba4f3_120 hΓ hq
  refine sJ6_getChars_ba4f3_88 hΓ (fun c9 => absurd (f7.mp c9) c1) (fun _ => ?_)
  refine sJ6_getChars_ba4f3_91 hΓ rfl ?_
  refine sJ6_getChars_ba4f3_92 hΓ rfl ?_
  rw [nI_dec (by omega)]
  refine sJ6_getChars_ba4f3_95 hΓ rfl ?_
  refine sJ6_getChars_ba4f3_97 hΓ ?_
  refine sJ6_getChars_ba4f3_100 hΓ rfl ?_
  refine sJ6_getChars_ba4f3_101 hΓ ?_
  rw [f8]
  refine sJ6_getChars_ba4f3_102 hΓ rfl hr ?_
  refine sJ6_getChars_ba4f3_103h hΓ (hset_same _ _ _) rfl (by omega) (by omega) (dg_b _) ?_
  rw [hset_hset]
  refine sJ6_getChars_ba4f3_104 hΓ rfl ?_
  refine sJ6_getChars_ba4f3_106 hΓ (fun _ => ?_) (fun c9 => absurd rfl c9)
  refine sJ6_getChars_ba4f3_118 hΓ rfl ?_
  exact sJ6_getChars_ba4f3_120 hΓ (hq2 c1)
/-- Integer.getChars -/
theorem sj_getChars (hΓ : Ok G κ mJ6_getChars_ba4f3 (d + 0) Q X) {k e : Nat} (hk : k < 1000) (hv : σ v = some (eB G m a)) (hm : m ≤ 640) (he : e ≤ m) (hd9 : dgN k ≤ e) (hq : ∀ (x : Int32) (a2 : Nat → Int32), (∀ j, j < e - dgN k → a2 j = a j) → (∀ i, i < dgN k → a2 (e - dgN k + i) = sb_b (dgC k i)) → (sb_Fit a → sb_Fit a2) → Q (some (.int x)) (hset σ v (eB G m a2))) : AW G κ cs ss 0 [lI (nI k), lI (nI e), lR v, none, none, none, none] [] σ := by
  obtain ⟨f1, -, f3, -, f5, f6, f7, f8⟩ := dg_f ⟨k, hk⟩
  refine sJ6_getChars_ba4f3_0 hΓ rfl ?_
  refine sJ6_getChars_ba4f3_1 hΓ ?_
  refine sJ6_getChars_ba4f3_3 hΓ rfl ?_
  refine sJ6_getChars_ba4f3_4 hΓ (fun _ => ?_) (fun c9 => absurd (Int32.not_lt.mp f1) c9)
  refine sJ6_getChars_ba4f3_11 hΓ ?_
  refine sJ6_getChars_ba4f3_12 hΓ ?_
  refine sJ6_getChars_ba4f3_14 hΓ rfl ?_
  refine sJ6_getChars_ba4f3_16 hΓ (fun c9 => absurd rfl c9) (fun _ => ?_)
  refine sJ6_getChars_ba4f3_19 hΓ rfl ?_
  refine sJ6_getChars_ba4f3_20 hΓ ?_
  refine sJ6_getChars_ba4f3_21 hΓ ?_
  refine sJ6_getChars_ba4f3_22 hΓ rfl ?_
  refine sJ6_getChars_ba4f3_23 hΓ ?_
  by_cases c1 : k < 100
  · refine sJ6_getChars_ba4f3_25 hΓ (fun _ => ?_) (fun c9 => absurd (f3.mpr c1) c9)
    refine sj_tail hΓ c1 hv hm he (by unfold dgN at hd9; split at hd9 <;> omega) (by unfold dgN at hd9; split at hd9 <;> omega) (fun c2 => ?_) (fun c2 => ?_)
    · have eN : dgN k = 1 := by unfold dgN; rw [if_pos c2]
      rw [eN] at hq
      refine hq _ _ (fun j hj => pk_un (by omega)) (fun i hi => ?_) sb_fitD
      obtain rfl : i = 0 := by omega
      rw [Nat.add_zero, pk_us]
      unfold dgC
      rw [if_pos c2]
    · have eN : dgN k = 2 := by unfold dgN; rw [if_neg c2, if_pos c1]
      rw [eN] at hq hd9
      refine hq _ _ (fun j hj => by rw [pk_un (by omega), pk_un (by omega)]) (fun i hi => ?_) (fun g => sb_fitD (sb_fitD g))
      unfold dgC
      rw [if_neg c2, if_pos c1]
      by_cases ei : i = 0
      · subst ei
        rw [if_pos rfl, show e - 2 + 0 = e - 1 - 1 by omega, pk_us]
      · obtain rfl : i = 1 := by omega
        rw [if_neg (by decide), pk_un (by omega), show e - 2 + 1 = e - 1 by omega, pk_us]
  have eN : dgN k = 3 := by unfold dgN; rw [if_neg (by omega), if_neg c1]
  rw [eN] at hq hd9
  obtain ⟨-, -, g3, -⟩ := dg_f ⟨k / 100, by omega⟩
  refine sJ6_getChars_ba4f3_25 hΓ (fun c9 => absurd (f3.mp c9) c1) (fun _ => ?_)
  refine sJ6_getChars_ba4f3_28 hΓ rfl ?_
  refine sJ6_getChars_ba4f3_29 hΓ ?_
  refine sJ6_getChars_ba4f3_31 hΓ (by decide) ?_
  rw [f5]
  refine sJ6_getChars_ba4f3_32 hΓ ?_
  refine sJ6_getChars_ba4f3_33 hΓ rfl ?_
  refine sJ6_getChars_ba4f3_34 hΓ ?_
  refine sJ6_getChars_ba4f3_36 hΓ ?_
  refine sJ6_getChars_ba4f3_37 hΓ rfl ?_
  refine sJ6_getChars_ba4f3_38 hΓ ?_
  rw [f6]
  refine sJ6_getChars_ba4f3_39 hΓ ?_
  refine sJ6_getChars_ba4f3_41 hΓ rfl ?_
  refine sJ6_getChars_ba4f3_42 hΓ ?_
  refine sJ6_getChars_ba4f3_43 hΓ rfl ?_
  refine sJ6_getChars_ba4f3_44 hΓ rfl ?_
  rw [nI_dec (by omega)]
  refine sJ6_getChars_ba4f3_47 hΓ rfl ?_
  refine sJ6_getChars_ba4f3_49 hΓ ?_
  refine sJ6_getChars_ba4f3_52 hΓ rfl ?_
  refine sJ6_getChars_ba4f3_54 hΓ rfl (by omega) ?_
  refine sJ6_getChars_ba4f3_55h hΓ hv rfl (by omega) (by omega) (dg_b _) ?_
  refine sJ6_getChars_ba4f3_56 hΓ rfl ?_
  refine sJ6_getChars_ba4f3_57 hΓ rfl ?_
  rw [nI_dec (by omega)]
  refine sJ6_getChars_ba4f3_60 hΓ rfl ?_
  refine sJ6_getChars_ba4f3_62 hΓ ?_
  refine sJ6_getChars_ba4f3_65 hΓ rfl ?_
  refine sJ6_getChars_ba4f3_67 hΓ rfl (by omega) ?_
  refine sJ6_getChars_ba4f3_68h hΓ (hset_same _ _ _) rfl (by omega) (by omega) (dg_b _) ?_
  rw [hset_hset]
  refine sJ6_getChars_ba4f3_69 hΓ ?_
  refine sJ6_getChars_ba4f3_22 hΓ rfl ?_
  refine sJ6_getChars_ba4f3_23 hΓ ?_
  refine sJ6_getChars_ba4f3_25 hΓ (fun _ => ?_) (fun c9 => absurd (g3.mpr (show k / 100 < 100 by omega)) c9)
  refine sj_tail hΓ (r := k / 100) (e := e - 1 - 1) (by omega) (hset_same _ _ _) hm (by omega) (by omega) (Or.inl (by omega)) (fun c2 => ?_) (fun c2 => absurd (show k / 100 < 10 by omega) c2)
  rw [hset_hset]
  refine hq _ _ (fun j hj => by rw [pk_un (by omega), pk_un (by omega), pk_un (by omega)]) (fun i hi => ?_) (fun g => sb_fitD (sb_fitD (sb_fitD g)))
  unfold dgC
  rw [if_neg (by omega), if_neg c1]
  by_cases e0 : i = 0
  · subst e0
    rw [if_pos rfl, show e - 3 + 0 = e - 1 - 1 - 1 by omega, pk_us]
  rw [if_neg e0]
  by_cases e1 : i = 1
  · subst e1
    rw [if_pos rfl, pk_un (by omega), show e - 3 + 1 = e - 1 - 1 by omega, pk_us, show k % 100 / 10 = k / 10 % 10 by omega]
  obtain rfl : i = 2 := by omega
  rw [if_neg e1, pk_un (by omega), pk_un (by omega), show e - 3 + 2 = e - 1 by omega, pk_us, show k % 100 % 10 = k % 10 by omega]
theorem dgC_b (k i : Nat) (hk : k < 1000) : dgC k i < 256 := by
  unfold dgC
  repeat' split
  all_goals omega
theorem dgN_b (k : Nat) : 1 ≤ dgN k ∧ dgN k ≤ 3 := by
  unfold dgN
  repeat' split
  all_goals omega
/-- AbstractStringBuilder.append(int) -/
theorem sj_appI (hΓ : Ok G κ mJ5_append_c97b9 (d + 4) Q X) (h : SBv G σ0 σ b t n v m a ml) {k : Nat} (hk : k < 1000) (hn9 : n + 3 ≤ 300) (hq : ∀ (σ1 : Hp) (v1 m1 : Nat) (a1 : Nat → Int32), SBv G σ0 σ1 b (sb_cat t n (dgC k)) (n + dgN k) v1 m1 a1 ml → Q (some (.ref b)) σ1) : AW G κ (cs + 1) (ss + 640) 0 [lR b, lI (nI k), none, none] [] σ := by
  have hd := dgN_b k
  refine sJ5_append_c97b9_0 hΓ rfl ?_
  refine sJ5_append_c97b9_1 hΓ h.2.1 rfl ?_
  refine sJ5_append_c97b9_4 hΓ ?_
  refine sJ5_append_c97b9_5 hΓ rfl ?_
  refine sJ5_append_c97b9_6 hΓ rfl ?_
  refine sJ5_append_c97b9_7 hΓ 0 0 (Nat.le_of_ble_eq_true rfl) (fun κ2 h2 => sj_size (d := d + 3) h2 hk ?_)
  show AW G κ _ _ 10 _ _ _
  refine sJ5_append_c97b9_10 hΓ ?_
  rw [nI_add]
  refine sJ5_append_c97b9_11 hΓ ?_
  refine sJ5_append_c97b9_12 hΓ rfl ?_
  refine sJ5_append_c97b9_13 hΓ rfl ?_
  refine sJ5_append_c97b9_14 hΓ 1 640 (Nat.le_of_ble_eq_true rfl) h.2.1 (fun κ2 h2 => sj_ensure (d := d) h2 h (by omega) (fun σ1 v1 m1 a1 hm h1 => ?_))
  show AW G κ _ _ 17 _ _ _
  have hm6 := h1.2.2.2.1.2
  refine sJ5_append_c97b9_17 hΓ rfl ?_
  refine sJ5_append_c97b9_18 hΓ 0 0 (Nat.le_of_ble_eq_true rfl) h1.2.1 (fun κ2 h2 => sj_latin (d := d + 3) h2 h1.2.1 rfl ?_)
  show AW G κ _ _ 21 _ _ _
  refine sJ5_append_c97b9_21 hΓ (fun c9 => absurd c9 (by decide)) (fun _ => ?_)
  refine sJ5_append_c97b9_24 hΓ rfl ?_
  refine sJ5_append_c97b9_25 hΓ rfl ?_
  refine sJ5_append_c97b9_26 hΓ rfl ?_
  refine sJ5_append_c97b9_27 hΓ h1.2.1 rfl ?_
  refine sJ5_append_c97b9_30 hΓ 0 0 (Nat.le_of_ble_eq_true rfl) (fun κ2 h2 => sj_getChars (d := d + 3) h2 hk h1.2.2.1 hm6 hm (by omega) (fun x a2 y1 y2 y3 => ?_))
  show AW G κ _ _ 33 _ _ _
  rw [Nat.add_sub_cancel] at y1 y2
  refine sJ5_append_c97b9_33i hΓ ?_
  refine sJ5_append_c97b9_34 hΓ ?_
  refine sJ5_append_c97b9_48 hΓ rfl ?_
  refine sJ5_append_c97b9_49 hΓ rfl ?_
  refine sJ5_append_c97b9_50 hΓ ((hset_ne h1.ne).trans h1.2.1) (Nat.le_of_ble_eq_true rfl) ?_
  refine sJ5_append_c97b9_53 hΓ rfl ?_
  exact sJ5_append_c97b9_54 hΓ (hq _ v1 m1 a2 (h1.put2 (n2 := n + dgN k) hm (sb_latPut h1.2.2.2.2.1 y1 (fun i hi => ⟨dgC_b k i hk, y2 i hi⟩)) (y3 h1.2.2.2.2.2)))
/-- the letters of a text constant, as numbers -/
def txN (t i : Nat) : Nat := ((txB t).getD i 0).toNatClampNeg
theorem txN_b {t : Nat} (ht : t < 7) {i : Nat} (hi : i < (txB t).length) : txN t i < 256 ∧ (txB t).getD i 0 = sb_b (txN t i) := by
  obtain ⟨q, hq, e⟩ := tx_nI ht hi
  unfold txN
  rw [e, nI_clamp (by omega)]
  exact ⟨by omega, (by decide +kernel : ∀ q : Fin 128, nI q.1 = sb_b q.1) ⟨q, by omega⟩⟩
/-- String.getBytes(byte[], int, byte) of a text constant -/
theorem sj_getBytes (hΓ : Ok G κ mJ0_getBytes_840e7 (d + 1) Q X) {k e : Nat} (hk : k < 7) (hv : σ v = some (eB G m a)) (hm : m ≤ 640) (he : e + (txB k).length ≤ m) (hq : Q none (hset σ v (eB G m (va_cpy (fun i => (txB k).getD i 0) a 0 e (txB k).length)))) : AW G κ cs ss 0 [lR (gK G k), lR v, lI (nI e), lI 0] [] σ := by
  refine sJ0_getBytes_840e7_0 hΓ rfl ?_
  refine sJ0_getBytes_840e7_1 hΓ 0 0 (Nat.le_of_ble_eq_true rfl) hk (fun κ2 h2 => sp_coder (d := d) h2 hk ?_)
  show AW G κ _ _ 4 _ _ _
  refine sJ0_getBytes_840e7_4 hΓ rfl ?_
  refine sJ0_getBytes_840e7_5 hΓ (fun c9 => absurd rfl c9) (fun _ => ?_)
  refine sJ0_getBytes_840e7_8 hΓ rfl ?_
  refine sJ0_getBytes_840e7_9 hΓ hk ?_
  refine sJ0_getBytes_840e7_12 hΓ ?_
  refine sJ0_getBytes_840e7_13 hΓ rfl ?_
  refine sJ0_getBytes_840e7_14 hΓ rfl ?_
  refine sJ0_getBytes_840e7_15 hΓ rfl ?_
  refine sJ0_getBytes_840e7_16 hΓ ?_
  rw [sb_shl0]
  refine sJ0_getBytes_840e7_17 hΓ rfl ?_
  refine sJ0_getBytes_840e7_18 hΓ hk ?_
  refine sJ0_getBytes_840e7_21t hΓ hk ?_
  refine sJ0_getBytes_840e7_22t hΓ (Nat.le_of_ble_eq_true rfl) hk hv rfl rfl rfl he (by omega) ?_
  refine sJ0_getBytes_840e7_25 hΓ ?_
  exact sJ0_getBytes_840e7_43 hΓ hq
theorem sj_inflate (hΓ : Ok G κ mJ5_inflateIfNeededFor_a7421 (d + 1) Q X) {k : Nat} (hk : k < 7) (hb : σ b = some (.inr (1, bV v ml n))) (hq : Q none σ) : AW G κ cs ss 0 [lR b, lR (gK G k)] [] σ := by
  refine sJ5_inflateIfNeededFor_a7421_0 hΓ ?_
  refine sJ5_inflateIfNeededFor_a7421_3 hΓ (fun c9 => absurd c9 (by decide)) (fun _ => ?_)
  refine sJ5_inflateIfNeededFor_a7421_6 hΓ rfl ?_
  refine sJ5_inflateIfNeededFor_a7421_7 hΓ hb rfl ?_
  refine sJ5_inflateIfNeededFor_a7421_10 hΓ rfl ?_
  refine sJ5_inflateIfNeededFor_a7421_11 hΓ 0 0 (Nat.le_of_ble_eq_true rfl) hk (fun κ2 h2 => sp_coder (d := d) h2 hk ?_)
  show AW G κ _ _ 14 _ _ _
  refine sJ5_inflateIfNeededFor_a7421_14 hΓ (fun _ => ?_) (fun c9 => absurd rfl c9)
  exact sJ5_inflateIfNeededFor_a7421_21 hΓ hq
theorem sj_putStr (hΓ : Ok G κ mJ5_putStringAt_47b60 (d + 2) Q X) {k e : Nat} (hk : k < 7) (hb : σ b = some (.inr (1, bV v ml n))) (hv : σ v = some (eB G m a)) (hm : m ≤ 640) (he : e + (txB k).length ≤ m) (hq : Q none (hset σ v (eB G m (va_cpy (fun i => (txB k).getD i 0) a 0 e (txB k).length)))) : AW G κ cs ss 0 [lR b, lI (nI e), lR (gK G k)] [] σ := by
  refine sJ5_putStringAt_47b60_0 hΓ rfl ?_
  refine sJ5_putStringAt_47b60_1 hΓ rfl ?_
  refine sJ5_putStringAt_47b60_2 hΓ 0 0 (Nat.le_of_ble_eq_true rfl) hb (fun κ2 h2 => sj_inflate (d := d) h2 hk hb ?_)
  show AW G κ _ _ 5 _ _ _
  refine sJ5_putStringAt_47b60_5 hΓ rfl ?_
  refine sJ5_putStringAt_47b60_6 hΓ rfl ?_
  refine sJ5_putStringAt_47b60_7 hΓ hb rfl ?_
  refine sJ5_putStringAt_47b60_10 hΓ rfl ?_
  refine sJ5_putStringAt_47b60_11 hΓ rfl ?_
  refine sJ5_putStringAt_47b60_12 hΓ hb rfl ?_
  refine sJ5_putStringAt_47b60_15 hΓ 0 0 (Nat.le_of_ble_eq_true rfl) hk (fun κ2 h2 => sj_getBytes (d := d) h2 hk hv hm he ?_)
  show AW G κ _ _ 18 _ _ _
  exact sJ5_putStringAt_47b60_18 hΓ hq
/-- AbstractStringBuilder.append(String) of a text constant -/
theorem sj_appS (hΓ : Ok G κ mJ5_append_cf1ce (d + 4) Q X) (h : SBv G σ0 σ b t n v m a ml) {k : Nat} (hk : k < 7) (hn9 : n + (txB k).length ≤ 300) (hq : ∀ (σ1 : Hp) (v1 m1 : Nat) (a1 : Nat → Int32), SBv G σ0 σ1 b (sb_cat t n (txN k)) (n + (txB k).length) v1 m1 a1 ml → Q (some (.ref b)) σ1) : AW G κ (cs + 1) (ss + 640) 0 [lR b, lR (gK G k), none] [] σ := by
  refine sJ5_append_cf1ce_0q hΓ (r := some (gK G k)) rfl ?_
  refine sJ5_append_cf1ce_1 hΓ (fun a9 e9 => ?_) (fun c9 => by cases c9)
  cases e9
  refine sJ5_append_cf1ce_9 hΓ rfl ?_
  refine sJ5_append_cf1ce_10 hΓ 0 0 (Nat.le_of_ble_eq_true rfl) hk (fun κ2 h2 => sp_slen (d := d + 2) h2 hk ?_)
  show AW G κ _ _ 13 _ _ _
  refine sJ5_append_cf1ce_13 hΓ ?_
  refine sJ5_append_cf1ce_14 hΓ rfl ?_
  refine sJ5_append_cf1ce_15 hΓ rfl ?_
  refine sJ5_append_cf1ce_16 hΓ h.2.1 rfl ?_
  refine sJ5_append_cf1ce_19 hΓ rfl ?_
  refine sJ5_append_cf1ce_20 hΓ ?_
  rw [nI_add]
  refine sJ5_append_cf1ce_21 hΓ 1 640 (Nat.le_of_ble_eq_true rfl) h.2.1 (fun κ2 h2 => sj_ensure (d := d) h2 h hn9 (fun σ1 v1 m1 a1 hm h1 => ?_))
  show AW G κ _ _ 24 _ _ _
  refine sJ5_append_cf1ce_24 hΓ rfl ?_
  refine sJ5_append_cf1ce_25 hΓ rfl ?_
  refine sJ5_append_cf1ce_26 hΓ h1.2.1 rfl ?_
  refine sJ5_append_cf1ce_29 hΓ rfl ?_
  refine sJ5_append_cf1ce_30 hΓ 0 0 (Nat.le_of_ble_eq_true rfl) h1.2.1 (fun κ2 h2 => sj_putStr (d := d + 1) h2 hk h1.2.1 h1.2.2.1 h1.2.2.2.1.2 hm ?_)
  show AW G κ _ _ 33 _ _ _
  refine sJ5_append_cf1ce_33 hΓ rfl ?_
  refine sJ5_append_cf1ce_34 hΓ ?_
  refine sJ5_append_cf1ce_35 hΓ ((hset_ne h1.ne).trans h1.2.1) rfl ?_
  refine sJ5_append_cf1ce_38 hΓ rfl ?_
  refine sJ5_append_cf1ce_39 hΓ ?_
  rw [nI_add]
  refine sJ5_append_cf1ce_40 hΓ ((hset_ne h1.ne).trans h1.2.1) (Nat.le_of_ble_eq_true rfl) ?_
  refine sJ5_append_cf1ce_43 hΓ rfl ?_
  refine sJ5_append_cf1ce_44 hΓ (hq _ v1 m1 _ (h1.put2 (n2 := n + (txB k).length) hm (sb_latPut h1.2.2.2.2.1 (fun j hj => pk_cpy_out (Or.inl hj)) (fun i hi => ?_)) (sb_fitC (fun i => tx_fit hk i) h1.2.2.2.2.2)))
  rw [pk_cpy_in (by omega) (by omega), show 0 + (n + i - n) = i by omega]
  exact txN_b hk hi
/-- StringBuilder.append -/
theorem sj_aC (hΓ : Ok G κ mJ4_append_cf468 (d + 5) Q X) (h : SBv G σ0 σ b t n v m a ml) {c : Nat} (hc : c < 128) (hn9 : n + 1 ≤ 300) (hq : ∀ (σ1 : Hp) (v1 m1 : Nat) (a1 : Nat → Int32), SBv G σ0 σ1 b (sb_cat t n (fun _ => c)) (n + 1) v1 m1 a1 ml → Q (some (.ref b)) σ1) : AW G κ (cs + 1) (ss + 640) 0 [lR b, lI (nI c)] [] σ := by
  refine sJ4_append_cf468_0 hΓ rfl ?_
  refine sJ4_append_cf468_1 hΓ rfl ?_
  refine sJ4_append_cf468_2 hΓ 1 640 (Nat.le_of_ble_eq_true rfl) h.2.1 (fun κ2 h2 => sj_appC (d := d) h2 h hc hn9 (fun σ1 v1 m1 a1 h1 => ?_))
  show AW G κ _ _ 5 _ _ _
  refine sJ4_append_cf468_5 hΓ (v := .inr (some b)) ?_
  refine sJ4_append_cf468_6 hΓ rfl ?_
  exact sJ4_append_cf468_7 hΓ (hq _ v1 m1 a1 h1)
/-- StringBuilder.append -/
theorem sj_aI (hΓ : Ok G κ mJ4_append_bf812 (d + 5) Q X) (h : SBv G σ0 σ b t n v m a ml) {k : Nat} (hk : k < 1000) (hn9 : n + 3 ≤ 300) (hq : ∀ (σ1 : Hp) (v1 m1 : Nat) (a1 : Nat → Int32), SBv G σ0 σ1 b (sb_cat t n (dgC k)) (n + dgN k) v1 m1 a1 ml → Q (some (.ref b)) σ1) : AW G κ (cs + 1) (ss + 640) 0 [lR b, lI (nI k)] [] σ := by
  refine sJ4_append_bf812_0 hΓ rfl ?_
  refine sJ4_append_bf812_1 hΓ rfl ?_
  refine sJ4_append_bf812_2 hΓ 1 640 (Nat.le_of_ble_eq_true rfl) h.2.1 (fun κ2 h2 => sj_appI (d := d) h2 h hk hn9 (fun σ1 v1 m1 a1 h1 => ?_))
  show AW G κ _ _ 5 _ _ _
  refine sJ4_append_bf812_5 hΓ (v := .inr (some b)) ?_
  refine sJ4_append_bf812_6 hΓ rfl ?_
  exact sJ4_append_bf812_7 hΓ (hq _ v1 m1 a1 h1)
/-- StringBuilder.append -/
theorem sj_aS (hΓ : Ok G κ mJ4_append_15ec4 (d + 5) Q X) (h : SBv G σ0 σ b t n v m a ml) {k : Nat} (hk : k < 7) (hn9 : n + (txB k).length ≤ 300) (hq : ∀ (σ1 : Hp) (v1 m1 : Nat) (a1 : Nat → Int32), SBv G σ0 σ1 b (sb_cat t n (txN k)) (n + (txB k).length) v1 m1 a1 ml → Q (some (.ref b)) σ1) : AW G κ (cs + 1) (ss + 640) 0 [lR b, lR (gK G k)] [] σ := by
  refine sJ4_append_15ec4_0 hΓ rfl ?_
  refine sJ4_append_15ec4_1 hΓ rfl ?_
  refine sJ4_append_15ec4_2 hΓ 1 640 (Nat.le_of_ble_eq_true rfl) h.2.1 (fun κ2 h2 => sj_appS (d := d) h2 h hk hn9 (fun σ1 v1 m1 a1 h1 => ?_))
  show AW G κ _ _ 5 _ _ _
  refine sJ4_append_15ec4_5 hΓ (v := .inr (some b)) ?_
  refine sJ4_append_15ec4_6 hΓ rfl ?_
  exact sJ4_append_15ec4_7 hΓ (hq _ v1 m1 a1 h1)
theorem sj_aBr (hΓ : Ok G κ mJ4_append_cf1ce (d + 6) Q X) (h : SBv G σ0 σ b t n v m a ml) {k : Nat} (hk : k < 7) (hn9 : n + (txB k).length ≤ 300) (hq : ∀ (σ1 : Hp) (v1 m1 : Nat) (a1 : Nat → Int32), SBv G σ0 σ1 b (sb_cat t n (txN k)) (n + (txB k).length) v1 m1 a1 ml → Q (some (.ref b)) σ1) : AW G κ (cs + 1) (ss + 640) 0 [lR b, lR (gK G k)] [] σ := by
  refine sJ4_append_cf1ce_0 hΓ rfl ?_
  refine sJ4_append_cf1ce_1 hΓ rfl ?_
  refine sJ4_append_cf1ce_2 hΓ 1 640 (Nat.le_of_ble_eq_true rfl) h.2.1 (fun κ2 h2 => sj_aS (d := d) h2 h hk hn9 (fun σ1 v1 m1 a1 h1 => ?_))
  show AW G κ _ _ 5 _ _ _
  exact sJ4_append_cf1ce_5 hΓ (hq _ v1 m1 a1 h1)
/-- AbstractStringBuilder's making from a text constant -/
theorem sj_init5 (hΓ : Ok G κ mJ5_init_a7421 (d + 7) Q X) (h0 : ∀ y e, σ0 y = some e → σ y = some e) (h1 : σ0 b = none) (hb : σ b = some (.inr (1, [.null, .int 0, .int 0, .int 0]))) {k : Nat} (hk : k < 7) (hl : (txB k).length ≤ 20) (hq : ∀ (σ1 : Hp) (v1 m1 : Nat) (a1 : Nat → Int32), SBv G σ0 σ1 b (sb_cat (fun _ => 0) 0 (txN k)) (0 + (txB k).length) v1 m1 a1 0 → Q none σ1) : AW G κ (cs + 1 + 1) (ss + 640 + 40) 0 [lR b, lR (gK G k), none, none, none] [] σ := by
  refine sJ5_init_a7421_0 hΓ rfl ?_
  refine sJ5_init_a7421_1 hΓ (Nat.le_of_ble_eq_true rfl) ?_
  refine sJ5_init_a7421_4 hΓ rfl ?_
  refine sJ5_init_a7421_5 hΓ 0 0 (Nat.le_of_ble_eq_true rfl) hk (fun κ2 h2 => sp_slen (d := d + 5) h2 hk ?_)
  show AW G κ _ _ 8 _ _ _
  refine sJ5_init_a7421_8 hΓ ?_
  refine sJ5_init_a7421_9 hΓ rfl ?_
  refine sJ5_init_a7421_10 hΓ ?_
  refine sJ5_init_a7421_12 hΓ (fun c9 => absurd c9 (show ¬ nI 2147483631 ≤ nI _ from nI_ge (by omega) (by decide))) (fun _ => ?_)
  refine sJ5_init_a7421_15 hΓ rfl ?_
  refine sJ5_init_a7421_16 hΓ ?_
  refine sJ5_init_a7421_18 hΓ ?_
  rw [show nI (txB k).length + (16 : Int32) = nI ((txB k).length + 16) from nI_add _ 16]
  refine sJ5_init_a7421_19 hΓ ?_
  refine sJ5_init_a7421_24 hΓ ?_
  refine sJ5_init_a7421_25 hΓ rfl ?_
  refine sJ5_init_a7421_26 hΓ 0 0 (Nat.le_of_ble_eq_true rfl) hk (fun κ2 h2 => sp_coder (d := d + 6) h2 hk ?_)
  show AW G κ _ _ 29 _ _ _
  refine sJ5_init_a7421_29 hΓ ?_
  refine sJ5_init_a7421_31 hΓ rfl ?_
  refine sJ5_init_a7421_32 hΓ rfl ?_
  refine sJ5_init_a7421_34 hΓ hb (Or.inl rfl) (Nat.le_of_ble_eq_true rfl) ?_
  refine sJ5_init_a7421_37 hΓ rfl ?_
  refine sJ5_init_a7421_38 hΓ rfl ?_
  refine sJ5_init_a7421_40 hΓ (fun c9 => absurd rfl c9) (fun _ => ?_)
  refine sJ5_init_a7421_43 hΓ rfl ?_
  refine aw_less (cs2 := cs + 1 + 1) (ss2 := ss + 640 + ((txB k).length + 16)) (by omega) (by omega) ?_
  refine sJ5_init_a7421_44 hΓ rfl (by omega) (fun r hr hr9 => ?_)
  have hbr : b ≠ r := fun e => by rw [e, hset_same] at hr; cases hr
  have hr0 : σ r = none := by rw [← hr]; exact (hset_ne (Ne.symm hbr)).symm
  have hr1 : σ0 r = none := by
    cases h9 : σ0 r with
    | none => rfl
    | some e => rw [h0 r e h9] at hr0; cases hr0
  refine sJ5_init_a7421_46 hΓ ?_
  refine sJ5_init_a7421_53 hΓ ((hset_ne hbr).trans (hset_same _ _ _)) (Nat.le_of_ble_eq_true rfl) ?_
  have hS : SBv G σ0 (hset (hset (hset σ b (.inr (1, [.null, .int 0, .int 0, .int 0]))) r (eB G ((txB k).length + 16) (fun _ => 0))) b (.inr (1, bV r 0 0))) b (fun _ => 0) 0 r ((txB k).length + 16) (fun _ => 0) 0 := by
    refine ⟨⟨fun y e hy => ?_, h1, hr1⟩, hset_same _ _ _, (hset_ne (Ne.symm hbr)).trans (hset_same _ _ _), ⟨by omega, by omega⟩, fun j hj => by omega, sb_fit0⟩
    have y1 : y ≠ b := fun e9 => by rw [e9, h1] at hy; cases hy
    have y2 : y ≠ r := fun e9 => by rw [e9, hr1] at hy; cases hy
    rw [hset_ne y1, hset_ne y2, hset_ne y1]
    exact h0 y e hy
  refine sJ5_init_a7421_56 hΓ rfl ?_
  refine sJ5_init_a7421_57 hΓ rfl ?_
  refine sJ5_init_a7421_58 hΓ 1 640 (Nat.le_of_ble_eq_true rfl) hS.2.1 (fun κ2 h2 => sj_aBr (d := d) h2 hS hk (by omega) (fun σ1 v1 m1 a1 g1 => ?_))
  show AW G κ _ _ 61 _ _ _
  refine sJ5_init_a7421_61 hΓ (v := .inr (some b)) ?_
  exact sJ5_init_a7421_62 hΓ (hq _ v1 m1 a1 g1)
/-- new StringBuilder(String) of a text constant -/
theorem sj_init (hΓ : Ok G κ mJ4_init_a7421 (d + 8) Q X) (h0 : ∀ y e, σ0 y = some e → σ y = some e) (h1 : σ0 b = none) (hb : σ b = some (.inr (1, [.null, .int 0, .int 0, .int 0]))) {k : Nat} (hk : k < 7) (hl : (txB k).length ≤ 20) (hq : ∀ (σ1 : Hp) (v1 m1 : Nat) (a1 : Nat → Int32), SBv G σ0 σ1 b (sb_cat (fun _ => 0) 0 (txN k)) (0 + (txB k).length) v1 m1 a1 0 → Q none σ1) : AW G κ (cs + 2) (ss + 680) 0 [lR b, lR (gK G k)] [] σ := by
  refine sJ4_init_a7421_0 hΓ rfl ?_
  refine sJ4_init_a7421_1 hΓ rfl ?_
  refine sJ4_init_a7421_2 hΓ 2 680 (Nat.le_of_ble_eq_true rfl) (fun κ2 h2 => sj_init5 (d := d) (cs := 0) (ss := 0) h2 h0 h1 hb hk hl (fun σ1 v1 m1 a1 g1 => ?_))
  show AW G κ _ _ 5 _ _ _
  exact sJ4_init_a7421_5 hΓ (hq _ v1 m1 a1 g1)
end Builder2
