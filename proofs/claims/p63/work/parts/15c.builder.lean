/-! the builder's code -/
theorem tx_fit {t : Nat} (ht : t < 7) (i : Nat) : fits .byte (.int ((txB t).getD i 0)) = true := by
  by_cases h : i < (txB t).length
  · obtain ⟨q, hq, e⟩ := tx_nI ht h
    rw [e]
    exact (by decide +kernel : ∀ q : Fin 128, fits .byte (.int (nI q.1)) = true) ⟨q, by omega⟩
  · rw [List.getD_eq_getElem?_getD, List.getElem?_eq_none (by omega)]
    decide
section CopyT
variable {G : Gl} {κ : Kx} {M : Mx} {d : Nat} {Q : Option Value → Hp → Prop} {X : String → Hp → Prop} {cs ss pc : Nat} {L : List (Option LV)} {st : List Value} {σ : Hp}
/-- System.arraycopy of a text constant's bytes, whole, into a byte array -/
theorem aw_copyT (hΓ : Ok G κ M (d + 1) Q X) {index t a1 n1 j : Nat} {g : Nat → Int32} {sp dp len : Int32} (hlink : Cond.methodLink (mY M).cls index arraycopyName ∈ lw_tbl) (hnat : Cond.native arraycopyName ∈ lw_tbl) (hstat : Cond.static arraycopyName ∈ lw_tbl) (hini : Cond.initialized "java/lang/System" ∈ lw_tbl) (hd : decode (mB M) pc = .ok (.invokestatic index, 3)) (hst : (st.map fun v => v.category).sum ≤ 7) (ht : t < 7) (h1 : σ a1 = some (eB G n1 g)) (hi : sp = nI 0) (hj : dp = nI j) (hn : len = nI (txB t).length) (hjn : j + (txB t).length ≤ n1) (hb1 : n1 < 2 ^ 31)
    (kk : AW G κ cs ss (pc + 3) L st (hset σ a1 (eB G n1 (va_cpy (fun i => (txB t).getD i 0) g 0 j (txB t).length)))) : AW G κ cs ss pc L (.int len :: .int dp :: .ref a1 :: .int sp :: .ref (gV G t) :: st) σ := by
  obtain ⟨p, l, e, R, s, m, args, below, meth, c, Z⟩ := κ
  intro H locs cells slots ls hH hc hs hL
  obtain ⟨ws, hP, hD, hall⟩ := hH.1.ls
  obtain ⟨q1, he1⟩ := hall _ _ h1
  have hf : d + 1 ≤ R.frames := hΓ.2.1.2.1
  have hlo : 38 * (d + 1) ≤ R.locals := hΓ.2.1.2.2
  have hw : nativeFrameWords "java/lang/System" "arraycopy" 5 ≤ 19 := by decide +kernel
  have hN : (txB t).length < 2 ^ 31 := tx_len ht
  obtain ⟨scr, g1, ⟨g6, k0, hk0, cm0, hkk0⟩, g3, gN, -, g5, gA9⟩ := (hΓ.ci.2.2.1 t ht).2.2.2.kept hH.2.2.1
  have hc1 : H[a1]? = some (vp_cell (gC G 3) (n1, .inl g)) := hP q1 _ he1
  obtain ⟨-, k1, hk1, cm1, hkk1⟩ := (hΓ.isK.2 3 (gC G 3, .byte) rfl).1 n1 (fun j => .int (g j))
  subst hi; subst hj; subst hn
  have ej : (nI j).toNatClampNeg = j := nI_clamp (by omega)
  have en : (nI (txB t).length).toNatClampNeg = (txB t).length := nI_clamp hN
  have tj : (nI j).toInt = (j : Int) := nI_toInt (by omega)
  have tn : (nI (txB t).length).toInt = ((txB t).length : Int) := nI_toInt hN
  intro T hT Xs
  obtain ⟨vm', X', step⟩ := Xs.arraycopy hΓ.exec hΓ.own (hΓ.word hlink rfl) (hΓ.word hnat rfl) (hΓ.word hstat rfl) (hΓ.word hini rfl) (src := gV G t) (dst := a1) (cs := scr) (cd := vp_cell (gC G 3) (n1, .inl g)) (srcPos := nI 0) (destPos := nI j) (n := nI (txB t).length) (by rw [hT]; exact g1) (by rw [hT]; exact hc1)
    g6 (fun _ h => by cases h) g3 (fun h => by cases h) hk0 hk1 hkk0 hkk1 (by simp [refKind]) (by decide) (nI_pos (by omega)) (nI_pos hN)
    (by rw [tn, show (nI 0).toInt = 0 from rfl]; omega)
    (by rw [tj, tn]; show ¬ _ > ((arrV (gC G 3) n1 (fun j => .int (g j))).slots.size : Int); rw [arrV_size]; omega)
    (fun vm₁ _ i hi => by
      have e0 : scr.slots.getD ((nI 0).toNatClampNeg + i) .null = .int ((txB t).getD ((nI 0).toNatClampNeg + i) 0) := by
        rw [en] at hi
        rw [Array.getD_eq_getD_getElem?, g5 _ (by show 0 + i < _; omega)]
        rfl
      refine ⟨?_, ?_⟩
      · rw [e0]
        exact tx_fit ht _
      · rw [e0]
        exact trivial)
    (g := F0 m pc ls (.int (nI (txB t).length) :: .int (nI j) :: .ref a1 :: .int (nI 0) :: .ref (gV G t) :: st)) rfl hL.1 (rest := st) rfl (by rw [hΓ.code]; exact hd) (by omega) (by show 2 * 0 + (st.map fun v => v.category).sum + _ ≤ _; omega)
  have e1 : copied scr (vp_cell (gC G 3) (n1, .inl g)) (nI 0) (nI j) (nI (txB t).length) = vp_cell (gC G 3) (n1, .inl (va_cpy (fun i => (txB t).getD i 0) g 0 j (txB t).length)) := by
    have h9 := va_copiedX (sp := 0) (dp := j) (n := (txB t).length) (n1 := n1) (fun z => .int z) scr (gC G 3) (fun i => (txB t).getD i 0) g g5 (by omega)
    show (vp_cell (gC G 3) (n1, .inl g)).storeRun (nI j).toNatClampNeg (scr.stretch (nI 0).toNatClampNeg (nI (txB t).length).toNatClampNeg) = _
    rw [ej, en]
    exact h9
  rw [e1] at X' step
  have hl : a1 < H.size := (Array.getElem?_eq_some_iff.mp hc1).1
  have hheap : ((T.setVm vm').setCell a1 (vp_cell (gC G 3) (n1, .inl (va_cpy (fun i => (txB t).getD i 0) g 0 j (txB t).length)))).heap = H.setIfInBounds a1 (vp_cell (gC G 3) (n1, .inl (va_cpy (fun i => (txB t).getD i 0) g 0 j (txB t).length))) := by rw [← hT]; rfl
  have oq : ∀ q : Nat, q ≠ a1 → (H.setIfInBounds a1 (vp_cell (gC G 3) (n1, .inl (va_cpy (fun i => (txB t).getD i 0) g 0 j (txB t).length))))[q]? = H[q]? := fun q hq => by simp [Array.getElem?_setIfInBounds, Ne.symm hq]
  have hP1 := hP.set hD he1 (show va_at (gD G) vwCl (a1, .inl (gC G 3, n1, .inl (va_cpy (fun i => (txB t).getD i 0) g 0 j (txB t).length))) (H.setIfInBounds a1 _) from by show (H.setIfInBounds a1 _)[a1]? = some _; simp [Array.getElem?_setIfInBounds, hl]) oq
  obtain ⟨t9, a9, b9⟩ := kk _ _ cells slots ls ⟨HS.put hall he1 hP1 (hD.set he1), ⟨by simp; exact hH.2.1, fun q y1 y2 => by
      rw [oq q (fun e => y2 (by rw [e]; exact hD.2 q1 _ he1))]
      exact hH.2.2.1 q y1 y2, fun q hq => by
      rcases List.mem_append.mp hq with h | h
      · exact hH.2.2.2 q h
      · obtain ⟨z, -, hz⟩ := List.mem_map.mp h
        rw [← hz]
        exact hD.2 q1 _ he1⟩⟩ hc hs hL _ hheap X'
  exact ⟨t9, step t9 a9, b9⟩
end CopyT
theorem q1207 : Cond.fieldLink "java/lang/AbstractStringBuilder" (18) "java/lang/String" "COMPACT_STRINGS" "Z" ∈ lw_tbl := List.mem_of_getElem? (i := 1207) (by decide +kernel)
theorem q1295 : Cond.fieldLink "java/lang/Integer" (83) "java/lang/Integer" "DigitOnes" "[B" ∈ lw_tbl := List.mem_of_getElem? (i := 1295) (by decide +kernel)
theorem q1297 : Cond.fieldLink "java/lang/Integer" (87) "java/lang/Integer" "DigitTens" "[B" ∈ lw_tbl := List.mem_of_getElem? (i := 1297) (by decide +kernel)
theorem sJ5_isLatin1_aae02_0 {G : Gl} {κ : Kx} {d : Nat} {Q : Option Value → Hp → Prop} {X : String → Hp → Prop} {cs ss : Nat} {L : List (Option LV)} {st : List Value} {σ : Hp}  (hΓ : Ok G κ mJ5_isLatin1_aae02 d Q X) (k : AW G κ cs ss 3 L (.int 1 :: st) (σ)) : AW G κ cs ss 0 L (st) (σ) := aw_gets hΓ (fun _ _ h => h.2.2.2.2.2.2.1) q1207 dJ5_isLatin1_aae02_0 k
theorem sJ5_inflateIfNeededFor_a7421_0 {G : Gl} {κ : Kx} {d : Nat} {Q : Option Value → Hp → Prop} {X : String → Hp → Prop} {cs ss : Nat} {L : List (Option LV)} {st : List Value} {σ : Hp}  (hΓ : Ok G κ mJ5_inflateIfNeededFor_a7421 d Q X) (k : AW G κ cs ss 3 L (.int 1 :: st) (σ)) : AW G κ cs ss 0 L (st) (σ) := aw_gets hΓ (fun _ _ h => h.2.2.2.2.2.2.1) q1207 dJ5_inflateIfNeededFor_a7421_0 k
theorem sJ5_init_a7421_5 {G : Gl} {κ : Kx} {d : Nat} {Q : Option Value → Hp → Prop} {X : String → Hp → Prop} {cs ss : Nat} {L : List (Option LV)} {st : List Value} {σ : Hp} {t : Nat}  (hΓ : Ok G κ mJ5_init_a7421 (d + 1) Q X) (mc ms : Nat) (hst : (st.map fun v => v.category).sum ≤ 8) (ht : t < 7) (body : ∀ κ2 : Kx, Ok G κ2 mJ0_length_8abf5 d (KV G κ cs ss 8 L st) X → AW G κ2 mc ms 0 [some (.inr (some (gK G t)))] [] σ) : AW G κ (cs + mc) (ss + ms) 5 L (.ref (gK G t) :: st) (σ) := aw_invT hΓ (M2 := mJ0_length_8abf5) [] mc ms rfl okJ0_length_8abf5 ht rfl q474 q475 q1146 rfl (Nat.le_of_ble_eq_true rfl) hst dJ5_init_a7421_5 body
theorem sJ5_init_a7421_26 {G : Gl} {κ : Kx} {d : Nat} {Q : Option Value → Hp → Prop} {X : String → Hp → Prop} {cs ss : Nat} {L : List (Option LV)} {st : List Value} {σ : Hp} {t : Nat}  (hΓ : Ok G κ mJ5_init_a7421 (d + 1) Q X) (mc ms : Nat) (hst : (st.map fun v => v.category).sum ≤ 8) (ht : t < 7) (body : ∀ κ2 : Kx, Ok G κ2 mJ0_coder_7d493 d (KV G κ cs ss 29 L st) X → AW G κ2 mc ms 0 [some (.inr (some (gK G t)))] [] σ) : AW G κ (cs + mc) (ss + ms) 26 L (.ref (gK G t) :: st) (σ) := aw_invT hΓ (M2 := mJ0_coder_7d493) [] mc ms rfl okJ0_coder_7d493 ht rfl q478 q479 q1149 rfl (Nat.le_of_ble_eq_true rfl) hst dJ5_init_a7421_26 body
theorem sJ5_append_cf1ce_10 {G : Gl} {κ : Kx} {d : Nat} {Q : Option Value → Hp → Prop} {X : String → Hp → Prop} {cs ss : Nat} {L : List (Option LV)} {st : List Value} {σ : Hp} {t : Nat}  (hΓ : Ok G κ mJ5_append_cf1ce (d + 1) Q X) (mc ms : Nat) (hst : (st.map fun v => v.category).sum ≤ 8) (ht : t < 7) (body : ∀ κ2 : Kx, Ok G κ2 mJ0_length_8abf5 d (KV G κ cs ss 13 L st) X → AW G κ2 mc ms 0 [some (.inr (some (gK G t)))] [] σ) : AW G κ (cs + mc) (ss + ms) 10 L (.ref (gK G t) :: st) (σ) := aw_invT hΓ (M2 := mJ0_length_8abf5) [] mc ms rfl okJ0_length_8abf5 ht rfl q474 q475 q1146 rfl (Nat.le_of_ble_eq_true rfl) hst dJ5_append_cf1ce_10 body
theorem sJ5_inflateIfNeededFor_a7421_11 {G : Gl} {κ : Kx} {d : Nat} {Q : Option Value → Hp → Prop} {X : String → Hp → Prop} {cs ss : Nat} {L : List (Option LV)} {st : List Value} {σ : Hp} {t : Nat}  (hΓ : Ok G κ mJ5_inflateIfNeededFor_a7421 (d + 1) Q X) (mc ms : Nat) (hst : (st.map fun v => v.category).sum ≤ 8) (ht : t < 7) (body : ∀ κ2 : Kx, Ok G κ2 mJ0_coder_7d493 d (KV G κ cs ss 14 L st) X → AW G κ2 mc ms 0 [some (.inr (some (gK G t)))] [] σ) : AW G κ (cs + mc) (ss + ms) 11 L (.ref (gK G t) :: st) (σ) := aw_invT hΓ (M2 := mJ0_coder_7d493) [] mc ms rfl okJ0_coder_7d493 ht rfl q478 q479 q1149 rfl (Nat.le_of_ble_eq_true rfl) hst dJ5_inflateIfNeededFor_a7421_11 body
theorem sJ5_putStringAt_47b60_15 {G : Gl} {κ : Kx} {d : Nat} {Q : Option Value → Hp → Prop} {X : String → Hp → Prop} {cs ss : Nat} {L : List (Option LV)} {st : List Value} {σ : Hp} {t : Nat} {p0 : Nat} {p1 : Int32} {p2 : Int32} (hΓ : Ok G κ mJ5_putStringAt_47b60 (d + 1) Q X) (mc ms : Nat) (hst : (st.map fun v => v.category).sum ≤ 8) (ht : t < 7) (body : ∀ κ2 : Kx, Ok G κ2 mJ0_getBytes_840e7 d (KV G κ cs ss 18 L st) X → AW G κ2 mc ms 0 [some (.inr (some (gK G t))), some (.inr (some p0)), some (.inl p1), some (.inl p2)] [] σ) : AW G κ (cs + mc) (ss + ms) 15 L (.int p2 :: .int p1 :: .ref p0 :: .ref (gK G t) :: st) (σ) := aw_invT hΓ (M2 := mJ0_getBytes_840e7) [.inr (some p0), .inl p1, .inl p2] mc ms rfl okJ0_getBytes_840e7 ht rfl q1251 q1252 q1250 rfl (Nat.le_of_ble_eq_true rfl) hst dJ5_putStringAt_47b60_15 body
theorem sJ0_getBytes_840e7_1 {G : Gl} {κ : Kx} {d : Nat} {Q : Option Value → Hp → Prop} {X : String → Hp → Prop} {cs ss : Nat} {L : List (Option LV)} {st : List Value} {σ : Hp} {t : Nat}  (hΓ : Ok G κ mJ0_getBytes_840e7 (d + 1) Q X) (mc ms : Nat) (hst : (st.map fun v => v.category).sum ≤ 8) (ht : t < 7) (body : ∀ κ2 : Kx, Ok G κ2 mJ0_coder_7d493 d (KV G κ cs ss 4 L st) X → AW G κ2 mc ms 0 [some (.inr (some (gK G t)))] [] σ) : AW G κ (cs + mc) (ss + ms) 1 L (.ref (gK G t) :: st) (σ) := aw_invT hΓ (M2 := mJ0_coder_7d493) [] mc ms rfl okJ0_coder_7d493 ht rfl q478 q479 q477 rfl (Nat.le_of_ble_eq_true rfl) hst dJ0_getBytes_840e7_1 body
theorem sJ0_getBytes_840e7_9 {G : Gl} {κ : Kx} {d : Nat} {Q : Option Value → Hp → Prop} {X : String → Hp → Prop} {cs ss : Nat} {L : List (Option LV)} {st : List Value} {σ : Hp} {t : Nat} (hΓ : Ok G κ mJ0_getBytes_840e7 d Q X) (ht : t < 7) (k : AW G κ cs ss 12 L (.ref (gV G t) :: st) (σ)) : AW G κ cs ss 9 L (.ref (gK G t) :: st) (σ) := aw_getfC hΓ (fun _ _ h => (h.2.2.1 t ht).2.2.1) q1353 dJ0_getBytes_840e7_9 k
theorem sJ0_getBytes_840e7_18 {G : Gl} {κ : Kx} {d : Nat} {Q : Option Value → Hp → Prop} {X : String → Hp → Prop} {cs ss : Nat} {L : List (Option LV)} {st : List Value} {σ : Hp} {t : Nat} (hΓ : Ok G κ mJ0_getBytes_840e7 d Q X) (ht : t < 7) (k : AW G κ cs ss 21 L (.ref (gV G t) :: st) (σ)) : AW G κ cs ss 18 L (.ref (gK G t) :: st) (σ) := aw_getfC hΓ (fun _ _ h => (h.2.2.1 t ht).2.2.1) q1353 dJ0_getBytes_840e7_18 k
theorem sJ0_getBytes_840e7_21t {G : Gl} {κ : Kx} {d : Nat} {Q : Option Value → Hp → Prop} {X : String → Hp → Prop} {cs ss : Nat} {L : List (Option LV)} {st : List Value} {σ : Hp} {t : Nat} (hΓ : Ok G κ mJ0_getBytes_840e7 d Q X) (ht : t < 7) (k : AW G κ cs ss 22 L (.int (nI (txB t).length) :: st) (σ)) : AW G κ cs ss 21 L (.ref (gV G t) :: st) (σ) := aw_tlen hΓ (fun _ _ h => (h.2.2.1 t ht).2.2.2) dJ0_getBytes_840e7_21 k
theorem sJ0_getBytes_840e7_22t {G : Gl} {κ : Kx} {d : Nat} {Q : Option Value → Hp → Prop} {X : String → Hp → Prop} {cs ss : Nat} {L : List (Option LV)} {st : List Value} {σ : Hp} {t a1 n1 j : Nat} {g : Nat → Int32} {sp dp len : Int32} (hΓ : Ok G κ mJ0_getBytes_840e7 (d + 1) Q X) (hst : (st.map fun v => v.category).sum ≤ 7) (ht : t < 7) (h1 : σ a1 = some (eB G n1 g)) (hi : sp = nI 0) (hj : dp = nI j) (hn : len = nI (txB t).length) (hjn : j + (txB t).length ≤ n1) (hb1 : n1 < 2 ^ 31) (k : AW G κ cs ss 25 L (st) (hset σ a1 (eB G n1 (va_cpy (fun i => (txB t).getD i 0) g 0 j (txB t).length)))) : AW G κ cs ss 22 L (.int len :: .int dp :: .ref a1 :: .int sp :: .ref (gV G t) :: st) (σ) := aw_copyT hΓ q1254 q587 q586 q47 dJ0_getBytes_840e7_22 hst ht h1 hi hj hn hjn hb1 k
theorem sJ6_getChars_ba4f3_49 {G : Gl} {κ : Kx} {d : Nat} {Q : Option Value → Hp → Prop} {X : String → Hp → Prop} {cs ss : Nat} {L : List (Option LV)} {st : List Value} {σ : Hp}  (hΓ : Ok G κ mJ6_getChars_ba4f3 d Q X) (k : AW G κ cs ss 52 L (.ref (gE G 1) :: st) (σ)) : AW G κ cs ss 49 L (st) (σ) := aw_gets hΓ (fun _ _ h => h.2.2.2.2.1.1) q1295 dJ6_getChars_ba4f3_49 k
theorem sJ6_getChars_ba4f3_78 {G : Gl} {κ : Kx} {d : Nat} {Q : Option Value → Hp → Prop} {X : String → Hp → Prop} {cs ss : Nat} {L : List (Option LV)} {st : List Value} {σ : Hp}  (hΓ : Ok G κ mJ6_getChars_ba4f3 d Q X) (k : AW G κ cs ss 81 L (.ref (gE G 1) :: st) (σ)) : AW G κ cs ss 78 L (st) (σ) := aw_gets hΓ (fun _ _ h => h.2.2.2.2.1.1) q1295 dJ6_getChars_ba4f3_78 k
theorem sJ6_getChars_ba4f3_62 {G : Gl} {κ : Kx} {d : Nat} {Q : Option Value → Hp → Prop} {X : String → Hp → Prop} {cs ss : Nat} {L : List (Option LV)} {st : List Value} {σ : Hp}  (hΓ : Ok G κ mJ6_getChars_ba4f3 d Q X) (k : AW G κ cs ss 65 L (.ref (gE G 0) :: st) (σ)) : AW G κ cs ss 62 L (st) (σ) := aw_gets hΓ (fun _ _ h => h.2.2.2.1.1) q1297 dJ6_getChars_ba4f3_62 k
theorem sJ6_getChars_ba4f3_97 {G : Gl} {κ : Kx} {d : Nat} {Q : Option Value → Hp → Prop} {X : String → Hp → Prop} {cs ss : Nat} {L : List (Option LV)} {st : List Value} {σ : Hp}  (hΓ : Ok G κ mJ6_getChars_ba4f3 d Q X) (k : AW G κ cs ss 100 L (.ref (gE G 0) :: st) (σ)) : AW G κ cs ss 97 L (st) (σ) := aw_gets hΓ (fun _ _ h => h.2.2.2.1.1) q1297 dJ6_getChars_ba4f3_97 k
theorem sJ6_getChars_ba4f3_54 {G : Gl} {κ : Kx} {d : Nat} {Q : Option Value → Hp → Prop} {X : String → Hp → Prop} {cs ss : Nat} {L : List (Option LV)} {st : List Value} {σ : Hp} {i : Int32} {j : Nat} (hΓ : Ok G κ mJ6_getChars_ba4f3 d Q X) (hi : i = nI j) (hj : j < 100) (k : AW G κ cs ss 55 L (.int (nI (48 + j % 10)) :: st) (σ)) : AW G κ cs ss 54 L (.int i :: .ref (gE G 1) :: st) (σ) := aw_tb hΓ (f := fun j => .int (nI (48 + j % 10))) (fun _ _ h => h.2.2.2.2.1.2) hi hj (by decide) dJ6_getChars_ba4f3_54 k
theorem sJ6_getChars_ba4f3_83 {G : Gl} {κ : Kx} {d : Nat} {Q : Option Value → Hp → Prop} {X : String → Hp → Prop} {cs ss : Nat} {L : List (Option LV)} {st : List Value} {σ : Hp} {i : Int32} {j : Nat} (hΓ : Ok G κ mJ6_getChars_ba4f3 d Q X) (hi : i = nI j) (hj : j < 100) (k : AW G κ cs ss 84 L (.int (nI (48 + j % 10)) :: st) (σ)) : AW G κ cs ss 83 L (.int i :: .ref (gE G 1) :: st) (σ) := aw_tb hΓ (f := fun j => .int (nI (48 + j % 10))) (fun _ _ h => h.2.2.2.2.1.2) hi hj (by decide) dJ6_getChars_ba4f3_83 k
theorem sJ6_getChars_ba4f3_67 {G : Gl} {κ : Kx} {d : Nat} {Q : Option Value → Hp → Prop} {X : String → Hp → Prop} {cs ss : Nat} {L : List (Option LV)} {st : List Value} {σ : Hp} {i : Int32} {j : Nat} (hΓ : Ok G κ mJ6_getChars_ba4f3 d Q X) (hi : i = nI j) (hj : j < 100) (k : AW G κ cs ss 68 L (.int (nI (48 + j / 10)) :: st) (σ)) : AW G κ cs ss 67 L (.int i :: .ref (gE G 0) :: st) (σ) := aw_tb hΓ (f := fun j => .int (nI (48 + j / 10))) (fun _ _ h => h.2.2.2.1.2) hi hj (by decide) dJ6_getChars_ba4f3_67 k
theorem sJ6_getChars_ba4f3_102 {G : Gl} {κ : Kx} {d : Nat} {Q : Option Value → Hp → Prop} {X : String → Hp → Prop} {cs ss : Nat} {L : List (Option LV)} {st : List Value} {σ : Hp} {i : Int32} {j : Nat} (hΓ : Ok G κ mJ6_getChars_ba4f3 d Q X) (hi : i = nI j) (hj : j < 100) (k : AW G κ cs ss 103 L (.int (nI (48 + j / 10)) :: st) (σ)) : AW G κ cs ss 102 L (.int i :: .ref (gE G 0) :: st) (σ) := aw_tb hΓ (f := fun j => .int (nI (48 + j / 10))) (fun _ _ h => h.2.2.2.1.2) hi hj (by decide) dJ6_getChars_ba4f3_102 k
section Builder
variable {G : Gl} {κ : Kx} {d : Nat} {Q : Option Value → Hp → Prop} {X : String → Hp → Prop} {cs ss : Nat} {σ σ0 : Hp} {b v n m : Nat} {ml : Int32} {a : Nat → Int32} {t : Nat → Nat}
abbrev bV (v : Nat) (ml : Int32) (n : Nat) : List Value := [.ref v, .int 0, .int ml, .int (nI n)]
def SBv (G : Gl) (σ0 σ : Hp) (b : Nat) (t : Nat → Nat) (n v m : Nat) (a : Nat → Int32) (ml : Int32) : Prop :=
  ((∀ y e, σ0 y = some e → σ y = some e) ∧ σ0 b = none ∧ σ0 v = none) ∧ σ b = some (.inr (1, bV v ml n)) ∧ σ v = some (eB G m a) ∧ (n ≤ m ∧ m ≤ 640) ∧ sb_Lat t n a ∧ sb_Fit a
theorem sjo_ne {σ : Hp} {x y i : Nat} {fs : List Value} {e : Nat × vp_A} (h1 : σ x = some (.inr (i, fs))) (h2 : σ y = some (.inl e)) : x ≠ y := fun e9 => by
  rw [e9, h2] at h1
  cases h1
theorem SBv.ne (h : SBv G σ0 σ b t n v m a ml) : b ≠ v := sjo_ne h.2.1 h.2.2.1
theorem sj_latin (hΓ : Ok G κ mJ5_isLatin1_aae02 (d + 0) Q X) {vs : List Value} (hb : σ b = some (.inr (1, vs))) (hv : vs[1]? = some (.int 0)) (hq : Q (some (.int 1)) σ) : AW G κ cs ss 0 [lR b] [] σ := by
  refine sJ5_isLatin1_aae02_0 hΓ ?_
  refine sJ5_isLatin1_aae02_3 hΓ (fun c => absurd c (by decide)) (fun _ => ?_)
  refine sJ5_isLatin1_aae02_6 hΓ rfl ?_
  refine sJ5_isLatin1_aae02_7 hΓ hb hv ?_
  refine sJ5_isLatin1_aae02_10 hΓ (fun c => absurd rfl c) (fun _ => ?_)
  refine sJ5_isLatin1_aae02_13 hΓ ?_
  refine sJ5_isLatin1_aae02_14 hΓ ?_
  exact sJ5_isLatin1_aae02_18 hΓ (Or.inr rfl) hq
theorem sj_newLength (hΓ : Ok G κ mJ8_newLength_cabcc (d + 1) Q X) {i j k : Nat} (hi : i ≤ 1000) (hj : j ≤ 1000) (hk : k ≤ 2000) (h0 : 0 < j) (hq : Q (some (.int (nI (i + if j < k then k else j)))) σ) : AW G κ cs ss 0 [lI (nI i), lI (nI j), lI (nI k), none] [] σ := by
  have hm : (if j < k then k else j) ≤ 2000 ∧ 0 < (if j < k then k else j) := by split <;> omega
  have e1 : nI i + (if nI j < nI k then nI k else nI j) = nI (i + if j < k then k else j) := by
    by_cases h : j < k
    · rw [if_pos h, if_pos (nI_lt h (by omega))]; exact nI_add _ _
    · rw [if_neg h, if_neg (nI_nlt (by omega) (by omega))]; exact nI_add _ _
  refine sJ8_newLength_cabcc_0 hΓ rfl ?_
  refine sJ8_newLength_cabcc_1 hΓ rfl ?_
  refine sJ8_newLength_cabcc_2 hΓ rfl ?_
  refine sJ8_newLength_cabcc_3 hΓ (Nat.le_of_ble_eq_true rfl) ?_
  refine sJ8_newLength_cabcc_6 hΓ ?_
  rw [e1]
  refine sJ8_newLength_cabcc_7 hΓ ?_
  refine sJ8_newLength_cabcc_8 hΓ ?_
  refine sJ8_newLength_cabcc_9 hΓ rfl ?_
  refine sJ8_newLength_cabcc_10 hΓ (fun c => absurd c (nI_nle (by omega) (by omega))) (fun _ => ?_)
  refine sJ8_newLength_cabcc_13 hΓ rfl ?_
  refine sJ8_newLength_cabcc_14 hΓ ?_
  refine sJ8_newLength_cabcc_16 hΓ (fun c => absurd c (show ¬ nI 2147483639 < nI _ from nI_nlt (by omega) (by decide))) (fun _ => ?_)
  refine sJ8_newLength_cabcc_19 hΓ rfl ?_
  exact sJ8_newLength_cabcc_20 hΓ hq
/-- the capacity behind the making of room for q letters -/
def sjc (q m : Nat) : Nat := m + if q - m < m + 2 then m + 2 else q - m
theorem sjc_b {q m : Nat} (h : m < q) (hq : q ≤ 300) : q ≤ sjc q m ∧ m < sjc q m ∧ sjc q m ≤ 640 := by
  unfold sjc
  split <;> omega
theorem sj_newCapacity (hΓ : Ok G κ mJ5_newCapacity_0f7a4 (d + 2) Q X) {q : Nat} (hb : σ b = some (.inr (1, bV v ml n))) (hv : σ v = some (eB G m a)) (h : m < q) (hq9 : q ≤ 300) (hq : Q (some (.int (nI (sjc q m)))) σ) : AW G κ cs ss 0 [lR b, lI (nI q), none, none, none, none] [] σ := by
  obtain ⟨b1, b2, b3⟩ := sjc_b h hq9
  refine sJ5_newCapacity_0f7a4_0 hΓ rfl ?_
  refine sJ5_newCapacity_0f7a4_1 hΓ hb rfl ?_
  refine sJ5_newCapacity_0f7a4_4b hΓ hv ?_
  refine sJ5_newCapacity_0f7a4_5 hΓ ?_
  refine sJ5_newCapacity_0f7a4_6 hΓ rfl ?_
  refine sJ5_newCapacity_0f7a4_7 hΓ rfl ?_
  refine sJ5_newCapacity_0f7a4_8 hΓ hb rfl ?_
  refine sJ5_newCapacity_0f7a4_11 hΓ ?_
  rw [sb_shl0]
  refine sJ5_newCapacity_0f7a4_12 hΓ ?_
  refine sJ5_newCapacity_0f7a4_13 hΓ rfl ?_
  refine sJ5_newCapacity_0f7a4_14 hΓ rfl ?_
  refine sJ5_newCapacity_0f7a4_15 hΓ ?_
  rw [pk_sub (Nat.le_of_lt h)]
  refine sJ5_newCapacity_0f7a4_16 hΓ ?_
  refine sJ5_newCapacity_0f7a4_18 hΓ rfl ?_
  refine sJ5_newCapacity_0f7a4_19 hΓ rfl ?_
  refine sJ5_newCapacity_0f7a4_21 hΓ rfl ?_
  refine sJ5_newCapacity_0f7a4_22 hΓ ?_
  refine sJ5_newCapacity_0f7a4_23 hΓ rfl ?_
  refine sJ5_newCapacity_0f7a4_24 hΓ hb rfl ?_
  refine sJ5_newCapacity_0f7a4_27 hΓ ?_
  rw [sb_shl0]
  refine sJ5_newCapacity_0f7a4_28 hΓ ?_
  rw [show nI m + (2 : Int32) = nI (m + 2) from nI_add m 2]
  refine sJ5_newCapacity_0f7a4_29 hΓ 0 0 (Nat.le_of_ble_eq_true rfl) (fun κ2 h2 => sj_newLength (d := d) h2 (by omega) (by omega) (by omega) (by omega) ?_)
  show AW G κ _ _ 32 _ _ _
  refine sJ5_newCapacity_0f7a4_32 hΓ ?_
  refine sJ5_newCapacity_0f7a4_34 hΓ rfl ?_
  refine sJ5_newCapacity_0f7a4_36 hΓ ?_
  refine sJ5_newCapacity_0f7a4_38 hΓ (fun _ => ?_) (fun c => absurd ((nI_eq (a := sjc q m) (b := 2147483647) (by omega) (by decide)).mp c) (by omega))
  refine sJ5_newCapacity_0f7a4_51 hΓ rfl ?_
  refine sJ5_newCapacity_0f7a4_53 hΓ rfl ?_
  refine sJ5_newCapacity_0f7a4_54 hΓ hb rfl ?_
  refine sJ5_newCapacity_0f7a4_57 hΓ ?_
  rw [sb_shr0]
  exact sJ5_newCapacity_0f7a4_58 hΓ hq
theorem sj_copyOf (hΓ : Ok G κ mJ7_copyOf_9075b (d + 1) Q X) {q : Nat} (hv : σ v = some (eB G m a)) (hf : sb_Fit a) (h : m < q) (hq9 : q ≤ 1000) (hq : ∀ r : Nat, σ r = none → gB G ≤ r → Q (some (.ref r)) (hset σ r (eB G q (va_cpy a (fun _ => 0) 0 0 m)))) : AW G κ (cs + 1) (ss + q) 0 [lR v, lI (nI q), none] [] σ := by
  refine sJ7_copyOf_9075b_0 hΓ rfl ?_
  refine sJ7_copyOf_9075b_1 hΓ rfl ?_
  refine sJ7_copyOf_9075b_2b hΓ hv ?_
  refine sJ7_copyOf_9075b_3 hΓ (fun _ => ?_) (fun c => absurd ((nI_eq (by omega) (by omega)).mp c) (by omega))
  refine sJ7_copyOf_9075b_14 hΓ rfl ?_
  refine sJ7_copyOf_9075b_15 hΓ rfl (by omega) (fun r hr hr9 => ?_)
  have hne : v ≠ r := fun e => by rw [e, hr] at hv; cases hv
  refine sJ7_copyOf_9075b_17 hΓ ?_
  refine sJ7_copyOf_9075b_18 hΓ rfl ?_
  refine sJ7_copyOf_9075b_19 hΓ ?_
  refine sJ7_copyOf_9075b_20 hΓ rfl ?_
  refine sJ7_copyOf_9075b_21 hΓ ?_
  refine sJ7_copyOf_9075b_22 hΓ rfl ?_
  refine sJ7_copyOf_9075b_23b hΓ ((hset_ne hne).trans hv) ?_
  refine sJ7_copyOf_9075b_24 hΓ rfl ?_
  refine sJ7_copyOf_9075b_25 hΓ (Nat.le_of_ble_eq_true rfl) ?_
  refine sJ7_copyOf_9075b_28 hΓ (i := 0) (j := 0) (n := m) (Nat.le_of_ble_eq_true rfl) ((hset_ne hne).trans hv) (hset_same _ _ _) rfl rfl (if_neg (nI_nlt (by omega) (by omega))) (by omega) (by omega) (by omega) (by omega) (fun k _ => hf _) ?_
  rw [hset_hset]
  refine sJ7_copyOf_9075b_31 hΓ rfl ?_
  exact sJ7_copyOf_9075b_32 hΓ (hq r hr hr9)
theorem sb_keepU {f : Nat → Int32} {q k : Nat} (hf : sb_Fit f) : sb_Fit (va_cpy f (fun _ => 0) 0 0 k) := sb_fitC hf sb_fit0
theorem SBv.grown (h : SBv G σ0 σ b t n v m a ml) {r q : Nat} (hr : σ r = none) (h1 : m ≤ q) (h2 : q ≤ 640) : SBv G σ0 (hset (hset σ r (eB G q (va_cpy a (fun _ => 0) 0 0 m))) b (.inr (1, bV r ml n))) b t n r q (va_cpy a (fun _ => 0) 0 0 m) ml := by
  obtain ⟨⟨a1, a2, a3⟩, a4, a5, ⟨a6, a7⟩, a8, a9⟩ := h
  have hb : b ≠ r := fun e => by rw [e, hr] at a4; cases a4
  refine ⟨⟨fun y e hy => ?_, a2, ?_⟩, hset_same _ _ _, (hset_ne (Ne.symm hb)).trans (hset_same _ _ _), ⟨by omega, h2⟩, sb_latKeep a8 (fun j hj => sb_cpy0 (by omega)), sb_fitC a9 sb_fit0⟩
  · have y1 : y ≠ b := fun e9 => by rw [e9, a2] at hy; cases hy
    have y2 : y ≠ r := fun e9 => by have := a1 y e hy; rw [e9, hr] at this; cases this
    rw [hset_ne y1, hset_ne y2]
    exact a1 y e hy
  · cases h9 : σ0 r with
    | none => rfl
    | some e => rw [a1 r e h9] at hr; cases hr
/-- AbstractStringBuilder.ensureCapacityInternal -/
theorem sj_ensure (hΓ : Ok G κ mJ5_ensureCapacityInternal_d00df (d + 3) Q X) {q : Nat} (h : SBv G σ0 σ b t n v m a ml) (hq9 : q ≤ 300) (hq : ∀ (σ1 : Hp) (v1 m1 : Nat) (a1 : Nat → Int32), q ≤ m1 → SBv G σ0 σ1 b t n v1 m1 a1 ml → Q none σ1) : AW G κ (cs + 1) (ss + 640) 0 [lR b, lI (nI q), none] [] σ := by
  have hb := h.2.1
  have hv := h.2.2.1
  have hm := h.2.2.2.1.2
  refine sJ5_ensureCapacityInternal_d00df_0 hΓ rfl ?_
  refine sJ5_ensureCapacityInternal_d00df_1 hΓ hb rfl ?_
  refine sJ5_ensureCapacityInternal_d00df_4b hΓ hv ?_
  refine sJ5_ensureCapacityInternal_d00df_5 hΓ rfl ?_
  refine sJ5_ensureCapacityInternal_d00df_6 hΓ hb rfl ?_
  refine sJ5_ensureCapacityInternal_d00df_9 hΓ ?_
  rw [sb_shr0]
  refine sJ5_ensureCapacityInternal_d00df_10 hΓ ?_
  refine sJ5_ensureCapacityInternal_d00df_11 hΓ rfl ?_
  refine sJ5_ensureCapacityInternal_d00df_12 hΓ rfl ?_
  refine sJ5_ensureCapacityInternal_d00df_13 hΓ ?_
  by_cases c : q ≤ m
  · refine sJ5_ensureCapacityInternal_d00df_14 hΓ (fun _ => ?_) (fun c9 => absurd (by rw [Int32.le_iff_toInt_le, pk_sub_toInt (by omega) (by omega), Int32.toInt_zero]; omega) c9)
    exact sJ5_ensureCapacityInternal_d00df_38 hΓ (hq σ v m a c h)
  obtain ⟨b1, b2, b3⟩ := sjc_b (Nat.lt_of_not_le c) hq9
  refine sJ5_ensureCapacityInternal_d00df_14 hΓ (fun c9 => absurd c9 (by rw [pk_sub (by omega)]; exact nI_nle (by omega) (by omega))) (fun _ => ?_)
  refine sJ5_ensureCapacityInternal_d00df_17 hΓ rfl ?_
  refine sJ5_ensureCapacityInternal_d00df_18 hΓ rfl ?_
  refine sJ5_ensureCapacityInternal_d00df_19 hΓ hb rfl ?_
  refine sJ5_ensureCapacityInternal_d00df_22 hΓ rfl ?_
  refine sJ5_ensureCapacityInternal_d00df_23 hΓ rfl ?_
  refine sJ5_ensureCapacityInternal_d00df_24 hΓ 0 0 (Nat.le_of_ble_eq_true rfl) hb (fun κ2 h2 => sj_newCapacity (d := d) h2 hb hv (by omega) hq9 ?_)
  show AW G κ _ _ 27 _ _ _
  refine sJ5_ensureCapacityInternal_d00df_27 hΓ rfl ?_
  refine sJ5_ensureCapacityInternal_d00df_28 hΓ hb rfl ?_
  refine sJ5_ensureCapacityInternal_d00df_31 hΓ ?_
  rw [sb_shl0]
  refine aw_less (cs2 := cs + 1) (ss2 := ss + sjc q m) (by omega) (by omega) ?_
  refine sJ5_ensureCapacityInternal_d00df_32 hΓ 1 (sjc q m) (Nat.le_of_ble_eq_true rfl) (fun κ2 h2 => ?_)
  have k2 := sj_copyOf (cs := 0) (ss := 0) (d := d + 1) h2 hv h.2.2.2.2.2 b2 (by omega) (fun r hr hr9 => ?_)
  · rw [Nat.zero_add, Nat.zero_add] at k2
    exact k2
  show AW G κ _ _ 35 _ _ _
  have hbr : b ≠ r := fun e => by rw [e, hr] at hb; cases hb
  refine sJ5_ensureCapacityInternal_d00df_35 hΓ ((hset_ne hbr).trans hb) (Nat.le_of_ble_eq_true rfl) ?_
  exact sJ5_ensureCapacityInternal_d00df_38 hΓ (hq _ r (sjc q m) _ b1 (h.grown hr (by omega) b3))
theorem SBv.put1 (h : SBv G σ0 σ b t n v m a ml) {n2 : Nat} {t2 : Nat → Nat} {a2 : Nat → Int32} (h1 : n2 ≤ m) (h2 : sb_Lat t2 n2 a2) (h3 : sb_Fit a2) : SBv G σ0 (hset (hset σ b (.inr (1, bV v ml n2))) v (eB G m a2)) b t2 n2 v m a2 ml := by
  have hne := h.ne
  obtain ⟨⟨a1, a2, a3⟩, a4, a5, ⟨a6, a7⟩, a8, a9⟩ := h
  refine ⟨⟨fun y e hy => ?_, a2, a3⟩, (hset_ne hne).trans (hset_same _ _ _), hset_same _ _ _, ⟨h1, a7⟩, h2, h3⟩
  have y1 : y ≠ b := fun e9 => by rw [e9, a2] at hy; cases hy
  have y2 : y ≠ v := fun e9 => by rw [e9, a3] at hy; cases hy
  rw [hset_ne y2, hset_ne y1]
  exact a1 y e hy
theorem SBv.put2 (h : SBv G σ0 σ b t n v m a ml) {n2 : Nat} {t2 : Nat → Nat} {a2 : Nat → Int32} (h1 : n2 ≤ m) (h2 : sb_Lat t2 n2 a2) (h3 : sb_Fit a2) : SBv G σ0 (hset (hset σ v (eB G m a2)) b (.inr (1, bV v ml n2))) b t2 n2 v m a2 ml := by
  rw [hset_comm _ _ _ (Ne.symm h.ne)]
  exact h.put1 h1 h2 h3
theorem sj_canEnc (hΓ : Ok G κ mJ1_canEncode_fc78d (d + 0) Q X) {c : Nat} (hc : c < 128) (hq : Q (some (.int 1)) σ) : AW G κ cs ss 0 [lI (nI c)] [] σ := by
  refine sJ1_canEncode_fc78d_0 hΓ rfl ?_
  refine sJ1_canEncode_fc78d_1 hΓ ?_
  refine sJ1_canEncode_fc78d_4 hΓ (fun c9 => absurd c9 (show ¬ nI 255 < nI c from nI_nlt (by omega) (by omega))) (fun _ => ?_)
  refine sJ1_canEncode_fc78d_7 hΓ ?_
  refine sJ1_canEncode_fc78d_8 hΓ ?_
  exact sJ1_canEncode_fc78d_12 hΓ (Or.inr rfl) hq
/-- AbstractStringBuilder.append(char) -/
theorem sj_appC (hΓ : Ok G κ mJ5_append_3fe6f (d + 4) Q X) (h : SBv G σ0 σ b t n v m a ml) {c : Nat} (hc : c < 128) (hn9 : n + 1 ≤ 300) (hq : ∀ (σ1 : Hp) (v1 m1 : Nat) (a1 : Nat → Int32), SBv G σ0 σ1 b (sb_cat t n (fun _ => c)) (n + 1) v1 m1 a1 ml → Q (some (.ref b)) σ1) : AW G κ (cs + 1) (ss + 640) 0 [lR b, lI (nI c)] [] σ := by
  refine sJ5_append_3fe6f_0 hΓ rfl ?_
  refine sJ5_append_3fe6f_1 hΓ rfl ?_
  refine sJ5_append_3fe6f_2 hΓ h.2.1 rfl ?_
  refine sJ5_append_3fe6f_5 hΓ ?_
  refine sJ5_append_3fe6f_6 hΓ ?_
  rw [nI_1]
  refine sJ5_append_3fe6f_7 hΓ 1 640 (Nat.le_of_ble_eq_true rfl) h.2.1 (fun κ2 h2 => sj_ensure (d := d) h2 h hn9 (fun σ1 v1 m1 a1 hm h1 => ?_))
  show AW G κ _ _ 10 _ _ _
  refine sJ5_append_3fe6f_10 hΓ rfl ?_
  refine sJ5_append_3fe6f_11 hΓ 0 0 (Nat.le_of_ble_eq_true rfl) h1.2.1 (fun κ2 h2 => sj_latin (d := d + 3) h2 h1.2.1 rfl ?_)
  show AW G κ _ _ 14 _ _ _
  refine sJ5_append_3fe6f_14 hΓ (fun c9 => absurd c9 (by decide)) (fun _ => ?_)
  refine sJ5_append_3fe6f_17 hΓ rfl ?_
  refine sJ5_append_3fe6f_18 hΓ 0 0 (Nat.le_of_ble_eq_true rfl) (fun κ2 h2 => sj_canEnc (d := d + 3) h2 hc ?_)
  show AW G κ _ _ 21 _ _ _
  refine sJ5_append_3fe6f_21 hΓ (fun c9 => absurd c9 (by decide)) (fun _ => ?_)
  refine sJ5_append_3fe6f_24 hΓ rfl ?_
  refine sJ5_append_3fe6f_25 hΓ h1.2.1 rfl ?_
  refine sJ5_append_3fe6f_28 hΓ rfl ?_
  refine sJ5_append_3fe6f_29 hΓ ?_
  refine sJ5_append_3fe6f_30 hΓ h1.2.1 rfl ?_
  refine sJ5_append_3fe6f_33 hΓ ?_
  refine sJ5_append_3fe6f_34 hΓ ?_
  refine sJ5_append_3fe6f_35 hΓ ?_
  rw [nI_1]
  refine sJ5_append_3fe6f_36 hΓ h1.2.1 (Nat.le_of_ble_eq_true rfl) ?_
  refine sJ5_append_3fe6f_39 hΓ rfl ?_
  refine sJ5_append_3fe6f_40 hΓ rfl ?_
  refine sJ5_append_3fe6f_41h hΓ ((hset_ne (Ne.symm h1.ne)).trans h1.2.2.1) rfl (by omega) (by have := h1.2.2.2.1.2; omega) (pk_vb _) ?_
  refine sJ5_append_3fe6f_42 hΓ ?_
  refine sJ5_append_3fe6f_75 hΓ rfl ?_
  refine sJ5_append_3fe6f_76 hΓ (hq _ v1 m1 _ (h1.put1 (n2 := n + 1) (t2 := sb_cat t n (fun _ => c)) (by omega) (sb_latPut (w := 1) h1.2.2.2.2.1 (fun j hj => pk_un (by omega)) (fun i hi => ?_)) (sb_fitU h1.2.2.2.2.2 (sb_fitB c))))
  obtain rfl : i = 0 := by omega
  exact ⟨by omega, pk_us⟩
/-- how many digits, and which -/
def dgN (k : Nat) : Nat := if k < 10 then 1 else if k < 100 then 2 else 3
def dgC (k i : Nat) : Nat := if k < 10 then 48 + k else if k < 100 then (if i = 0 then 48 + k / 10 else 48 + k % 10) else if i = 0 then 48 + k / 100 else if i = 1 then 48 + k / 10 % 10 else 48 + k % 10
set_option maxRecDepth 100000 in
theorem dg_f : ∀ k : Fin 1000, (¬ nI k.1 < 0) ∧ (-10 < -(nI k.1) ↔ k.1 < 10) ∧ (-100 < -(nI k.1) ↔ k.1 < 100) ∧ (-1000 < -(nI k.1)) ∧ (-(nI k.1)) / 100 = -(nI (k.1 / 100)) ∧ -(nI (k.1 / 100)) * 100 - -(nI k.1) = nI (k.1 % 100) ∧ (-9 ≤ -(nI k.1) ↔ k.1 < 10) ∧ - -(nI k.1) = nI k.1 := by decide +kernel
theorem sj_size (hΓ : Ok G κ mJ6_stringSize_0f7a4 (d + 0) Q X) {k : Nat} (hk : k < 1000) (hq : Q (some (.int (nI (dgN k)))) σ) : AW G κ cs ss 0 [lI (nI k), none, none, none] [] σ := by
  obtain ⟨f1, f2, f3, f4, -⟩ := dg_f ⟨k, hk⟩
  refine sJ6_stringSize_0f7a4_0 hΓ ?_
  refine sJ6_stringSize_0f7a4_1 hΓ ?_
  refine sJ6_stringSize_0f7a4_2 hΓ rfl ?_
  refine sJ6_stringSize_0f7a4_3 hΓ (fun c9 => absurd c9 f1) (fun _ => ?_)
  refine sJ6_stringSize_0f7a4_6 hΓ ?_
  refine sJ6_stringSize_0f7a4_7 hΓ ?_
  refine sJ6_stringSize_0f7a4_8 hΓ rfl ?_
  refine sJ6_stringSize_0f7a4_9 hΓ ?_
  refine sJ6_stringSize_0f7a4_10 hΓ ?_
  refine sJ6_stringSize_0f7a4_11 hΓ ?_
  refine sJ6_stringSize_0f7a4_13 hΓ ?_
  refine sJ6_stringSize_0f7a4_14 hΓ ?_
  refine sJ6_stringSize_0f7a4_15 hΓ ?_
  refine sJ6_stringSize_0f7a4_16 hΓ rfl ?_
  refine sJ6_stringSize_0f7a4_17 hΓ ?_
  refine sJ6_stringSize_0f7a4_19 hΓ (fun c9 => absurd c9 (by decide)) (fun _ => ?_)
  refine sJ6_stringSize_0f7a4_22 hΓ rfl ?_
  refine sJ6_stringSize_0f7a4_23 hΓ rfl ?_
  by_cases c1 : k < 10
  · refine sJ6_stringSize_0f7a4_24 hΓ (fun c9 => absurd (f2.mpr c1) (Int32.not_lt.mpr c9)) (fun _ => ?_)
    refine sJ6_stringSize_0f7a4_27 hΓ rfl ?_
    refine sJ6_stringSize_0f7a4_28 hΓ rfl ?_
    refine sJ6_stringSize_0f7a4_29 hΓ ?_
    rw [dgN, if_pos c1] at hq
    exact sJ6_stringSize_0f7a4_30 hΓ hq
  refine sJ6_stringSize_0f7a4_24 hΓ (fun _ => ?_) (fun c9 => absurd (f2.mp (Int32.not_le.mp c9)) c1)
  refine sJ6_stringSize_0f7a4_31 hΓ ?_
  refine sJ6_stringSize_0f7a4_33 hΓ rfl ?_
  refine sJ6_stringSize_0f7a4_34 hΓ ?_
  refine sJ6_stringSize_0f7a4_35 hΓ ?_
  refine sJ6_stringSize_0f7a4_36 hΓ rfl ?_
  refine sJ6_stringSize_0f7a4_39 hΓ ?_
  refine sJ6_stringSize_0f7a4_16 hΓ rfl ?_
  refine sJ6_stringSize_0f7a4_17 hΓ ?_
  refine sJ6_stringSize_0f7a4_19 hΓ (fun c9 => absurd c9 (by decide)) (fun _ => ?_)
  refine sJ6_stringSize_0f7a4_22 hΓ rfl ?_
  refine sJ6_stringSize_0f7a4_23 hΓ rfl ?_
  by_cases c2 : k < 100
  · refine sJ6_stringSize_0f7a4_24 hΓ (fun c9 => absurd (f3.mpr c2) (Int32.not_lt.mpr c9)) (fun _ => ?_)
    refine sJ6_stringSize_0f7a4_27 hΓ rfl ?_
    refine sJ6_stringSize_0f7a4_28 hΓ rfl ?_
    refine sJ6_stringSize_0f7a4_29 hΓ ?_
    rw [dgN, if_neg c1, if_pos c2] at hq
    exact sJ6_stringSize_0f7a4_30 hΓ hq
  refine sJ6_stringSize_0f7a4_24 hΓ (fun _ => ?_) (fun c9 => absurd (f3.mp (Int32.not_le.mp c9)) c2)
  refine sJ6_stringSize_0f7a4_31 hΓ ?_
  refine sJ6_stringSize_0f7a4_33 hΓ rfl ?_
  refine sJ6_stringSize_0f7a4_34 hΓ ?_
  refine sJ6_stringSize_0f7a4_35 hΓ ?_
  refine sJ6_stringSize_0f7a4_36 hΓ rfl ?_
  refine sJ6_stringSize_0f7a4_39 hΓ ?_
  refine sJ6_stringSize_0f7a4_16 hΓ rfl ?_
  refine sJ6_stringSize_0f7a4_17 hΓ ?_
  refine sJ6_stringSize_0f7a4_19 hΓ (fun c9 => absurd c9 (by decide)) (fun _ => ?_)
  refine sJ6_stringSize_0f7a4_22 hΓ rfl ?_
  refine sJ6_stringSize_0f7a4_23 hΓ rfl ?_
  refine sJ6_stringSize_0f7a4_24 hΓ (fun c9 => absurd f4 (Int32.not_lt.mpr c9)) (fun _ => ?_)
  refine sJ6_stringSize_0f7a4_27 hΓ rfl ?_
  refine sJ6_stringSize_0f7a4_28 hΓ rfl ?_
  refine sJ6_stringSize_0f7a4_29 hΓ ?_
  rw [dgN, if_neg c1, if_neg c2] at hq
  exact sJ6_stringSize_0f7a4_30 hΓ hq
end Builder
