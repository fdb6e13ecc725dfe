/-! what stands at the law's start: the constants, the classes, the tables -/
abbrev nfl : List Cond := flatC (Jvm.Cond.and given_1 narrow_1)
def txTm (i : Nat) : Term := match i with
  | 0 => .string "TrainDecoder$Parser" 31
  | 1 => .string "TrainDecoder$Parser" 66
  | 2 => .string "TrainDecoder$Parser" 72
  | 3 => .string "TrainDecoder$Parser" 87
  | 4 => .string "TrainDecoderLaw" 206
  | 5 => .string "TrainDecoderLaw" 218
  | 6 => .string "TrainDecoderLaw" 223
  | 7 => .string "TrainDecoder" 357
  | 8 => .string "TrainDecoder" 348
  | 9 => .string "TrainDecoder" 353
  | 10 => .string "TrainDecoder" 365
  | 11 => .string "TrainDecoder" 370
  | 12 => .string "TrainDecoder" 363
  | 13 => .string "TrainDecoder" 377
  | 14 => .string "TrainDecoder" 375
  | 15 => .string "TrainDecoder" 305
  | 16 => .string "TrainDecoder" 310
  | _ => .string "TrainDecoder" 315
abbrev txV (i : Nat) : Term := .field (txTm i) "java/lang/String" "value" "[B"
theorem nf_tx : ∀ i, i < 18 → Cond.exactly (txTm i) "java/lang/String" ∈ nfl := by decide +kernel
theorem nf_co : ∀ i, i < 7 → Cond.eq (.field (txTm i) "java/lang/String" "coder" "B") (.int 0) ∈ nfl := by decide +kernel
theorem nf_ar : ∀ i, i < 7 → Cond.arrayOf (txV i) .byte ∈ nfl := by decide +kernel
theorem nf_le : ∀ i, i < 7 → Cond.eq (.length (txV i)) (.int (Int32.ofNat (txB i).length)) ∈ nfl := by decide +kernel
theorem nf_el : ∀ i, i < 7 → ∀ j, j < (txB i).length → Cond.eq (.elem (txV i) (.int (Int32.ofNat j))) (.int ((txB i).getD j 0)) ∈ nfl := by decide +kernel
theorem nf_len : ∀ i, i < 7 → (txB i).length < 2 ^ 31 := by decide +kernel
theorem nf_bd : ∀ q ∈ txRefs, q.2.2.2 < 18 := by decide +kernel
theorem nf_same : ∀ q ∈ txRefs, Term.string q.1 q.2.1 = txTm q.2.2.2 := by decide +kernel
theorem nf_ref : ∀ q ∈ txRefs, Cond.stringRef q.1 q.2.1 q.2.2.1 ∈ lw_tbl := by decide +kernel
abbrev dtT : Term := .static "java/lang/Integer" "DigitTens" "[B"
abbrev doT : Term := .static "java/lang/Integer" "DigitOnes" "[B"
theorem nf_da : Cond.arrayOf dtT .byte ∈ nfl ∧ Cond.eq (.length dtT) (.int (Int32.ofNat 100)) ∈ nfl := by decide +kernel
theorem nf_run {l : List Cond} {K N : Nat} {w : Nat → Cond} (h : (l.drop K).take N = (List.range N).map w) : ∀ j, j < N → w j ∈ l := fun j hj => by
  have h1 : w j ∈ (l.drop K).take N := by
    rw [h]
    exact List.mem_map.mpr ⟨j, List.mem_range.mpr hj, rfl⟩
  exact List.mem_of_mem_drop (List.mem_of_mem_take h1)
theorem nf_de : ∀ j, j < 100 → Cond.eq (.elem dtT (.int (Int32.ofNat j))) (.int (nI (48 + j / 10))) ∈ nfl := nf_run (K := 117) (w := fun j => Cond.eq (.elem dtT (.int (Int32.ofNat j))) (.int (nI (48 + j / 10)))) (by decide +kernel)
theorem nf_oa : Cond.arrayOf doT .byte ∈ nfl ∧ Cond.eq (.length doT) (.int (Int32.ofNat 100)) ∈ nfl := by decide +kernel
theorem nf_oe : ∀ j, j < 100 → Cond.eq (.elem doT (.int (Int32.ofNat j))) (.int (nI (48 + j % 10))) ∈ nfl := nf_run (K := 14) (w := fun j => Cond.eq (.elem doT (.int (Int32.ofNat j))) (.int (nI (48 + j % 10)))) (by decide +kernel)
theorem nf_st : Cond.isRef (.static Bundle.tN "UNASSIGNED_STACK" Bundle.steD) ∈ nfl ∧ Cond.isRef (.static Bundle.tN "SUPPRESSED_SENTINEL" Bundle.listD) ∈ nfl ∧ Cond.eq (.static "java/lang/String" "COMPACT_STRINGS" "Z") (.int 1) ∈ nfl ∧ Cond.isRef (.static "jdk/internal/util/Preconditions" "SIOOBE_FORMATTER" "Ljava/util/function/BiFunction;") ∈ nfl := by decide +kernel
theorem q1136 : Cond.arrayClass (FieldType.boolean) ∈ lw_tbl := List.mem_of_getElem? (i := 1136) (by decide +kernel)
theorem q428 : Cond.arrayClass (FieldType.byte) ∈ lw_tbl := List.mem_of_getElem? (i := 428) (by decide +kernel)
theorem q98 : Cond.arrayClass (FieldType.int) ∈ lw_tbl := List.mem_of_getElem? (i := 98) (by decide +kernel)
theorem q144 : Cond.arrayOver (FieldType.object "TrainDecoder$Railway") ∈ lw_tbl := List.mem_of_getElem? (i := 144) (by decide +kernel)
theorem q73 : Cond.arrayOver (FieldType.object "TrainDecoder$Train") ∈ lw_tbl := List.mem_of_getElem? (i := 73) (by decide +kernel)
theorem q51 : Cond.initialized "java/lang/Throwable" ∈ lw_tbl := List.mem_of_getElem? (i := 51) (by decide +kernel)
theorem q1296 : Cond.laysStatic "java/lang/Integer" "DigitOnes" "[B" ∈ lw_tbl := List.mem_of_getElem? (i := 1296) (by decide +kernel)
theorem q1298 : Cond.laysStatic "java/lang/Integer" "DigitTens" "[B" ∈ lw_tbl := List.mem_of_getElem? (i := 1298) (by decide +kernel)
theorem q482 : Cond.laysStatic "java/lang/String" "COMPACT_STRINGS" "Z" ∈ lw_tbl := List.mem_of_getElem? (i := 482) (by decide +kernel)
theorem q390 : Cond.laysStatic "java/lang/Throwable" "SUPPRESSED_SENTINEL" "Ljava/util/List;" ∈ lw_tbl := List.mem_of_getElem? (i := 390) (by decide +kernel)
theorem q388 : Cond.laysStatic "java/lang/Throwable" "UNASSIGNED_STACK" "[Ljava/lang/StackTraceElement;" ∈ lw_tbl := List.mem_of_getElem? (i := 388) (by decide +kernel)
theorem q498 : Cond.laysStatic "jdk/internal/util/Preconditions" "SIOOBE_FORMATTER" "Ljava/util/function/BiFunction;" ∈ lw_tbl := List.mem_of_getElem? (i := 498) (by decide +kernel)
section StartFacts
variable {s : State} {args : Array Value} {A : Nat → Prop}
theorem st_txs (hs : ∀ c ∈ nfl, c.before args s = true) (hA : ∀ a : Nat, a < s.heap.size → ¬ A a) : ∃ K V : Nat → Nat, ∀ i : Nat, (i < 18 → (txTm i).eval args s none [] s = some (.ref (K i))) ∧ (i < 7 → va_O "java/lang/String" (K i) A s s.heap ∧ va_OF "java/lang/String" "coder" "B" (.int 0) (K i) A s s.heap ∧ va_OF "java/lang/String" "value" "[B" (.ref (V i)) (K i) A s s.heap ∧ va_T .byte (V i) (txB i).length (fun j => .int ((txB i).getD j 0)) A s s.heap) := by
  have h0 : ∀ i : Nat, ∃ q : Nat × Nat, (i < 18 → (txTm i).eval args s none [] s = some (.ref q.1)) ∧ (i < 7 → va_O "java/lang/String" q.1 A s s.heap ∧ va_OF "java/lang/String" "coder" "B" (.int 0) q.1 A s s.heap ∧ va_OF "java/lang/String" "value" "[B" (.ref q.2) q.1 A s s.heap ∧ va_T .byte q.2 (txB i).length (fun j => .int ((txB i).getD j 0)) A s s.heap) := by
    intro i
    by_cases hj : i < 18
    · obtain ⟨a, c, cA, kA, q1, q2, q3, q4, q5, q6, -⟩ := Cond.exactly_spec (args := args) (first := s) (o := none) (s := s) (idx := []) (t := txTm i) (cls := "java/lang/String") (hs _ (nf_tx i hj))
      by_cases hi : i < 7
      · obtain ⟨t, ht, hT⟩ := va_Tof (f := fun j => .int ((txB i).getD j 0)) (A := A) (nf_len i hi) (hs _ (nf_ar i hi)) (va_eqt (hs _ (nf_le i hi))) (fun j hj => va_eqt (hs _ (nf_el i hi j hj))) hA
        exact ⟨(a, t), fun _ => q1, fun _ => ⟨⟨cA, q3, q5, by rw [q6]; exact q2, hA a (Array.getElem?_eq_some_iff.mp q3).1⟩, vk_OFof q1 (va_eqt (hs _ (nf_co i hi))) hA, vk_OFof q1 ht hA, hT⟩⟩
      · exact ⟨(a, 0), fun _ => q1, fun h => absurd h hi⟩
    · exact ⟨(0, 0), fun h => absurd h hj, fun h => absurd h (by omega)⟩
  obtain ⟨ad, had⟩ := Classical.axiomOfChoice h0
  exact ⟨fun i => (ad i).1, fun i => (ad i).2, had⟩
theorem kn_of (hts : ∀ w ∈ lw_tbl, w.before args s = true) {ci n : Nat} {C : String} {T : u_T} {N : Nat} {ty : Nat → FieldType} (hC : ClsOk ci C T N ty) (hi : Cond.instantiable C n ∈ lw_tbl) : ∃ p : ClassId × (Nat → Nat), ∀ q : vw_C, vwCl[ci]? = some q → u_Kn s q.1 q.2.1 q.2.2 p.1 p.2 := by
  obtain ⟨cC, iS, h⟩ := u_known (ws := lw_tbl) hts (fun w hw => (hC.2.1 w hw).1) (hts _ hi)
  exact ⟨(cC, iS), fun q hq => by rw [hC.1] at hq; cases hq; exact h⟩
theorem st_kn (hts : ∀ w ∈ lw_tbl, w.before args s = true) (ci : Nat) : ∃ p : ClassId × (Nat → Nat), ∀ q : vw_C, vwCl[ci]? = some q → u_Kn s q.1 q.2.1 q.2.2 p.1 p.2 := by
  match ci with
  | 0 => exact kn_of hts ckJ0 q1312
  | 1 => exact kn_of hts ckJ4 q1138
  | 2 => exact kn_of hts ckX3 q138
  | 3 => exact kn_of hts ckX4 q155
  | 4 => exact kn_of hts ckX6 q75
  | 5 => exact kn_of hts ckX7 q170
  | 6 => exact kn_of hts ckX8 q67
  | 7 => exact kn_of hts ckX9 q216
  | 8 => exact kn_of hts ckX10 q176
  | 9 => exact kn_of hts ckX11 q251
  | 10 => exact kn_of hts ckX12 q59
  | k + 11 => exact ⟨(0, fun _ => 0), fun q hq => absurd (List.getElem?_eq_some_iff.mp hq).1 (by show ¬ k + 11 < 11; omega)⟩
theorem st_aI {ty : FieldType} (hb : ty = .int ∨ ty = .byte ∨ ty = .boolean) (h : (Cond.arrayClass ty).before args s = true) : ∃ c : ClassId, ArrOfT s c ty ∧ va_RA s c ty := by
  obtain ⟨c, k, comp, h1, h2, h3⟩ := Cond.arrayClass_spec h
  refine ⟨c, fun n z => ⟨fun k h => (by cases h), k, h2, comp, h3⟩, ?_⟩
  rcases hb with rfl | rfl | rfl
  · exact h1
  · exact h1
  · exact h1
theorem st_aR {C : String} (h : (Cond.arrayOver (.object C)).before args s = true) : ∃ c : ClassId, ArrOfT s c (.object C) ∧ va_RA s c (.object C) := by
  obtain ⟨comp, c, k, h1, h2, h3, h4, h5⟩ := Cond.arrayOver_spec h
  exact ⟨c, fun n z => ⟨fun k h => (by cases h), k, h3, comp, h4⟩, k, comp, h3, h4, h1, h5⟩
def mkC (c0 c1 c2 c3 c4 : ClassId) (i : Nat) : ClassId := match i with
  | 0 => c0
  | 1 => c1
  | 2 => c2
  | 3 => c3
  | _ => c4
def mkE (t0 t1 b n : Nat) (i : Nat) : Nat := match i with
  | 0 => t0
  | 1 => t1
  | 2 => b
  | _ => n
/-- what the builder's class selects, from the words of the tables -/
theorem st_sb (hts : ∀ w ∈ lw_tbl0, w.before args s = true) : ∀ w ∈ lw_tbl, w.before args s = true := by
  have hno : ∀ k kk, s.vm.findClass "java/lang/AbstractStringBuilder" = some k → s.vm.classes[k]? = some kk → kk.isInterface = false := fun k kk h1 h2 => by
    have hsel : (Cond.selects "java/lang/StringBuilder" ⟨"java/lang/AbstractStringBuilder", "isLatin1", "()Z"⟩ ⟨"java/lang/AbstractStringBuilder", "isLatin1", "()Z"⟩).before args s = true := hts _ (List.mem_of_getElem? (i := 1201) (by decide +kernel))
    obtain ⟨c2, r2, m2, q1, q2, q3, q4, kP, hkP, hkPi⟩ := Cond.selects_spec hsel
    have h3 := findClass_of_methodNamed q3
    cases Option.some.inj (h1.symm.trans h3)
    cases Option.some.inj (h2.symm.trans hkP)
    exact hkPi
  have hins : (Cond.instantiable "java/lang/StringBuilder" 4).before args s = true := hts _ (List.mem_of_getElem? (i := 1134) (by decide +kernel))
  intro w hw
  rcases List.mem_append.mp hw with h | h
  · rcases List.mem_cons.mp h with e | h
    · rw [e]; exact sel_priv ⟨by decide, by decide⟩ hins (hts _ (List.mem_of_getElem? (i := 1171) (by decide +kernel))) (hts _ (List.mem_of_getElem? (i := 1172) (by decide +kernel))) hno
    rcases List.mem_cons.mp h with e | h
    · rw [e]; exact sel_priv ⟨by decide, by decide⟩ hins (hts _ (List.mem_of_getElem? (i := 1175) (by decide +kernel))) (hts _ (List.mem_of_getElem? (i := 1176) (by decide +kernel))) hno
    rcases List.mem_cons.mp h with e | h
    · rw [e]; exact sel_priv ⟨by decide, by decide⟩ hins (hts _ (List.mem_of_getElem? (i := 1220) (by decide +kernel))) (hts _ (List.mem_of_getElem? (i := 1221) (by decide +kernel))) hno
    rcases List.mem_cons.mp h with e | h
    · rw [e]; exact sel_priv ⟨by decide, by decide⟩ hins (hts _ (List.mem_of_getElem? (i := 1224) (by decide +kernel))) (hts _ (List.mem_of_getElem? (i := 1225) (by decide +kernel))) hno
    · cases h
  · exact hts w h
theorem st_G (hts : ∀ w ∈ lw_tbl, w.before args s = true) (hs : ∀ c ∈ nfl, c.before args s = true) {b L : Nat} {xs : Nat → Int32} (hX : va_X b L xs s s.heap) (hbl : b < s.heap.size) : ∃ G : Gl, gB G = s.heap.size ∧ GI G s ∧ gE G 2 = b ∧ gE G 3 = L := by
  have hA : ∀ a : Nat, a < s.heap.size → ¬ (fun q : Nat => s.heap.size ≤ q) a := fun a h h2 => absurd h (Nat.not_lt.mpr h2)
  obtain ⟨K, V, hKV⟩ := st_txs hs hA
  obtain ⟨tT, hTe, hTT⟩ := va_Tof (tm := dtT) (ty := .byte) (N := 100) (f := fun j => .int (nI (48 + j / 10))) (A := fun q : Nat => s.heap.size ≤ q) (by decide) (hs _ nf_da.1) (va_eqt (hs _ nf_da.2)) (fun j hj => va_eqt (hs _ (nf_de j hj))) hA
  obtain ⟨tO, hOe, hOT⟩ := va_Tof (tm := doT) (ty := .byte) (N := 100) (f := fun j => .int (nI (48 + j % 10))) (A := fun q : Nat => s.heap.size ≤ q) (by decide) (hs _ nf_oa.1) (va_eqt (hs _ nf_oa.2)) (fun j hj => va_eqt (hs _ (nf_oe j hj))) hA
  obtain ⟨D, hD⟩ := Classical.axiomOfChoice (fun ci : Nat => st_kn hts ci)
  obtain ⟨c0, a0⟩ := st_aI (Or.inl rfl) (hts _ q98)
  obtain ⟨c1, a1⟩ := st_aR (hts _ q144)
  obtain ⟨c2, a2⟩ := st_aR (hts _ q73)
  obtain ⟨c3, a3⟩ := st_aI (Or.inr (Or.inl rfl)) (hts _ q428)
  obtain ⟨c4, a4⟩ := st_aI (Or.inr (Or.inr rfl)) (hts _ q1136)
  have hev2 : ∀ q ∈ txRefs, (Term.string q.1 q.2.1).eval args s none [] s = some (.ref (K q.2.2.2)) := fun q hq => by
    rw [nf_same q hq]; exact (hKV _).1 (nf_bd q hq)
  have hSc : va_T .int b L (fun j => .int (xs j)) (fun q : Nat => s.heap.size ≤ q) s s.heap := by
    obtain ⟨scr, h1, h2, h3, h4, h5⟩ := hX
    refine ⟨scr, h1, h2, h3, Nat.le_of_eq h4.symm, by rw [h4], h5, fun h9 => ?_⟩
    have h10 : s.heap.size ≤ b := h9
    omega
  refine ⟨(s.heap.size, (fun c => (D c).1, fun c => (D c).2), mkC c0 c1 c2 c3 c4, mkE tT tO b L, K, V, xs), rfl, ⟨⟨fun c q h => hD c q h, fun k q h => ?_⟩, fun w hw hn => va_Nw.of (nestW_on hn) (hts w hw), ⟨va_AO.of (hts _ q144), va_AO.of (hts _ q73)⟩, ?_⟩, rfl, rfl⟩
  · match k, h with
    | 0, h => cases h; exact a0
    | 1, h => cases h; exact a1
    | 2, h => cases h; exact a2
    | 3, h => cases h; exact a3
    | 4, h => cases h; exact a4
    | k + 5, h => exact absurd (List.getElem?_eq_some_iff.mp h).1 (by show ¬ k + 5 < 5; omega)
  · exact ⟨⟨vx_Zqof (hts _ q388) (hts _ q51) (hs _ nf_st.1) hA, vx_Zqof (hts _ q390) (hts _ q51) (hs _ nf_st.2.1) hA⟩, fun q hq => vk_R.of (hts _ (nf_ref q hq)) (hev2 q hq), fun i hi => (hKV i).2 hi, ⟨va_Zref (hts _ q1298) (hts _ q50) hTe hA, hTT⟩, ⟨va_Zref (hts _ q1296) (hts _ q50) hOe hA, hOT⟩, hSc, va_Zof (hts _ q482) (hts _ q42) (va_eqi (hs _ nf_st.2.2.1)) hA, va_Zqof (hts _ q498) (hts _ q48) (hs _ nf_st.2.2.2) hA⟩
end StartFacts
