/-! what stands at the law's start: the constants, the classes, the tables -/
abbrev nfl : List Cond := flatC (Jvm.Cond.and given_1 narrow_1)
/-- where each text stands first -/
def txTm (i : Nat) : Term := match i with
  | 0 => .string "TrainDecoder$Parser" 31
  | 1 => .string "TrainDecoder$Parser" 66
  | 2 => .string "TrainDecoder$Parser" 72
  | 3 => .string "TrainDecoder$Parser" 87
  | 4 => .string "TrainDecoderModel" 49
  | 5 => .string "TrainDecoderModel" 51
  | 6 => .string "TrainDecoderModel" 53
  | 7 => .string "TrainDecoderModel" 55
  | 8 => .string "TrainDecoderModel" 59
  | 9 => .string "TrainDecoderModel" 61
  | 10 => .string "TrainDecoderModel" 63
  | 11 => .string "TrainDecoder" 357
  | 12 => .string "TrainDecoder" 363
  | 13 => .string "TrainDecoder" 365
  | 14 => .string "TrainDecoder" 370
  | 15 => .string "TrainDecoder" 377
  | 16 => .string "TrainDecoder" 375
  | 17 => .string "TrainDecoder" 305
  | 18 => .string "TrainDecoder" 310
  | 19 => .string "TrainDecoder" 315
  | 20 => .string "TrainDecoder" 342
  | 21 => .string "TrainDecoder" 348
  | _ => .string "TrainDecoder" 353
abbrev txV (i : Nat) : Term := .field (txTm i) "java/lang/String" "value" "[B"
theorem nf_tx : ∀ i, i < 23 → Cond.exactly (txTm i) "java/lang/String" ∈ nfl := by decide +kernel
theorem nf_co : ∀ i, i < 11 → Cond.eq (.field (txTm i) "java/lang/String" "coder" "B") (.int 0) ∈ nfl := by decide +kernel
theorem nf_ar : ∀ i, i < 11 → Cond.arrayOf (txV i) .byte ∈ nfl := by decide +kernel
theorem nf_le : ∀ i, i < 11 → Cond.eq (.length (txV i)) (.int (Int32.ofNat (txB i).length)) ∈ nfl := by decide +kernel
theorem nf_el : ∀ i, i < 11 → ∀ j, j < (txB i).length → Cond.eq (.elem (txV i) (.int (Int32.ofNat j))) (.int ((txB i).getD j 0)) ∈ nfl := by decide +kernel
theorem nf_len : ∀ i, i < 11 → (txB i).length < 2 ^ 31 := by decide +kernel
theorem nf_bd : ∀ q ∈ txRefs, q.2.2.2 < 23 := by decide +kernel
theorem nf_same : ∀ q ∈ txRefs, Term.string q.1 q.2.1 = txTm q.2.2.2 ∨ Cond.eq (txTm q.2.2.2) (.string q.1 q.2.1) ∈ nfl := by decide +kernel
theorem nf_ref : ∀ q ∈ txRefs, Cond.stringRef q.1 q.2.1 q.2.2.1 ∈ lw_tbl := by decide +kernel
abbrev ckT (i : Nat) : Term := .static RCK (ckNames.getD i "") dCK
def ckE (i : Nat) : Nat := [67, 73, 76, 79, 82, 85, 88, 91].getD i 0
def ckQ (i : Nat) : String × Nat × String × Nat := (RCK, ckE i, ["packet", "speed", "lamp", "stop", "short", "mend", "wait", "repeat"].getD i "", kwT i)
theorem nf_ck : ∀ i, i < 8 → ckQ i ∈ txRefs := by decide +kernel
theorem nf_lays : ∀ i, i < ckNames.length → Cond.laysStatic RCK (ckNames.getD i "") dCK ∈ lw_tbl := by decide +kernel
theorem nf_ex : ∀ i, i < ckNames.length → Cond.exactly (ckT i) RCK ∈ nfl := by decide +kernel
theorem nf_int : ∀ q ∈ ckF, ∀ i, i < ckNames.length → Cond.eq (.field (ckT i) q.1 q.2.1 q.2.2.1) (.int (q.2.2.2.getD i 0)) ∈ nfl := by decide +kernel
theorem nf_ne : ∀ i, i < ckNames.length → ∀ j, j < ckNames.length → i = j ∨ Cond.not (.eq (ckT i) (ckT j)) ∈ nfl ∨ Cond.not (.eq (ckT j) (ckT i)) ∈ nfl := by decide +kernel
theorem nf_wd : ∀ i, i < 8 → Cond.eq (.field (ckT i) RCK "word" "Ljava/lang/String;") (.string RCK (ckE i)) ∈ nfl := by decide +kernel
abbrev kiT : Term := .static "TrainDecoder$Parser" "KINDS" "[LTrainDecoder$CommandKind;"
abbrev swT : Term := .static "TrainDecoder$1" "$SwitchMap$TrainDecoder$CommandKind" "[I"
theorem nf_ka : Cond.arrayOf kiT (.object RCK) ∈ nfl ∧ Cond.eq (.length kiT) (.int (Int32.ofNat 8)) ∈ nfl := by decide +kernel
theorem nf_ke : ∀ j, j < 8 → Cond.eq (.elem kiT (.int (Int32.ofNat j))) (ckT j) ∈ nfl := by decide +kernel
theorem nf_sa : Cond.arrayOf swT .int ∈ nfl ∧ Cond.eq (.length swT) (.int (Int32.ofNat 8)) ∈ nfl := by decide +kernel
theorem nf_se : ∀ j, j < 8 → Cond.eq (.elem swT (.int (Int32.ofNat j))) (.int (if j < 7 then nI (j + 1) else 0)) ∈ nfl := by decide +kernel
theorem nf_st : Cond.isRef (.static Bundle.tN "UNASSIGNED_STACK" Bundle.steD) ∈ nfl ∧ Cond.isRef (.static Bundle.tN "SUPPRESSED_SENTINEL" Bundle.listD) ∈ nfl ∧ Cond.eq (.static "java/lang/String" "COMPACT_STRINGS" "Z") (.int 1) ∈ nfl ∧ Cond.isRef (.static "jdk/internal/util/Preconditions" "SIOOBE_FORMATTER" "Ljava/util/function/BiFunction;") ∈ nfl := by decide +kernel
theorem nf_nc : Cond.not (.castable "java/lang/IllegalStateException" "java/lang/IllegalArgumentException") ∈ nfl ∧ Cond.not (.castable "java/lang/IllegalStateException" "java/lang/IndexOutOfBoundsException") ∈ nfl ∧ Cond.not (.castable "java/lang/IllegalArgumentException" "java/lang/IndexOutOfBoundsException") ∈ nfl := by decide +kernel
theorem q177 : Cond.arrayClass (FieldType.int) ∈ lw_tbl := List.mem_of_getElem? (i := 177) (by decide +kernel)
theorem q2084 : Cond.arrayClass (FieldType.long) ∈ lw_tbl := List.mem_of_getElem? (i := 2084) (by decide +kernel)
theorem q224 : Cond.arrayOver (FieldType.object "TrainDecoder$Railway") ∈ lw_tbl := List.mem_of_getElem? (i := 224) (by decide +kernel)
theorem q152 : Cond.arrayOver (FieldType.object "TrainDecoder$Train") ∈ lw_tbl := List.mem_of_getElem? (i := 152) (by decide +kernel)
theorem q1408 : Cond.arrayOver (FieldType.object "java/lang/String") ∈ lw_tbl := List.mem_of_getElem? (i := 1408) (by decide +kernel)
theorem q727 : Cond.castable "java/lang/IllegalArgumentException" "java/lang/IllegalArgumentException" ∈ lw_tbl := List.mem_of_getElem? (i := 727) (by decide +kernel)
theorem q1212 : Cond.castable "java/lang/IllegalStateException" "java/lang/IllegalStateException" ∈ lw_tbl := List.mem_of_getElem? (i := 1212) (by decide +kernel)
theorem q944 : Cond.castable "java/lang/IndexOutOfBoundsException" "java/lang/IndexOutOfBoundsException" ∈ lw_tbl := List.mem_of_getElem? (i := 944) (by decide +kernel)
theorem q136 : Cond.initialized "TrainDecoder$1" ∈ lw_tbl := List.mem_of_getElem? (i := 136) (by decide +kernel)
theorem q134 : Cond.initialized "TrainDecoder$CommandKind" ∈ lw_tbl := List.mem_of_getElem? (i := 134) (by decide +kernel)
theorem q119 : Cond.initialized "java/lang/Throwable" ∈ lw_tbl := List.mem_of_getElem? (i := 119) (by decide +kernel)
theorem q1360 : Cond.laysStatic "TrainDecoder$1" "$SwitchMap$TrainDecoder$CommandKind" "[I" ∈ lw_tbl := List.mem_of_getElem? (i := 1360) (by decide +kernel)
theorem q1310 : Cond.laysStatic "TrainDecoder$Parser" "KINDS" "[LTrainDecoder$CommandKind;" ∈ lw_tbl := List.mem_of_getElem? (i := 1310) (by decide +kernel)
theorem q844 : Cond.laysStatic "java/lang/String" "COMPACT_STRINGS" "Z" ∈ lw_tbl := List.mem_of_getElem? (i := 844) (by decide +kernel)
theorem q754 : Cond.laysStatic "java/lang/Throwable" "SUPPRESSED_SENTINEL" "Ljava/util/List;" ∈ lw_tbl := List.mem_of_getElem? (i := 754) (by decide +kernel)
theorem q752 : Cond.laysStatic "java/lang/Throwable" "UNASSIGNED_STACK" "[Ljava/lang/StackTraceElement;" ∈ lw_tbl := List.mem_of_getElem? (i := 752) (by decide +kernel)
theorem q860 : Cond.laysStatic "jdk/internal/util/Preconditions" "SIOOBE_FORMATTER" "Ljava/util/function/BiFunction;" ∈ lw_tbl := List.mem_of_getElem? (i := 860) (by decide +kernel)
section StartFacts
variable {s : State} {args : Array Value} {A : Nat → Prop}
theorem st_txs (hs : ∀ c ∈ nfl, c.before args s = true) (hA : ∀ a : Nat, a < s.heap.size → ¬ A a) : ∃ K V : Nat → Nat, ∀ i : Nat, (i < 23 → (txTm i).eval args s none [] s = some (.ref (K i))) ∧ (i < 11 → va_O "java/lang/String" (K i) A s s.heap ∧ va_OF "java/lang/String" "coder" "B" (.int 0) (K i) A s s.heap ∧ va_OF "java/lang/String" "value" "[B" (.ref (V i)) (K i) A s s.heap ∧ va_T .byte (V i) (txB i).length (fun j => .int ((txB i).getD j 0)) A s s.heap) := by
  have h0 : ∀ i : Nat, ∃ q : Nat × Nat, (i < 23 → (txTm i).eval args s none [] s = some (.ref q.1)) ∧ (i < 11 → va_O "java/lang/String" q.1 A s s.heap ∧ va_OF "java/lang/String" "coder" "B" (.int 0) q.1 A s s.heap ∧ va_OF "java/lang/String" "value" "[B" (.ref q.2) q.1 A s s.heap ∧ va_T .byte q.2 (txB i).length (fun j => .int ((txB i).getD j 0)) A s s.heap) := by
    intro i
    by_cases hj : i < 23
    · obtain ⟨a, c, cA, kA, q1, q2, q3, q4, q5, q6, -⟩ := Cond.exactly_spec (args := args) (first := s) (o := none) (s := s) (idx := []) (t := txTm i) (cls := "java/lang/String") (hs _ (nf_tx i hj))
      by_cases hi : i < 11
      · obtain ⟨t, ht, hT⟩ := va_Tof (f := fun j => .int ((txB i).getD j 0)) (A := A) (nf_len i hi) (hs _ (nf_ar i hi)) (va_eqt (hs _ (nf_le i hi))) (fun j hj => va_eqt (hs _ (nf_el i hi j hj))) hA
        exact ⟨(a, t), fun _ => q1, fun _ => ⟨⟨cA, q3, q5, by rw [q6]; exact q2, hA a (Array.getElem?_eq_some_iff.mp q3).1⟩, vk_OFof q1 (va_eqt (hs _ (nf_co i hi))) hA, vk_OFof q1 ht hA, hT⟩⟩
      · exact ⟨(a, 0), fun _ => q1, fun h => absurd h hi⟩
    · exact ⟨(0, 0), fun h => absurd h hj, fun h => absurd h (by omega)⟩
  obtain ⟨ad, had⟩ := Classical.axiomOfChoice h0
  exact ⟨fun i => (ad i).1, fun i => (ad i).2, had⟩
theorem kn_of (hts : ∀ w ∈ lw_tbl, w.before args s = true) {ci n : Nat} {C : String} {T : u_T} {N : Nat} {ty : Nat → FieldType} (hC : ClsOk ci C T N ty) (hi : Cond.instantiable C n ∈ lw_tbl) : ∃ p : ClassId × (Nat → Nat), ∀ q : vw_C, vwCl[ci]? = some q → u_Kn s q.1 q.2.1 q.2.2 p.1 p.2 := by
  obtain ⟨cC, iS, h⟩ := u_known (ws := lw_tbl) hts (fun w hw => (hC.2.1 w hw).1) (hts _ hi)
  exact ⟨(cC, iS), fun q hq => by rw [hC.1] at hq; cases hq; exact h⟩
theorem st_kn (hts : ∀ w ∈ lw_tbl, w.before args s = true) (ci : Nat) : ∃ p : ClassId × (Nat → Nat), ∀ q : vw_C, vwCl[ci]? = some q → u_Kn s q.1 q.2.1 q.2.2 p.1 p.2 := by
  match ci with
  | 0 => exact kn_of hts ckX1 q1314
  | 1 => exact kn_of hts ckX3 q218
  | 2 => exact kn_of hts ckX4 q235
  | 3 => exact kn_of hts ckX6 q154
  | 4 => exact kn_of hts ckX7 q250
  | 5 => exact kn_of hts ckX8 q146
  | 6 => exact kn_of hts ckX9 q299
  | 7 => exact kn_of hts ckX10 q256
  | 8 => exact kn_of hts ckX11 q336
  | 9 => exact kn_of hts ckX12 q138
  | 10 => exact kn_of hts ckX13 q1402
  | k + 11 => exact ⟨(0, fun _ => 0), fun q hq => absurd (List.getElem?_eq_some_iff.mp hq).1 (by show ¬ k + 11 < 11; omega)⟩
theorem st_aI {ty : FieldType} (hb : ty = .int ∨ ty = .long) (h : (Cond.arrayClass ty).before args s = true) : ∃ c : ClassId, ArrOfT s c ty ∧ va_RA s c ty := by
  obtain ⟨c, k, comp, h1, h2, h3⟩ := Cond.arrayClass_spec h
  refine ⟨c, fun n z => ⟨fun k h => (by cases h), k, h2, comp, h3⟩, ?_⟩
  rcases hb with rfl | rfl
  · exact h1
  · exact h1
theorem st_aR {C : String} (h : (Cond.arrayOver (.object C)).before args s = true) : ∃ c : ClassId, ArrOfT s c (.object C) ∧ va_RA s c (.object C) := by
  obtain ⟨comp, c, k, h1, h2, h3, h4, h5⟩ := Cond.arrayOver_spec h
  exact ⟨c, fun n z => ⟨fun k h => (by cases h), k, h3, comp, h4⟩, k, comp, h3, h4, h1, h5⟩
def mkC (c0 c1 c2 c3 c4 : ClassId) (i : Nat) : ClassId := match i with
  | 0 => c0
  | 1 => c1
  | 2 => c2
  | 3 => c3
  | _ => c4
def mkE (ad : Nat → Nat) (x y i : Nat) : Nat := if i = 100 then x else if i = 101 then y else ad i
theorem mkE_8 {ad : Nat → Nat} {x y i : Nat} (h : i < 8) : mkE ad x y i = ad i := by
  unfold mkE
  rw [if_neg (by omega), if_neg (by omega)]
theorem st_G (hts : ∀ w ∈ lw_tbl, w.before args s = true) (hs : ∀ c ∈ nfl, c.before args s = true) : ∃ G : Gl, gB G = s.heap.size ∧ GI G s := by
  have hA : ∀ a : Nat, a < s.heap.size → ¬ (fun q : Nat => s.heap.size ≤ q) a := fun a h h2 => absurd h (Nat.not_lt.mpr h2)
  obtain ⟨K, V, hKV⟩ := st_txs hs hA
  obtain ⟨ad, hE, hev⟩ := va_Enof2 (E := RCK) (d := dCK) (nm := ckNames) (F := ckF) (fun i hi => hts _ (nf_lays i hi)) (hts _ q134) (fun i hi => hs _ (nf_ex i hi)) (fun q hq i hi => hs _ (nf_int q hq i hi)) (fun i j hi hj hij => ((nf_ne i hi j hj).resolve_left hij).imp (hs _) (hs _)) hA
  obtain ⟨tK, hKe, hKT⟩ := va_Tof (tm := kiT) (ty := .object RCK) (N := 8) (f := fun j => .ref (ad j)) (A := fun q : Nat => s.heap.size ≤ q) (by decide) (hs _ nf_ka.1) (va_eqt (hs _ nf_ka.2)) (fun j hj => va_eqv (hs _ (nf_ke j hj)) (hev j hj)) hA
  obtain ⟨tS, hSe, hST⟩ := va_Tof (tm := swT) (ty := .int) (N := 8) (f := fun j => .int (if j < 7 then nI (j + 1) else 0)) (A := fun q : Nat => s.heap.size ≤ q) (by decide) (hs _ nf_sa.1) (va_eqt (hs _ nf_sa.2)) (fun j hj => va_eqt (hs _ (nf_se j hj))) hA
  obtain ⟨D, hD⟩ := Classical.axiomOfChoice (fun ci : Nat => st_kn hts ci)
  obtain ⟨c0, a0⟩ := st_aI (Or.inl rfl) (hts _ q177)
  obtain ⟨c1, a1⟩ := st_aR (hts _ q224)
  obtain ⟨c2, a2⟩ := st_aR (hts _ q152)
  obtain ⟨c3, a3⟩ := st_aR (hts _ q1408)
  obtain ⟨c4, a4⟩ := st_aI (Or.inr rfl) (hts _ q2084)
  have hev2 : ∀ q ∈ txRefs, (Term.string q.1 q.2.1).eval args s none [] s = some (.ref (K q.2.2.2)) := fun q hq => by
    rcases nf_same q hq with h | h
    · rw [h]; exact (hKV _).1 (nf_bd q hq)
    · exact va_eqR (hs _ h) ((hKV _).1 (nf_bd q hq))
  refine ⟨(s.heap.size, (fun c => (D c).1, fun c => (D c).2), mkC c0 c1 c2 c3 c4, mkE ad tK tS, K, V), rfl, ⟨fun c q h => hD c q h, fun k q h => ?_⟩, fun w hw hn => va_Nw.of (nestW_on hn) (hts w hw), ⟨va_AO.of (hts _ q224), va_AO.of (hts _ q152), va_AO.of (hts _ q1408)⟩, ?_⟩
  · match k, h with
    | 0, h => cases h; exact a0
    | 1, h => cases h; exact a1
    | 2, h => cases h; exact a2
    | 3, h => cases h; exact a3
    | 4, h => cases h; exact a4
    | k + 5, h => exact absurd (List.getElem?_eq_some_iff.mp h).1 (by show ¬ k + 5 < 5; omega)
  · have h8 : ckNames.length = 8 := rfl
    refine ⟨⟨vx_Zqof (hts _ q752) (hts _ q119) (hs _ nf_st.1) hA, vx_Zqof (hts _ q754) (hts _ q119) (hs _ nf_st.2.1) hA⟩, fun q hq => vk_R.of (hts _ (nf_ref q hq)) (hev2 q hq), fun i hi => (hKV i).2 hi, ⟨fun i hi => ?_, fun i j hi hj e => ?_⟩, fun i hi => ?_, ⟨va_Zref (hts _ q1310) (hts _ q114) hKe hA, ?_⟩, ⟨va_Zref (hts _ q1360) (hts _ q136) hSe hA, hST⟩, va_Zof (hts _ q844) (hts _ q124) (va_eqi (hs _ nf_st.2.2.1)) hA, va_Zqof (hts _ q860) (hts _ q126) (hs _ nf_st.2.2.2) hA⟩
    · have h9 := hE.1 i hi
      rw [← mkE_8 (ad := ad) (x := tK) (y := tS) (show i < 8 from hi)] at h9
      exact h9
    · have e : mkE ad tK tS i = mkE ad tK tS j := e
      rw [mkE_8 (show i < 8 from hi), mkE_8 (show j < 8 from hj)] at e
      exact hE.2 i j hi hj e
    · have h9 := vk_OFof (hev i hi) (va_eqv (hs _ (nf_wd i hi)) (hev2 _ (nf_ck i hi))) hA
      rw [← mkE_8 (ad := ad) (x := tK) (y := tS) hi] at h9
      exact h9
    · obtain ⟨cell, b1, b2, b3, b4, b5, b6, b7⟩ := hKT
      refine ⟨cell, b1, b2, b3, b4, b5, fun j hj => ?_, b7⟩
      have h9 := b6 j hj
      show cell.slots[j]? = some (Value.ref (mkE ad tK tS j))
      rw [mkE_8 hj]
      exact h9
theorem st_nc (hts : ∀ w ∈ lw_tbl, w.before args s = true) (hs : ∀ c ∈ nfl, c.before args s = true) : NcS s :=
  ⟨⟨va_Nc.of (hs _ nf_nc.1), va_Nc.of (hs _ nf_nc.2.1), va_Nc.of (hs _ nf_nc.2.2)⟩, Cond.castable_spec (hts _ q1212), Cond.castable_spec (hts _ q727), Cond.castable_spec (hts _ q944)⟩
end StartFacts
