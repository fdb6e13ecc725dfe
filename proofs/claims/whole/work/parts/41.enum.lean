/-! the enum's constants and tables, in the class's methods -/
theorem q1309 : Cond.fieldLink "TrainDecoder$Parser" (166) "TrainDecoder$Parser" "KINDS" "[LTrainDecoder$CommandKind;" ∈ lw_tbl := List.mem_of_getElem? (i := 1309) (by decide +kernel)
theorem sX7_kindOfWord_0 {G : Gl} {κ : Kx} {d : Nat} {Q : Option Value → Hp → Prop} {X : String → Hp → Prop} {cs ss : Nat} {L : List (Option LV)} {st : List Value} {σ : Hp}  (hΓ : Ok G κ mX7_kindOfWord d Q X) (k : AW G κ cs ss 3 L (.ref (gE G 100) :: st) (σ)) : AW G κ cs ss 0 L (st) (σ) := aw_gets hΓ (fun _ _ h => h.2.2.2.2.2.1.1) q1309 dX7_kindOfWord_0 k
theorem q1311 : Cond.fieldLink "TrainDecoder$Parser" (133) "TrainDecoder$CommandKind" "REPEAT" "LTrainDecoder$CommandKind;" ∈ lw_tbl := List.mem_of_getElem? (i := 1311) (by decide +kernel)
theorem sX7_takeCommand_24 {G : Gl} {κ : Kx} {d : Nat} {Q : Option Value → Hp → Prop} {X : String → Hp → Prop} {cs ss : Nat} {L : List (Option LV)} {st : List Value} {σ : Hp}  (hΓ : Ok G κ mX7_takeCommand d Q X) (k : AW G κ cs ss 27 L (.ref (gE G 7) :: st) (σ)) : AW G κ cs ss 24 L (st) (σ) := aw_gets hΓ (fun _ _ h => (h.2.2.2.1.1 7 (by decide)).1) q1311 dX7_takeCommand_24 k
theorem q1353 : Cond.fieldLink "TrainDecoder$ScriptRunner" (29) "TrainDecoder$CommandKind" "REPEAT" "LTrainDecoder$CommandKind;" ∈ lw_tbl := List.mem_of_getElem? (i := 1353) (by decide +kernel)
theorem sX9_runCommand_4 {G : Gl} {κ : Kx} {d : Nat} {Q : Option Value → Hp → Prop} {X : String → Hp → Prop} {cs ss : Nat} {L : List (Option LV)} {st : List Value} {σ : Hp}  (hΓ : Ok G κ mX9_runCommand d Q X) (k : AW G κ cs ss 7 L (.ref (gE G 7) :: st) (σ)) : AW G κ cs ss 4 L (st) (σ) := aw_gets hΓ (fun _ _ h => (h.2.2.2.1.1 7 (by decide)).1) q1353 dX9_runCommand_4 k
theorem q1359 : Cond.fieldLink "TrainDecoder$ScriptRunner" (54) "TrainDecoder$1" "$SwitchMap$TrainDecoder$CommandKind" "[I" ∈ lw_tbl := List.mem_of_getElem? (i := 1359) (by decide +kernel)
theorem sX9_execute_22 {G : Gl} {κ : Kx} {d : Nat} {Q : Option Value → Hp → Prop} {X : String → Hp → Prop} {cs ss : Nat} {L : List (Option LV)} {st : List Value} {σ : Hp}  (hΓ : Ok G κ mX9_execute d Q X) (k : AW G κ cs ss 25 L (.ref (gE G 101) :: st) (σ)) : AW G κ cs ss 22 L (st) (σ) := aw_gets hΓ (fun _ _ h => h.2.2.2.2.2.2.1.1) q1359 dX9_execute_22 k
theorem sX7_kindOfWord_5t {G : Gl} {κ : Kx} {d : Nat} {Q : Option Value → Hp → Prop} {X : String → Hp → Prop} {cs ss : Nat} {L : List (Option LV)} {st : List Value} {σ : Hp}  (hΓ : Ok G κ mX7_kindOfWord d Q X) (k : AW G κ cs ss 6 L (.int (nI 8) :: st) (σ)) : AW G κ cs ss 5 L (.ref (gE G 100) :: st) (σ) := aw_tlen hΓ (fun _ _ h => h.2.2.2.2.2.1.2) dX7_kindOfWord_5 k
theorem sX7_kindOfWord_16t {G : Gl} {κ : Kx} {d : Nat} {Q : Option Value → Hp → Prop} {X : String → Hp → Prop} {cs ss : Nat} {L : List (Option LV)} {st : List Value} {σ : Hp} {j : Nat} {i : Int32} (hΓ : Ok G κ mX7_kindOfWord d Q X) (hi : i = nI j) (hj : j < 8) (k : AW G κ cs ss 17 L (.ref (gE G j) :: st) (σ)) : AW G κ cs ss 16 L (.int i :: .ref (gE G 100) :: st) (σ) := aw_tq hΓ (f := fun j => .ref (gE G j)) (fun _ _ h => h.2.2.2.2.2.1.2) hi hj (by decide) dX7_kindOfWord_16 k
theorem q2088 : Cond.fieldLinkNest "TrainDecoder$Parser" (170) "TrainDecoder$CommandKind" "word" "Ljava/lang/String;" "TrainDecoder" ∈ lw_tbl := List.mem_of_getElem? (i := 2088) (by decide +kernel)
theorem sX7_kindOfWord_25 {G : Gl} {κ : Kx} {d : Nat} {Q : Option Value → Hp → Prop} {X : String → Hp → Prop} {cs ss : Nat} {L : List (Option LV)} {st : List Value} {σ : Hp} {j : Nat} (hΓ : Ok G κ mX7_kindOfWord d Q X) (hj : j < 8) (k : AW G κ cs ss 28 L (.ref (gK G (kwT j)) :: st) (σ)) : AW G κ cs ss 25 L (.ref (gE G j) :: st) (σ) := aw_getfCN hΓ (fun _ _ h => h.2.2.2.2.1 j hj) q2088 dX7_kindOfWord_25 k
theorem q2089 : Cond.fieldLinkNest "TrainDecoder$Parser" (142) "TrainDecoder$CommandKind" "leastFirst" "I" "TrainDecoder" ∈ lw_tbl := List.mem_of_getElem? (i := 2089) (by decide +kernel)
theorem sX7_takeCommand_99 {G : Gl} {κ : Kx} {d : Nat} {Q : Option Value → Hp → Prop} {X : String → Hp → Prop} {cs ss : Nat} {L : List (Option LV)} {st : List Value} {σ : Hp} {j : Nat} (hΓ : Ok G κ mX7_takeCommand d Q X) (hj : j < 8) (k : AW G κ cs ss 102 L (.int (([0, 0, 0, 0, 0, 0, 1, 2] : List Int32).getD j 0) :: st) (σ)) : AW G κ cs ss 99 L (.ref (gE G j) :: st) (σ) := aw_getfCN hΓ (fun _ _ h => (h.2.2.2.1.1 j hj).2.2 _ (List.mem_of_getElem? (i := 1) rfl)) q2089 dX7_takeCommand_99 k
theorem q2090 : Cond.fieldLinkNest "TrainDecoder$Parser" (145) "TrainDecoder$CommandKind" "mostFirst" "I" "TrainDecoder" ∈ lw_tbl := List.mem_of_getElem? (i := 2090) (by decide +kernel)
theorem sX7_takeCommand_103 {G : Gl} {κ : Kx} {d : Nat} {Q : Option Value → Hp → Prop} {X : String → Hp → Prop} {cs ss : Nat} {L : List (Option LV)} {st : List Value} {σ : Hp} {j : Nat} (hΓ : Ok G κ mX7_takeCommand d Q X) (hj : j < 8) (k : AW G κ cs ss 106 L (.int (([255, 127, 127, 127, 23, 23, 60, 5] : List Int32).getD j 0) :: st) (σ)) : AW G κ cs ss 103 L (.ref (gE G j) :: st) (σ) := aw_getfCN hΓ (fun _ _ h => (h.2.2.2.1.1 j hj).2.2 _ (List.mem_of_getElem? (i := 2) rfl)) q2090 dX7_takeCommand_103 k
theorem q2091 : Cond.fieldLinkNest "TrainDecoder$Parser" (151) "TrainDecoder$CommandKind" "mostSecond" "I" "TrainDecoder" ∈ lw_tbl := List.mem_of_getElem? (i := 2091) (by decide +kernel)
theorem sX7_takeCommand_113 {G : Gl} {κ : Kx} {d : Nat} {Q : Option Value → Hp → Prop} {X : String → Hp → Prop} {cs ss : Nat} {L : List (Option LV)} {st : List Value} {σ : Hp} {j : Nat} (hΓ : Ok G κ mX7_takeCommand d Q X) (hj : j < 8) (k : AW G κ cs ss 116 L (.int (([255, 28, 15, -1, -1, -1, -1, -1] : List Int32).getD j 0) :: st) (σ)) : AW G κ cs ss 113 L (.ref (gE G j) :: st) (σ) := aw_getfCN hΓ (fun _ _ h => (h.2.2.2.1.1 j hj).2.2 _ (List.mem_of_getElem? (i := 3) rfl)) q2091 dX7_takeCommand_113 k
theorem sX7_takeCommand_125 {G : Gl} {κ : Kx} {d : Nat} {Q : Option Value → Hp → Prop} {X : String → Hp → Prop} {cs ss : Nat} {L : List (Option LV)} {st : List Value} {σ : Hp} {j : Nat} (hΓ : Ok G κ mX7_takeCommand d Q X) (hj : j < 8) (k : AW G κ cs ss 128 L (.int (([255, 28, 15, -1, -1, -1, -1, -1] : List Int32).getD j 0) :: st) (σ)) : AW G κ cs ss 125 L (.ref (gE G j) :: st) (σ) := aw_getfCN hΓ (fun _ _ h => (h.2.2.2.1.1 j hj).2.2 _ (List.mem_of_getElem? (i := 3) rfl)) q2091 dX7_takeCommand_125 k
theorem q2092 : Cond.fieldLinkNest "TrainDecoder$Parser" (157) "TrainDecoder$CommandKind" "mostThird" "I" "TrainDecoder" ∈ lw_tbl := List.mem_of_getElem? (i := 2092) (by decide +kernel)
theorem sX7_takeCommand_135 {G : Gl} {κ : Kx} {d : Nat} {Q : Option Value → Hp → Prop} {X : String → Hp → Prop} {cs ss : Nat} {L : List (Option LV)} {st : List Value} {σ : Hp} {j : Nat} (hΓ : Ok G κ mX7_takeCommand d Q X) (hj : j < 8) (k : AW G κ cs ss 138 L (.int (([255, -1, -1, -1, -1, -1, -1, -1] : List Int32).getD j 0) :: st) (σ)) : AW G κ cs ss 135 L (.ref (gE G j) :: st) (σ) := aw_getfCN hΓ (fun _ _ h => (h.2.2.2.1.1 j hj).2.2 _ (List.mem_of_getElem? (i := 4) rfl)) q2092 dX7_takeCommand_135 k
theorem sX7_takeCommand_147 {G : Gl} {κ : Kx} {d : Nat} {Q : Option Value → Hp → Prop} {X : String → Hp → Prop} {cs ss : Nat} {L : List (Option LV)} {st : List Value} {σ : Hp} {j : Nat} (hΓ : Ok G κ mX7_takeCommand d Q X) (hj : j < 8) (k : AW G κ cs ss 150 L (.int (([255, -1, -1, -1, -1, -1, -1, -1] : List Int32).getD j 0) :: st) (σ)) : AW G κ cs ss 147 L (.ref (gE G j) :: st) (σ) := aw_getfCN hΓ (fun _ _ h => (h.2.2.2.1.1 j hj).2.2 _ (List.mem_of_getElem? (i := 4) rfl)) q2092 dX7_takeCommand_147 k
theorem sX9_execute_29t {G : Gl} {κ : Kx} {d : Nat} {Q : Option Value → Hp → Prop} {X : String → Hp → Prop} {cs ss : Nat} {L : List (Option LV)} {st : List Value} {σ : Hp} {j : Nat} {i : Int32} (hΓ : Ok G κ mX9_execute d Q X) (hi : i = nI j) (hj : j < 7) (k : AW G κ cs ss 30 L (.int (nI (j + 1)) :: st) (σ)) : AW G κ cs ss 29 L (.int i :: .ref (gE G 101) :: st) (σ) := aw_ti hΓ (f := fun j => .int (if j < 7 then nI (j + 1) else 0)) (fun _ _ h => h.2.2.2.2.2.2.1.2) hi (by omega) (by decide) dX9_execute_29 (show AW G κ cs ss 30 L ((.int (if j < 7 then nI (j + 1) else 0) : Value) :: st) σ by rw [if_pos hj]; exact k)
theorem q1361 : Cond.methodLink "TrainDecoder$ScriptRunner" (60) ⟨"TrainDecoder$CommandKind", "ordinal", "()I"⟩ ∈ lw_tbl := List.mem_of_getElem? (i := 1361) (by decide +kernel)
theorem q1362 : Cond.sameMethod "TrainDecoder$CommandKind" "java/lang/Enum" "ordinal" "()I" ∈ lw_tbl := List.mem_of_getElem? (i := 1362) (by decide +kernel)
theorem q1364 : Cond.selects "TrainDecoder$CommandKind" ⟨"TrainDecoder$CommandKind", "ordinal", "()I"⟩ ⟨"java/lang/Enum", "ordinal", "()I"⟩ ∈ lw_tbl := List.mem_of_getElem? (i := 1364) (by decide +kernel)
theorem q1365 : Cond.instanceMethod ⟨"java/lang/Enum", "ordinal", "()I"⟩ ∈ lw_tbl := List.mem_of_getElem? (i := 1365) (by decide +kernel)
theorem q2093 : Cond.fieldLink "java/lang/Enum" (7) "java/lang/Enum" "ordinal" "I" ∈ lw_tbl := List.mem_of_getElem? (i := 2093) (by decide +kernel)
theorem ord_lst {i : Nat} (h : i < 8) : ([0, 1, 2, 3, 4, 5, 6, 7] : List Int32).getD i 0 = nI i := by
  match i, h with
  | 0, _ | 1, _ | 2, _ | 3, _ | 4, _ | 5, _ | 6, _ | 7, _ => rfl
theorem ce_inj {G : Gl} {U : State} {H : Heap} (h : CI G U H) {i j : Nat} (hi : i < 8) (hj : j < 8) (e : gE G i = gE G j) : i = j := h.2.2.2.1.2 i j hi hj e
def oPc (G : Gl) (i : Nat) (H0 : Heap) : Array Value → State → Prop := fun a U => a = [Value.ref (gE G i)].toArray ∧ GI G U ∧ U.heap = H0
theorem met_ord (l : Launch) (G : Gl) (i : Nat) (hi : i < 8) (H0 : Heap) : Met l yJx29ce0_ordinal_8abf5 (mW mJx29ce0_ordinal_8abf5) (mRm 0 0 0) (oPc G i H0) (va_Qi (fun r (_ : Unit) => r = nI i) (fun _ t => t.heap = H0) (fun _ => False)) 0 0 (fun _ => False) := by
  refine Met.ofW (cc := cJx29ce0_ordinal_8abf5) (maxL := 1) (ret := some .int) (by decide) rfl ?_
  intro p e s m args below meth c s₁ B hml hv
  obtain ⟨rfl, hgi, hh0⟩ := hv
  have hx := B.exec
  have hb := B.bytes
  have hr := B.returns
  have hts := atoms_spec (ws := mW mJx29ce0_ordinal_8abf5) B.pre
  have hown : s.vm.findClass RJx29ce0 = some m.cls := findClass_of_methodNamed B.named
  have hlocks := B.notSynchronized
  have hS : va_S (fun _ => False) s.heap s.heap [] := va_S.rf
  have hS2 : va_S (gA G) s.heap s.heap [] := va_S.rf
  have hl := lv_entry ([.ref (gE G i)]) (n := 1) (Nat.le_of_ble_eq_true rfl)
  rw [lg_entry_eq]
  generalize (lg_sl ([.ref (gE G i)]) ++ List.replicate (1 - (lg_sl ([.ref (gE G i)])).length) Slot.unset).toArray = ls at hl ⊢
  have hl : lv_has ls 1 [(0, .ref (gE G i))] := hl
  refine lv_aload_n hx hb dJx29ce0_ordinal_8abf5_0 rfl (lv_at hl 0 rfl) ?_
  refine va_getE hx hb hgi.2.2.2.2.2.2.1 hi hS2 hown (q := ("java/lang/Enum", "ordinal", "I", [0, 1, 2, 3, 4, 5, 6, 7])) (List.mem_cons_self) (hts _ (List.mem_cons_of_mem _ (List.mem_filter.mpr ⟨q2093, rfl⟩))) (fun _ h => h) dJx29ce0_ordinal_8abf5_1 ?_
  exact W.iret hx hb hr (fun t ht hW => ⟨⟨_, (), rfl, ord_lst hi, ht.trans hh0⟩, hS.F ht⟩) hS.2.2 dJx29ce0_ordinal_8abf5_4
theorem sX9_execute_26 {G : Gl} {κ : Kx} {d : Nat} {Q : Option Value → Hp → Prop} {X : String → Hp → Prop} {cs ss : Nat} {L : List (Option LV)} {st : List Value} {σ : Hp} {i : Nat} (hΓ : Ok G κ mX9_execute (d + 1) Q X) (hst : (st.map fun v => v.category).sum ≤ 8) (hi : i < 8) (k : AW G κ cs ss 29 L (.int (nI i) :: st) σ) : AW G κ cs ss 26 L (.ref (gE G i) :: st) σ := by
  obtain ⟨p, l, e, R, s, m, args, below, meth, c, Z⟩ := κ
  intro H locs cells slots ls hH hc hs hL
  obtain ⟨cell, h1, h2, h3⟩ := va_recvE hΓ.ci.2.2.2.1 hi hH.2
  have hf : d + 1 ≤ R.frames := hΓ.2.1.2.1
  have hlo : 64 * (d + 1) ≤ R.locals := hΓ.2.1.2.2
  have hgood : GoodIn (lw_tbl.filter goodWord) (va_wsU "TrainDecoder$ScriptRunner" 60 "TrainDecoder$CommandKind" "java/lang/Enum" ⟨"TrainDecoder$CommandKind", "ordinal", "()I"⟩ yJx29ce0_ordinal_8abf5 (mW mJx29ce0_ordinal_8abf5)) := fun w hw => by
    have hin : w ∈ lw_tbl.filter goodWord := by
      have h5 : ∀ w ∈ ([.methodLink "TrainDecoder$ScriptRunner" 60 ⟨"TrainDecoder$CommandKind", "ordinal", "()I"⟩, .sameMethod "TrainDecoder$CommandKind" "java/lang/Enum" "ordinal" "()I", .selects "TrainDecoder$CommandKind" ⟨"TrainDecoder$CommandKind", "ordinal", "()I"⟩ yJx29ce0_ordinal_8abf5, .instanceMethod yJx29ce0_ordinal_8abf5, .initialized "java/lang/Enum", Cond.code yJx29ce0_ordinal_8abf5 cJx29ce0_ordinal_8abf5 1 (some .int)] : List Cond), w ∈ lw_tbl.filter goodWord := fun w h => by
        simp only [List.mem_cons, List.not_mem_nil, or_false] at h
        rcases h with h | h | h | h | h | h <;> subst h
        · exact List.mem_filter.mpr ⟨q1361, rfl⟩
        · exact List.mem_filter.mpr ⟨q1362, rfl⟩
        · exact List.mem_filter.mpr ⟨q1364, rfl⟩
        · exact List.mem_filter.mpr ⟨q1365, rfl⟩
        · exact List.mem_filter.mpr ⟨okJx29ce0_ordinal_8abf5.2.2.1, rfl⟩
        · exact List.mem_filter.mpr ⟨okJx29ce0_ordinal_8abf5.2.1, rfl⟩
      rcases List.mem_append.mp hw with h | h
      · exact h5 w (List.mem_append_left [Cond.code yJx29ce0_ordinal_8abf5 cJx29ce0_ordinal_8abf5 1 (some .int)] h)
      · rcases List.mem_cons.mp h with h | h
        · rw [h]; exact List.mem_filter.mpr ⟨okJx29ce0_ordinal_8abf5.2.1, rfl⟩
        · exact h
    exact ⟨hin, good_of_word (List.mem_filter.mp hin).2⟩
  refine va_calli (A1 := fun _ => False) (va_runU (n := 0) (As := []) (C := "TrainDecoder$CommandKind") (owner := "java/lang/Enum") hΓ.fix (met_ord l G i hi H)
    (va_cwU (x := ⟨"TrainDecoder$CommandKind", "ordinal", "()I"⟩) (index := 60) 0 (Ts := lw_tbl.filter goodWord) (fun w hw => hΓ.lays w hw) hgood rfl rfl rfl rfl ⟨by decide, by decide, by decide +kernel⟩ ⟨?_, ?_⟩) ⟨fun a U g mk h => ?_, ⟨cell, h1, h2, h3⟩, fun U hU hW => ⟨rfl, ((hΓ.pre hH []).2 U hU hW).2.1, hU⟩⟩ rfl rfl hL.1 rfl ?_ dX9_execute_26 ⟨by omega, by omega⟩) hH.2 (fun q _ h => h.elim) (fun q h => h.elim) (fun r u t H1 locs1 ht hvm hr hB hz hq hS => ?_)
  · show 0 + 1 ≤ R.frames
    omega
  · show 8 + (1 + 11) + 64 * 0 ≤ R.locals
    omega
  · exact ⟨h.1, h.2.1.next (State.WarmedH.refl U) (fun _ _ _ => rfl), h.2.2⟩
  · show 2 * 0 + (st.map fun v => v.category).sum ≤ 8
    omega
  · subst hr
    have hB : t.heap = H := hB
    have e : H1 = H := ht.symm.trans hB
    subst e
    exact k H1 locs1 (cells + 0) (slots + 0) ls ⟨hH.1, hS⟩ hc hs hL
