/-! the law's wrappers -/
theorem q715 : Cond.codeWith yL_loadRailway cL_loadRailway (4) (Option.some FieldType.int) (mH mL_loadRailway) ∈ lw_tbl := List.mem_of_getElem? (i := 715) (by decide +kernel)
theorem q717 : Cond.methodLink "TrainDecoderLaw" (7) ⟨"TrainDecoder", "loadRailway", "(I)I"⟩ ∈ lw_tbl := List.mem_of_getElem? (i := 717) (by decide +kernel)
theorem q718 : Cond.instanceMethod ⟨"TrainDecoder", "loadRailway", "(I)I"⟩ ∈ lw_tbl := List.mem_of_getElem? (i := 718) (by decide +kernel)
theorem q719 : Cond.selects "TrainDecoder" ⟨"TrainDecoder", "loadRailway", "(I)I"⟩ ⟨"TrainDecoder", "loadRailway", "(I)I"⟩ ∈ lw_tbl := List.mem_of_getElem? (i := 719) (by decide +kernel)
theorem q108 : Cond.initialized "TrainDecoderLaw" ∈ lw_tbl := List.mem_of_getElem? (i := 108) (by decide +kernel)
theorem okL_loadRailway : MOkH mL_loadRailway 3 := ⟨by decide +kernel, q715, q108, ⟨by decide +kernel, by decide +kernel⟩, by decide +kernel, by decide +kernel⟩
theorem sL_loadRailway_4 {G : Gl} {κ : Kx} {d : Nat} {Q : Option Value → Hp → Prop} {X : String → Hp → Prop} {cs ss : Nat} {L : List (Option LV)} {st : List Value} {σ : Hp} {b : Nat} {fs : List Value} {p0 : Int32} (hΓ : Ok G κ mL_loadRailway (d + 1) Q X) (mc ms : Nat) (X2 : String → Hp → Prop) (hX : ∀ (E : String) (σ1 : Hp), X2 E σ1 → ∃ h, CatchAt κ mL_loadRailway 4 E h ∧ ∀ q : Nat, AW G κ cs ss h L [.ref q] σ1) (hst : (st.map fun v => v.category).sum ≤ 8) (hσ : σ b = some (.inr (9, fs))) (body : ∀ κ2 : Kx, Ok G κ2 mX12_loadRailway d (KV G κ cs ss 7 L st) X2 → AW G κ2 mc ms 0 [some (.inr (some b)), some (.inl p0), none] [] σ) : AW G κ (cs + mc) (ss + ms) 4 L (.int p0 :: .ref b :: st) σ := aw_invVH hΓ (M2 := mX12_loadRailway) [.inl p0] mc ms X2 hX okX12_loadRailway ckX12 rfl q718 q719 q717 rfl (Nat.le_of_ble_eq_true rfl) hst dL_loadRailway_4 hσ body
theorem q716 : Cond.classLink "TrainDecoderLaw" (13) "java/lang/IllegalArgumentException" ∈ lw_tbl := List.mem_of_getElem? (i := 716) (by decide +kernel)
theorem cL_loadRailway_0 {κ : Kx} (hN : NcK κ) : CatchAt κ mL_loadRailway 4 "java/lang/IllegalArgumentException" 12 := by
  obtain ⟨p, l, e, R, s, m, args, below, meth, c, Z⟩ := κ
  have hN : NcS s := hN
  exact ⟨[], ⟨0, 9, 12, 13⟩, [], "java/lang/IllegalArgumentException", rfl, (fun z hz => by cases hz), rfl, by decide, q716, hN.2.2.1, rfl⟩
theorem wL_loadRailway {G : Gl} {κ : Kx} {d : Nat} {Q : Option Value → Hp → Prop} {X : String → Hp → Prop} {cs ss : Nat} {σ : Hp} {x o : Nat} {p0 : Int32} {fs : List Value} {f : Nat → Int64} (hΓ : Ok G κ mL_loadRailway (d + 1) Q X) (hN : NcK κ) (mc ms : Nat) (hx : σ x = some (.inr (9, fs))) (RT : Int32 → Hp → Prop) (TH : String → Hp → Prop) (body : ∀ (κ2 : Kx) (Q2 : Option Value → Hp → Prop) (X2 : String → Hp → Prop), Ok G κ2 mX12_loadRailway d Q2 X2 → (∀ v σ1, RT v σ1 → Q2 (some (.int v)) σ1) → (∀ E σ1, TH E σ1 → X2 E σ1) → AW G κ2 mc ms 0 [lR x, lI p0, none] [] σ) (hR : ∀ v σ1, RT v σ1 → σ1 o = some (eL G 1 f) ∧ Q (some (.int 0)) (hset σ1 o (eL G 1 (vp_updL f 0 v.toInt64)))) (hT : ∀ E σ1, TH E σ1 → (E = "java/lang/IllegalArgumentException" ∧ Q (some (.int 1)) σ1)) : AW G κ (cs + mc) (ss + ms) 0 [lR x, lI p0, lR o, none] [] σ := by
  refine sL_loadRailway_0 hΓ rfl ?_
  refine sL_loadRailway_1 hΓ ?_
  refine sL_loadRailway_2 hΓ rfl ?_
  refine sL_loadRailway_3 hΓ rfl ?_
  suffices after : ∀ (v : Int32) (σ1 : Hp), RT v σ1 → AW G κ cs ss 7 [lR x, lI p0, lR o, none] [.int v, .int 0, .ref o] σ1 by
    refine sL_loadRailway_4 hΓ mc ms TH (fun E σ1 hE => ?_) (Nat.le_of_ble_eq_true rfl) hx (fun κ2 hok => body κ2 _ _ hok (fun v σ1 hv => after v σ1 hv) (fun E σ1 hE => hE))
    rcases hT E σ1 hE with ⟨rfl, hq⟩
    · refine ⟨12, cL_loadRailway_0 hN, fun q9 => ?_⟩
      refine sL_loadRailway_12 hΓ ?_
      refine sL_loadRailway_13 hΓ ?_
      exact sL_loadRailway_14 hΓ hq
  intro v σ1 hv
  obtain ⟨ho, hq⟩ := hR v σ1 hv
  refine sL_loadRailway_7 hΓ ?_
  refine sL_loadRailway_8 hΓ ho (j := 0) rfl (by decide) (by decide) ?_
  refine sL_loadRailway_9 hΓ ?_
  refine sL_loadRailway_15 hΓ ?_
  exact sL_loadRailway_16 hΓ hq
theorem q931 : Cond.codeWith yL_isTunnel cL_isTunnel (4) (Option.some FieldType.int) (mH mL_isTunnel) ∈ lw_tbl := List.mem_of_getElem? (i := 931) (by decide +kernel)
theorem q933 : Cond.methodLink "TrainDecoderLaw" (15) ⟨"TrainDecoder", "isTunnel", "(I)Z"⟩ ∈ lw_tbl := List.mem_of_getElem? (i := 933) (by decide +kernel)
theorem q934 : Cond.instanceMethod ⟨"TrainDecoder", "isTunnel", "(I)Z"⟩ ∈ lw_tbl := List.mem_of_getElem? (i := 934) (by decide +kernel)
theorem q935 : Cond.selects "TrainDecoder" ⟨"TrainDecoder", "isTunnel", "(I)Z"⟩ ⟨"TrainDecoder", "isTunnel", "(I)Z"⟩ ∈ lw_tbl := List.mem_of_getElem? (i := 935) (by decide +kernel)
theorem okL_isTunnel : MOkH mL_isTunnel 3 := ⟨by decide +kernel, q931, q108, ⟨by decide +kernel, by decide +kernel⟩, by decide +kernel, by decide +kernel⟩
theorem sL_isTunnel_4 {G : Gl} {κ : Kx} {d : Nat} {Q : Option Value → Hp → Prop} {X : String → Hp → Prop} {cs ss : Nat} {L : List (Option LV)} {st : List Value} {σ : Hp} {b : Nat} {fs : List Value} {p0 : Int32} (hΓ : Ok G κ mL_isTunnel (d + 1) Q X) (mc ms : Nat) (X2 : String → Hp → Prop) (hX : ∀ (E : String) (σ1 : Hp), X2 E σ1 → ∃ h, CatchAt κ mL_isTunnel 4 E h ∧ ∀ q : Nat, AW G κ cs ss h L [.ref q] σ1) (hst : (st.map fun v => v.category).sum ≤ 8) (hσ : σ b = some (.inr (9, fs))) (body : ∀ κ2 : Kx, Ok G κ2 mX12_isTunnel d (KV G κ cs ss 7 L st) X2 → AW G κ2 mc ms 0 [some (.inr (some b)), some (.inl p0)] [] σ) : AW G κ (cs + mc) (ss + ms) 4 L (.int p0 :: .ref b :: st) σ := aw_invVH hΓ (M2 := mX12_isTunnel) [.inl p0] mc ms X2 hX okX12_isTunnel ckX12 rfl q934 q935 q933 rfl (Nat.le_of_ble_eq_true rfl) hst dL_isTunnel_4 hσ body
theorem q932 : Cond.classLink "TrainDecoderLaw" (19) "java/lang/IndexOutOfBoundsException" ∈ lw_tbl := List.mem_of_getElem? (i := 932) (by decide +kernel)
theorem cL_isTunnel_0 {κ : Kx} (hN : NcK κ) : CatchAt κ mL_isTunnel 4 "java/lang/IndexOutOfBoundsException" 19 := by
  obtain ⟨p, l, e, R, s, m, args, below, meth, c, Z⟩ := κ
  have hN : NcS s := hN
  exact ⟨[], ⟨0, 16, 19, 19⟩, [], "java/lang/IndexOutOfBoundsException", rfl, (fun z hz => by cases hz), rfl, by decide, q932, hN.2.2.2, rfl⟩
theorem wL_isTunnel {G : Gl} {κ : Kx} {d : Nat} {Q : Option Value → Hp → Prop} {X : String → Hp → Prop} {cs ss : Nat} {σ : Hp} {x o : Nat} {p0 : Int32} {fs : List Value} {f : Nat → Int64} (hΓ : Ok G κ mL_isTunnel (d + 1) Q X) (hN : NcK κ) (mc ms : Nat) (hx : σ x = some (.inr (9, fs))) (RT : Int32 → Hp → Prop) (TH : String → Hp → Prop) (body : ∀ (κ2 : Kx) (Q2 : Option Value → Hp → Prop) (X2 : String → Hp → Prop), Ok G κ2 mX12_isTunnel d Q2 X2 → (∀ v σ1, RT v σ1 → Q2 (some (.int v)) σ1) → (∀ E σ1, TH E σ1 → X2 E σ1) → AW G κ2 mc ms 0 [lR x, lI p0] [] σ) (hR : ∀ v σ1, RT v σ1 → σ1 o = some (eL G 1 f) ∧ Q (some (.int 0)) (hset σ1 o (eL G 1 (vp_updL f 0 (if v = 0 then (0 : Int64) else 1))))) (hT : ∀ E σ1, TH E σ1 → (E = "java/lang/IndexOutOfBoundsException" ∧ Q (some (.int 1)) σ1)) : AW G κ (cs + mc) (ss + ms) 0 [lR x, lI p0, lR o, none] [] σ := by
  refine sL_isTunnel_0 hΓ rfl ?_
  refine sL_isTunnel_1 hΓ ?_
  refine sL_isTunnel_2 hΓ rfl ?_
  refine sL_isTunnel_3 hΓ rfl ?_
  suffices after : ∀ (v : Int32) (σ1 : Hp), RT v σ1 → AW G κ cs ss 7 [lR x, lI p0, lR o, none] [.int v, .int 0, .ref o] σ1 by
    refine sL_isTunnel_4 hΓ mc ms TH (fun E σ1 hE => ?_) (Nat.le_of_ble_eq_true rfl) hx (fun κ2 hok => body κ2 _ _ hok (fun v σ1 hv => after v σ1 hv) (fun E σ1 hE => hE))
    rcases hT E σ1 hE with ⟨rfl, hq⟩
    · refine ⟨19, cL_isTunnel_0 hN, fun q9 => ?_⟩
      refine sL_isTunnel_19 hΓ ?_
      refine sL_isTunnel_20 hΓ ?_
      exact sL_isTunnel_21 hΓ hq
  intro v σ1 hv
  obtain ⟨ho, hq⟩ := hR v σ1 hv
  refine sL_isTunnel_7 hΓ (fun c7 => ?_) (fun c7 => ?_)
  · rw [if_pos c7] at hq
    refine sL_isTunnel_14 hΓ ?_
    refine sL_isTunnel_15 hΓ ho (j := 0) rfl (by decide) (by decide) ?_
    refine sL_isTunnel_16 hΓ ?_
    refine sL_isTunnel_22 hΓ ?_
    exact sL_isTunnel_23 hΓ hq
  · rw [if_neg c7] at hq
    refine sL_isTunnel_10 hΓ ?_
    refine sL_isTunnel_11 hΓ ?_
    refine sL_isTunnel_15 hΓ ho (j := 0) rfl (by decide) (by decide) ?_
    refine sL_isTunnel_16 hΓ ?_
    refine sL_isTunnel_22 hΓ ?_
    exact sL_isTunnel_23 hΓ hq
theorem q961 : Cond.codeWith yL_hasShort cL_hasShort (4) (Option.some FieldType.int) (mH mL_hasShort) ∈ lw_tbl := List.mem_of_getElem? (i := 961) (by decide +kernel)
theorem q962 : Cond.methodLink "TrainDecoderLaw" (21) ⟨"TrainDecoder", "hasShort", "(I)Z"⟩ ∈ lw_tbl := List.mem_of_getElem? (i := 962) (by decide +kernel)
theorem q963 : Cond.instanceMethod ⟨"TrainDecoder", "hasShort", "(I)Z"⟩ ∈ lw_tbl := List.mem_of_getElem? (i := 963) (by decide +kernel)
theorem q964 : Cond.selects "TrainDecoder" ⟨"TrainDecoder", "hasShort", "(I)Z"⟩ ⟨"TrainDecoder", "hasShort", "(I)Z"⟩ ∈ lw_tbl := List.mem_of_getElem? (i := 964) (by decide +kernel)
theorem okL_hasShort : MOkH mL_hasShort 3 := ⟨by decide +kernel, q961, q108, ⟨by decide +kernel, by decide +kernel⟩, by decide +kernel, by decide +kernel⟩
theorem sL_hasShort_4 {G : Gl} {κ : Kx} {d : Nat} {Q : Option Value → Hp → Prop} {X : String → Hp → Prop} {cs ss : Nat} {L : List (Option LV)} {st : List Value} {σ : Hp} {b : Nat} {fs : List Value} {p0 : Int32} (hΓ : Ok G κ mL_hasShort (d + 1) Q X) (mc ms : Nat) (X2 : String → Hp → Prop) (hX : ∀ (E : String) (σ1 : Hp), X2 E σ1 → ∃ h, CatchAt κ mL_hasShort 4 E h ∧ ∀ q : Nat, AW G κ cs ss h L [.ref q] σ1) (hst : (st.map fun v => v.category).sum ≤ 8) (hσ : σ b = some (.inr (9, fs))) (body : ∀ κ2 : Kx, Ok G κ2 mX12_hasShort d (KV G κ cs ss 7 L st) X2 → AW G κ2 mc ms 0 [some (.inr (some b)), some (.inl p0)] [] σ) : AW G κ (cs + mc) (ss + ms) 4 L (.int p0 :: .ref b :: st) σ := aw_invVH hΓ (M2 := mX12_hasShort) [.inl p0] mc ms X2 hX okX12_hasShort ckX12 rfl q963 q964 q962 rfl (Nat.le_of_ble_eq_true rfl) hst dL_hasShort_4 hσ body
theorem cL_hasShort_0 {κ : Kx} (hN : NcK κ) : CatchAt κ mL_hasShort 4 "java/lang/IndexOutOfBoundsException" 19 := by
  obtain ⟨p, l, e, R, s, m, args, below, meth, c, Z⟩ := κ
  have hN : NcS s := hN
  exact ⟨[], ⟨0, 16, 19, 19⟩, [], "java/lang/IndexOutOfBoundsException", rfl, (fun z hz => by cases hz), rfl, by decide, q932, hN.2.2.2, rfl⟩
theorem wL_hasShort {G : Gl} {κ : Kx} {d : Nat} {Q : Option Value → Hp → Prop} {X : String → Hp → Prop} {cs ss : Nat} {σ : Hp} {x o : Nat} {p0 : Int32} {fs : List Value} {f : Nat → Int64} (hΓ : Ok G κ mL_hasShort (d + 1) Q X) (hN : NcK κ) (mc ms : Nat) (hx : σ x = some (.inr (9, fs))) (RT : Int32 → Hp → Prop) (TH : String → Hp → Prop) (body : ∀ (κ2 : Kx) (Q2 : Option Value → Hp → Prop) (X2 : String → Hp → Prop), Ok G κ2 mX12_hasShort d Q2 X2 → (∀ v σ1, RT v σ1 → Q2 (some (.int v)) σ1) → (∀ E σ1, TH E σ1 → X2 E σ1) → AW G κ2 mc ms 0 [lR x, lI p0] [] σ) (hR : ∀ v σ1, RT v σ1 → σ1 o = some (eL G 1 f) ∧ Q (some (.int 0)) (hset σ1 o (eL G 1 (vp_updL f 0 (if v = 0 then (0 : Int64) else 1))))) (hT : ∀ E σ1, TH E σ1 → (E = "java/lang/IndexOutOfBoundsException" ∧ Q (some (.int 1)) σ1)) : AW G κ (cs + mc) (ss + ms) 0 [lR x, lI p0, lR o, none] [] σ := by
  refine sL_hasShort_0 hΓ rfl ?_
  refine sL_hasShort_1 hΓ ?_
  refine sL_hasShort_2 hΓ rfl ?_
  refine sL_hasShort_3 hΓ rfl ?_
  suffices after : ∀ (v : Int32) (σ1 : Hp), RT v σ1 → AW G κ cs ss 7 [lR x, lI p0, lR o, none] [.int v, .int 0, .ref o] σ1 by
    refine sL_hasShort_4 hΓ mc ms TH (fun E σ1 hE => ?_) (Nat.le_of_ble_eq_true rfl) hx (fun κ2 hok => body κ2 _ _ hok (fun v σ1 hv => after v σ1 hv) (fun E σ1 hE => hE))
    rcases hT E σ1 hE with ⟨rfl, hq⟩
    · refine ⟨19, cL_hasShort_0 hN, fun q9 => ?_⟩
      refine sL_hasShort_19 hΓ ?_
      refine sL_hasShort_20 hΓ ?_
      exact sL_hasShort_21 hΓ hq
  intro v σ1 hv
  obtain ⟨ho, hq⟩ := hR v σ1 hv
  refine sL_hasShort_7 hΓ (fun c7 => ?_) (fun c7 => ?_)
  · rw [if_pos c7] at hq
    refine sL_hasShort_14 hΓ ?_
    refine sL_hasShort_15 hΓ ho (j := 0) rfl (by decide) (by decide) ?_
    refine sL_hasShort_16 hΓ ?_
    refine sL_hasShort_22 hΓ ?_
    exact sL_hasShort_23 hΓ hq
  · rw [if_neg c7] at hq
    refine sL_hasShort_10 hΓ ?_
    refine sL_hasShort_11 hΓ ?_
    refine sL_hasShort_15 hΓ ho (j := 0) rfl (by decide) (by decide) ?_
    refine sL_hasShort_16 hΓ ?_
    refine sL_hasShort_22 hΓ ?_
    exact sL_hasShort_23 hΓ hq
theorem q969 : Cond.codeWith yL_trainIn cL_trainIn (4) (Option.some FieldType.int) (mH mL_trainIn) ∈ lw_tbl := List.mem_of_getElem? (i := 969) (by decide +kernel)
theorem q970 : Cond.methodLink "TrainDecoderLaw" (24) ⟨"TrainDecoder", "trainIn", "(I)I"⟩ ∈ lw_tbl := List.mem_of_getElem? (i := 970) (by decide +kernel)
theorem q971 : Cond.instanceMethod ⟨"TrainDecoder", "trainIn", "(I)I"⟩ ∈ lw_tbl := List.mem_of_getElem? (i := 971) (by decide +kernel)
theorem q972 : Cond.selects "TrainDecoder" ⟨"TrainDecoder", "trainIn", "(I)I"⟩ ⟨"TrainDecoder", "trainIn", "(I)I"⟩ ∈ lw_tbl := List.mem_of_getElem? (i := 972) (by decide +kernel)
theorem okL_trainIn : MOkH mL_trainIn 3 := ⟨by decide +kernel, q969, q108, ⟨by decide +kernel, by decide +kernel⟩, by decide +kernel, by decide +kernel⟩
theorem sL_trainIn_4 {G : Gl} {κ : Kx} {d : Nat} {Q : Option Value → Hp → Prop} {X : String → Hp → Prop} {cs ss : Nat} {L : List (Option LV)} {st : List Value} {σ : Hp} {b : Nat} {fs : List Value} {p0 : Int32} (hΓ : Ok G κ mL_trainIn (d + 1) Q X) (mc ms : Nat) (X2 : String → Hp → Prop) (hX : ∀ (E : String) (σ1 : Hp), X2 E σ1 → ∃ h, CatchAt κ mL_trainIn 4 E h ∧ ∀ q : Nat, AW G κ cs ss h L [.ref q] σ1) (hst : (st.map fun v => v.category).sum ≤ 8) (hσ : σ b = some (.inr (9, fs))) (body : ∀ κ2 : Kx, Ok G κ2 mX12_trainIn d (KV G κ cs ss 7 L st) X2 → AW G κ2 mc ms 0 [some (.inr (some b)), some (.inl p0)] [] σ) : AW G κ (cs + mc) (ss + ms) 4 L (.int p0 :: .ref b :: st) σ := aw_invVH hΓ (M2 := mX12_trainIn) [.inl p0] mc ms X2 hX okX12_trainIn ckX12 rfl q971 q972 q970 rfl (Nat.le_of_ble_eq_true rfl) hst dL_trainIn_4 hσ body
theorem cL_trainIn_0 {κ : Kx} (hN : NcK κ) : CatchAt κ mL_trainIn 4 "java/lang/IndexOutOfBoundsException" 12 := by
  obtain ⟨p, l, e, R, s, m, args, below, meth, c, Z⟩ := κ
  have hN : NcS s := hN
  exact ⟨[], ⟨0, 9, 12, 19⟩, [], "java/lang/IndexOutOfBoundsException", rfl, (fun z hz => by cases hz), rfl, by decide, q932, hN.2.2.2, rfl⟩
theorem wL_trainIn {G : Gl} {κ : Kx} {d : Nat} {Q : Option Value → Hp → Prop} {X : String → Hp → Prop} {cs ss : Nat} {σ : Hp} {x o : Nat} {p0 : Int32} {fs : List Value} {f : Nat → Int64} (hΓ : Ok G κ mL_trainIn (d + 1) Q X) (hN : NcK κ) (mc ms : Nat) (hx : σ x = some (.inr (9, fs))) (RT : Int32 → Hp → Prop) (TH : String → Hp → Prop) (body : ∀ (κ2 : Kx) (Q2 : Option Value → Hp → Prop) (X2 : String → Hp → Prop), Ok G κ2 mX12_trainIn d Q2 X2 → (∀ v σ1, RT v σ1 → Q2 (some (.int v)) σ1) → (∀ E σ1, TH E σ1 → X2 E σ1) → AW G κ2 mc ms 0 [lR x, lI p0] [] σ) (hR : ∀ v σ1, RT v σ1 → σ1 o = some (eL G 1 f) ∧ Q (some (.int 0)) (hset σ1 o (eL G 1 (vp_updL f 0 v.toInt64)))) (hT : ∀ E σ1, TH E σ1 → (E = "java/lang/IndexOutOfBoundsException" ∧ Q (some (.int 1)) σ1)) : AW G κ (cs + mc) (ss + ms) 0 [lR x, lI p0, lR o, none] [] σ := by
  refine sL_trainIn_0 hΓ rfl ?_
  refine sL_trainIn_1 hΓ ?_
  refine sL_trainIn_2 hΓ rfl ?_
  refine sL_trainIn_3 hΓ rfl ?_
  suffices after : ∀ (v : Int32) (σ1 : Hp), RT v σ1 → AW G κ cs ss 7 [lR x, lI p0, lR o, none] [.int v, .int 0, .ref o] σ1 by
    refine sL_trainIn_4 hΓ mc ms TH (fun E σ1 hE => ?_) (Nat.le_of_ble_eq_true rfl) hx (fun κ2 hok => body κ2 _ _ hok (fun v σ1 hv => after v σ1 hv) (fun E σ1 hE => hE))
    rcases hT E σ1 hE with ⟨rfl, hq⟩
    · refine ⟨12, cL_trainIn_0 hN, fun q9 => ?_⟩
      refine sL_trainIn_12 hΓ ?_
      refine sL_trainIn_13 hΓ ?_
      exact sL_trainIn_14 hΓ hq
  intro v σ1 hv
  obtain ⟨ho, hq⟩ := hR v σ1 hv
  refine sL_trainIn_7 hΓ ?_
  refine sL_trainIn_8 hΓ ho (j := 0) rfl (by decide) (by decide) ?_
  refine sL_trainIn_9 hΓ ?_
  refine sL_trainIn_15 hΓ ?_
  exact sL_trainIn_16 hΓ hq
theorem q977 : Cond.codeWith yL_address cL_address (4) (Option.some FieldType.int) (mH mL_address) ∈ lw_tbl := List.mem_of_getElem? (i := 977) (by decide +kernel)
theorem q978 : Cond.methodLink "TrainDecoderLaw" (27) ⟨"TrainDecoder", "address", "(I)I"⟩ ∈ lw_tbl := List.mem_of_getElem? (i := 978) (by decide +kernel)
theorem q979 : Cond.instanceMethod ⟨"TrainDecoder", "address", "(I)I"⟩ ∈ lw_tbl := List.mem_of_getElem? (i := 979) (by decide +kernel)
theorem q980 : Cond.selects "TrainDecoder" ⟨"TrainDecoder", "address", "(I)I"⟩ ⟨"TrainDecoder", "address", "(I)I"⟩ ∈ lw_tbl := List.mem_of_getElem? (i := 980) (by decide +kernel)
theorem okL_address : MOkH mL_address 3 := ⟨by decide +kernel, q977, q108, ⟨by decide +kernel, by decide +kernel⟩, by decide +kernel, by decide +kernel⟩
theorem sL_address_4 {G : Gl} {κ : Kx} {d : Nat} {Q : Option Value → Hp → Prop} {X : String → Hp → Prop} {cs ss : Nat} {L : List (Option LV)} {st : List Value} {σ : Hp} {b : Nat} {fs : List Value} {p0 : Int32} (hΓ : Ok G κ mL_address (d + 1) Q X) (mc ms : Nat) (X2 : String → Hp → Prop) (hX : ∀ (E : String) (σ1 : Hp), X2 E σ1 → ∃ h, CatchAt κ mL_address 4 E h ∧ ∀ q : Nat, AW G κ cs ss h L [.ref q] σ1) (hst : (st.map fun v => v.category).sum ≤ 8) (hσ : σ b = some (.inr (9, fs))) (body : ∀ κ2 : Kx, Ok G κ2 mX12_address d (KV G κ cs ss 7 L st) X2 → AW G κ2 mc ms 0 [some (.inr (some b)), some (.inl p0)] [] σ) : AW G κ (cs + mc) (ss + ms) 4 L (.int p0 :: .ref b :: st) σ := aw_invVH hΓ (M2 := mX12_address) [.inl p0] mc ms X2 hX okX12_address ckX12 rfl q979 q980 q978 rfl (Nat.le_of_ble_eq_true rfl) hst dL_address_4 hσ body
theorem cL_address_0 {κ : Kx} (hN : NcK κ) : CatchAt κ mL_address 4 "java/lang/IndexOutOfBoundsException" 12 := by
  obtain ⟨p, l, e, R, s, m, args, below, meth, c, Z⟩ := κ
  have hN : NcS s := hN
  exact ⟨[], ⟨0, 9, 12, 19⟩, [], "java/lang/IndexOutOfBoundsException", rfl, (fun z hz => by cases hz), rfl, by decide, q932, hN.2.2.2, rfl⟩
theorem wL_address {G : Gl} {κ : Kx} {d : Nat} {Q : Option Value → Hp → Prop} {X : String → Hp → Prop} {cs ss : Nat} {σ : Hp} {x o : Nat} {p0 : Int32} {fs : List Value} {f : Nat → Int64} (hΓ : Ok G κ mL_address (d + 1) Q X) (hN : NcK κ) (mc ms : Nat) (hx : σ x = some (.inr (9, fs))) (RT : Int32 → Hp → Prop) (TH : String → Hp → Prop) (body : ∀ (κ2 : Kx) (Q2 : Option Value → Hp → Prop) (X2 : String → Hp → Prop), Ok G κ2 mX12_address d Q2 X2 → (∀ v σ1, RT v σ1 → Q2 (some (.int v)) σ1) → (∀ E σ1, TH E σ1 → X2 E σ1) → AW G κ2 mc ms 0 [lR x, lI p0] [] σ) (hR : ∀ v σ1, RT v σ1 → σ1 o = some (eL G 1 f) ∧ Q (some (.int 0)) (hset σ1 o (eL G 1 (vp_updL f 0 v.toInt64)))) (hT : ∀ E σ1, TH E σ1 → (E = "java/lang/IndexOutOfBoundsException" ∧ Q (some (.int 1)) σ1)) : AW G κ (cs + mc) (ss + ms) 0 [lR x, lI p0, lR o, none] [] σ := by
  refine sL_address_0 hΓ rfl ?_
  refine sL_address_1 hΓ ?_
  refine sL_address_2 hΓ rfl ?_
  refine sL_address_3 hΓ rfl ?_
  suffices after : ∀ (v : Int32) (σ1 : Hp), RT v σ1 → AW G κ cs ss 7 [lR x, lI p0, lR o, none] [.int v, .int 0, .ref o] σ1 by
    refine sL_address_4 hΓ mc ms TH (fun E σ1 hE => ?_) (Nat.le_of_ble_eq_true rfl) hx (fun κ2 hok => body κ2 _ _ hok (fun v σ1 hv => after v σ1 hv) (fun E σ1 hE => hE))
    rcases hT E σ1 hE with ⟨rfl, hq⟩
    · refine ⟨12, cL_address_0 hN, fun q9 => ?_⟩
      refine sL_address_12 hΓ ?_
      refine sL_address_13 hΓ ?_
      exact sL_address_14 hΓ hq
  intro v σ1 hv
  obtain ⟨ho, hq⟩ := hR v σ1 hv
  refine sL_address_7 hΓ ?_
  refine sL_address_8 hΓ ho (j := 0) rfl (by decide) (by decide) ?_
  refine sL_address_9 hΓ ?_
  refine sL_address_15 hΓ ?_
  exact sL_address_16 hΓ hq
theorem q993 : Cond.codeWith yL_sectionOf cL_sectionOf (4) (Option.some FieldType.int) (mH mL_sectionOf) ∈ lw_tbl := List.mem_of_getElem? (i := 993) (by decide +kernel)
theorem q994 : Cond.methodLink "TrainDecoderLaw" (30) ⟨"TrainDecoder", "sectionOf", "(I)I"⟩ ∈ lw_tbl := List.mem_of_getElem? (i := 994) (by decide +kernel)
theorem q995 : Cond.instanceMethod ⟨"TrainDecoder", "sectionOf", "(I)I"⟩ ∈ lw_tbl := List.mem_of_getElem? (i := 995) (by decide +kernel)
theorem q996 : Cond.selects "TrainDecoder" ⟨"TrainDecoder", "sectionOf", "(I)I"⟩ ⟨"TrainDecoder", "sectionOf", "(I)I"⟩ ∈ lw_tbl := List.mem_of_getElem? (i := 996) (by decide +kernel)
theorem okL_sectionOf : MOkH mL_sectionOf 3 := ⟨by decide +kernel, q993, q108, ⟨by decide +kernel, by decide +kernel⟩, by decide +kernel, by decide +kernel⟩
theorem sL_sectionOf_4 {G : Gl} {κ : Kx} {d : Nat} {Q : Option Value → Hp → Prop} {X : String → Hp → Prop} {cs ss : Nat} {L : List (Option LV)} {st : List Value} {σ : Hp} {b : Nat} {fs : List Value} {p0 : Int32} (hΓ : Ok G κ mL_sectionOf (d + 1) Q X) (mc ms : Nat) (X2 : String → Hp → Prop) (hX : ∀ (E : String) (σ1 : Hp), X2 E σ1 → ∃ h, CatchAt κ mL_sectionOf 4 E h ∧ ∀ q : Nat, AW G κ cs ss h L [.ref q] σ1) (hst : (st.map fun v => v.category).sum ≤ 8) (hσ : σ b = some (.inr (9, fs))) (body : ∀ κ2 : Kx, Ok G κ2 mX12_sectionOf d (KV G κ cs ss 7 L st) X2 → AW G κ2 mc ms 0 [some (.inr (some b)), some (.inl p0)] [] σ) : AW G κ (cs + mc) (ss + ms) 4 L (.int p0 :: .ref b :: st) σ := aw_invVH hΓ (M2 := mX12_sectionOf) [.inl p0] mc ms X2 hX okX12_sectionOf ckX12 rfl q995 q996 q994 rfl (Nat.le_of_ble_eq_true rfl) hst dL_sectionOf_4 hσ body
theorem cL_sectionOf_0 {κ : Kx} (hN : NcK κ) : CatchAt κ mL_sectionOf 4 "java/lang/IndexOutOfBoundsException" 12 := by
  obtain ⟨p, l, e, R, s, m, args, below, meth, c, Z⟩ := κ
  have hN : NcS s := hN
  exact ⟨[], ⟨0, 9, 12, 19⟩, [], "java/lang/IndexOutOfBoundsException", rfl, (fun z hz => by cases hz), rfl, by decide, q932, hN.2.2.2, rfl⟩
theorem wL_sectionOf {G : Gl} {κ : Kx} {d : Nat} {Q : Option Value → Hp → Prop} {X : String → Hp → Prop} {cs ss : Nat} {σ : Hp} {x o : Nat} {p0 : Int32} {fs : List Value} {f : Nat → Int64} (hΓ : Ok G κ mL_sectionOf (d + 1) Q X) (hN : NcK κ) (mc ms : Nat) (hx : σ x = some (.inr (9, fs))) (RT : Int32 → Hp → Prop) (TH : String → Hp → Prop) (body : ∀ (κ2 : Kx) (Q2 : Option Value → Hp → Prop) (X2 : String → Hp → Prop), Ok G κ2 mX12_sectionOf d Q2 X2 → (∀ v σ1, RT v σ1 → Q2 (some (.int v)) σ1) → (∀ E σ1, TH E σ1 → X2 E σ1) → AW G κ2 mc ms 0 [lR x, lI p0] [] σ) (hR : ∀ v σ1, RT v σ1 → σ1 o = some (eL G 1 f) ∧ Q (some (.int 0)) (hset σ1 o (eL G 1 (vp_updL f 0 v.toInt64)))) (hT : ∀ E σ1, TH E σ1 → (E = "java/lang/IndexOutOfBoundsException" ∧ Q (some (.int 1)) σ1)) : AW G κ (cs + mc) (ss + ms) 0 [lR x, lI p0, lR o, none] [] σ := by
  refine sL_sectionOf_0 hΓ rfl ?_
  refine sL_sectionOf_1 hΓ ?_
  refine sL_sectionOf_2 hΓ rfl ?_
  refine sL_sectionOf_3 hΓ rfl ?_
  suffices after : ∀ (v : Int32) (σ1 : Hp), RT v σ1 → AW G κ cs ss 7 [lR x, lI p0, lR o, none] [.int v, .int 0, .ref o] σ1 by
    refine sL_sectionOf_4 hΓ mc ms TH (fun E σ1 hE => ?_) (Nat.le_of_ble_eq_true rfl) hx (fun κ2 hok => body κ2 _ _ hok (fun v σ1 hv => after v σ1 hv) (fun E σ1 hE => hE))
    rcases hT E σ1 hE with ⟨rfl, hq⟩
    · refine ⟨12, cL_sectionOf_0 hN, fun q9 => ?_⟩
      refine sL_sectionOf_12 hΓ ?_
      refine sL_sectionOf_13 hΓ ?_
      exact sL_sectionOf_14 hΓ hq
  intro v σ1 hv
  obtain ⟨ho, hq⟩ := hR v σ1 hv
  refine sL_sectionOf_7 hΓ ?_
  refine sL_sectionOf_8 hΓ ho (j := 0) rfl (by decide) (by decide) ?_
  refine sL_sectionOf_9 hΓ ?_
  refine sL_sectionOf_15 hΓ ?_
  exact sL_sectionOf_16 hΓ hq
theorem q1000 : Cond.codeWith yL_advance cL_advance (4) (Option.some FieldType.int) (mH mL_advance) ∈ lw_tbl := List.mem_of_getElem? (i := 1000) (by decide +kernel)
theorem q1001 : Cond.methodLink "TrainDecoderLaw" (33) ⟨"TrainDecoder", "advance", "(I)I"⟩ ∈ lw_tbl := List.mem_of_getElem? (i := 1001) (by decide +kernel)
theorem q1002 : Cond.instanceMethod ⟨"TrainDecoder", "advance", "(I)I"⟩ ∈ lw_tbl := List.mem_of_getElem? (i := 1002) (by decide +kernel)
theorem q1003 : Cond.selects "TrainDecoder" ⟨"TrainDecoder", "advance", "(I)I"⟩ ⟨"TrainDecoder", "advance", "(I)I"⟩ ∈ lw_tbl := List.mem_of_getElem? (i := 1003) (by decide +kernel)
theorem okL_advance : MOkH mL_advance 3 := ⟨by decide +kernel, q1000, q108, ⟨by decide +kernel, by decide +kernel⟩, by decide +kernel, by decide +kernel⟩
theorem sL_advance_4 {G : Gl} {κ : Kx} {d : Nat} {Q : Option Value → Hp → Prop} {X : String → Hp → Prop} {cs ss : Nat} {L : List (Option LV)} {st : List Value} {σ : Hp} {b : Nat} {fs : List Value} {p0 : Int32} (hΓ : Ok G κ mL_advance (d + 1) Q X) (mc ms : Nat) (X2 : String → Hp → Prop) (hX : ∀ (E : String) (σ1 : Hp), X2 E σ1 → ∃ h, CatchAt κ mL_advance 4 E h ∧ ∀ q : Nat, AW G κ cs ss h L [.ref q] σ1) (hst : (st.map fun v => v.category).sum ≤ 8) (hσ : σ b = some (.inr (9, fs))) (body : ∀ κ2 : Kx, Ok G κ2 mX12_advance d (KV G κ cs ss 7 L st) X2 → AW G κ2 mc ms 0 [some (.inr (some b)), some (.inl p0)] [] σ) : AW G κ (cs + mc) (ss + ms) 4 L (.int p0 :: .ref b :: st) σ := aw_invVH hΓ (M2 := mX12_advance) [.inl p0] mc ms X2 hX okX12_advance ckX12 rfl q1002 q1003 q1001 rfl (Nat.le_of_ble_eq_true rfl) hst dL_advance_4 hσ body
theorem cL_advance_0 {κ : Kx} (hN : NcK κ) : CatchAt κ mL_advance 4 "java/lang/IndexOutOfBoundsException" 12 := by
  obtain ⟨p, l, e, R, s, m, args, below, meth, c, Z⟩ := κ
  have hN : NcS s := hN
  exact ⟨[], ⟨0, 9, 12, 19⟩, [], "java/lang/IndexOutOfBoundsException", rfl, (fun z hz => by cases hz), rfl, by decide, q932, hN.2.2.2, rfl⟩
theorem wL_advance {G : Gl} {κ : Kx} {d : Nat} {Q : Option Value → Hp → Prop} {X : String → Hp → Prop} {cs ss : Nat} {σ : Hp} {x o : Nat} {p0 : Int32} {fs : List Value} {f : Nat → Int64} (hΓ : Ok G κ mL_advance (d + 1) Q X) (hN : NcK κ) (mc ms : Nat) (hx : σ x = some (.inr (9, fs))) (RT : Int32 → Hp → Prop) (TH : String → Hp → Prop) (body : ∀ (κ2 : Kx) (Q2 : Option Value → Hp → Prop) (X2 : String → Hp → Prop), Ok G κ2 mX12_advance d Q2 X2 → (∀ v σ1, RT v σ1 → Q2 (some (.int v)) σ1) → (∀ E σ1, TH E σ1 → X2 E σ1) → AW G κ2 mc ms 0 [lR x, lI p0] [] σ) (hR : ∀ v σ1, RT v σ1 → σ1 o = some (eL G 1 f) ∧ Q (some (.int 0)) (hset σ1 o (eL G 1 (vp_updL f 0 v.toInt64)))) (hT : ∀ E σ1, TH E σ1 → (E = "java/lang/IndexOutOfBoundsException" ∧ Q (some (.int 1)) σ1)) : AW G κ (cs + mc) (ss + ms) 0 [lR x, lI p0, lR o, none] [] σ := by
  refine sL_advance_0 hΓ rfl ?_
  refine sL_advance_1 hΓ ?_
  refine sL_advance_2 hΓ rfl ?_
  refine sL_advance_3 hΓ rfl ?_
  suffices after : ∀ (v : Int32) (σ1 : Hp), RT v σ1 → AW G κ cs ss 7 [lR x, lI p0, lR o, none] [.int v, .int 0, .ref o] σ1 by
    refine sL_advance_4 hΓ mc ms TH (fun E σ1 hE => ?_) (Nat.le_of_ble_eq_true rfl) hx (fun κ2 hok => body κ2 _ _ hok (fun v σ1 hv => after v σ1 hv) (fun E σ1 hE => hE))
    rcases hT E σ1 hE with ⟨rfl, hq⟩
    · refine ⟨12, cL_advance_0 hN, fun q9 => ?_⟩
      refine sL_advance_12 hΓ ?_
      refine sL_advance_13 hΓ ?_
      exact sL_advance_14 hΓ hq
  intro v σ1 hv
  obtain ⟨ho, hq⟩ := hR v σ1 hv
  refine sL_advance_7 hΓ ?_
  refine sL_advance_8 hΓ ho (j := 0) rfl (by decide) (by decide) ?_
  refine sL_advance_9 hΓ ?_
  refine sL_advance_15 hΓ ?_
  exact sL_advance_16 hΓ hq
theorem q1007 : Cond.codeWith yL_speed cL_speed (4) (Option.some FieldType.int) (mH mL_speed) ∈ lw_tbl := List.mem_of_getElem? (i := 1007) (by decide +kernel)
theorem q1008 : Cond.methodLink "TrainDecoderLaw" (36) ⟨"TrainDecoder", "speed", "(I)I"⟩ ∈ lw_tbl := List.mem_of_getElem? (i := 1008) (by decide +kernel)
theorem q1009 : Cond.instanceMethod ⟨"TrainDecoder", "speed", "(I)I"⟩ ∈ lw_tbl := List.mem_of_getElem? (i := 1009) (by decide +kernel)
theorem q1010 : Cond.selects "TrainDecoder" ⟨"TrainDecoder", "speed", "(I)I"⟩ ⟨"TrainDecoder", "speed", "(I)I"⟩ ∈ lw_tbl := List.mem_of_getElem? (i := 1010) (by decide +kernel)
theorem okL_speed : MOkH mL_speed 3 := ⟨by decide +kernel, q1007, q108, ⟨by decide +kernel, by decide +kernel⟩, by decide +kernel, by decide +kernel⟩
theorem sL_speed_4 {G : Gl} {κ : Kx} {d : Nat} {Q : Option Value → Hp → Prop} {X : String → Hp → Prop} {cs ss : Nat} {L : List (Option LV)} {st : List Value} {σ : Hp} {b : Nat} {fs : List Value} {p0 : Int32} (hΓ : Ok G κ mL_speed (d + 1) Q X) (mc ms : Nat) (X2 : String → Hp → Prop) (hX : ∀ (E : String) (σ1 : Hp), X2 E σ1 → ∃ h, CatchAt κ mL_speed 4 E h ∧ ∀ q : Nat, AW G κ cs ss h L [.ref q] σ1) (hst : (st.map fun v => v.category).sum ≤ 8) (hσ : σ b = some (.inr (9, fs))) (body : ∀ κ2 : Kx, Ok G κ2 mX12_speed d (KV G κ cs ss 7 L st) X2 → AW G κ2 mc ms 0 [some (.inr (some b)), some (.inl p0)] [] σ) : AW G κ (cs + mc) (ss + ms) 4 L (.int p0 :: .ref b :: st) σ := aw_invVH hΓ (M2 := mX12_speed) [.inl p0] mc ms X2 hX okX12_speed ckX12 rfl q1009 q1010 q1008 rfl (Nat.le_of_ble_eq_true rfl) hst dL_speed_4 hσ body
theorem cL_speed_0 {κ : Kx} (hN : NcK κ) : CatchAt κ mL_speed 4 "java/lang/IndexOutOfBoundsException" 12 := by
  obtain ⟨p, l, e, R, s, m, args, below, meth, c, Z⟩ := κ
  have hN : NcS s := hN
  exact ⟨[], ⟨0, 9, 12, 19⟩, [], "java/lang/IndexOutOfBoundsException", rfl, (fun z hz => by cases hz), rfl, by decide, q932, hN.2.2.2, rfl⟩
theorem wL_speed {G : Gl} {κ : Kx} {d : Nat} {Q : Option Value → Hp → Prop} {X : String → Hp → Prop} {cs ss : Nat} {σ : Hp} {x o : Nat} {p0 : Int32} {fs : List Value} {f : Nat → Int64} (hΓ : Ok G κ mL_speed (d + 1) Q X) (hN : NcK κ) (mc ms : Nat) (hx : σ x = some (.inr (9, fs))) (RT : Int32 → Hp → Prop) (TH : String → Hp → Prop) (body : ∀ (κ2 : Kx) (Q2 : Option Value → Hp → Prop) (X2 : String → Hp → Prop), Ok G κ2 mX12_speed d Q2 X2 → (∀ v σ1, RT v σ1 → Q2 (some (.int v)) σ1) → (∀ E σ1, TH E σ1 → X2 E σ1) → AW G κ2 mc ms 0 [lR x, lI p0] [] σ) (hR : ∀ v σ1, RT v σ1 → σ1 o = some (eL G 1 f) ∧ Q (some (.int 0)) (hset σ1 o (eL G 1 (vp_updL f 0 v.toInt64)))) (hT : ∀ E σ1, TH E σ1 → (E = "java/lang/IndexOutOfBoundsException" ∧ Q (some (.int 1)) σ1)) : AW G κ (cs + mc) (ss + ms) 0 [lR x, lI p0, lR o, none] [] σ := by
  refine sL_speed_0 hΓ rfl ?_
  refine sL_speed_1 hΓ ?_
  refine sL_speed_2 hΓ rfl ?_
  refine sL_speed_3 hΓ rfl ?_
  suffices after : ∀ (v : Int32) (σ1 : Hp), RT v σ1 → AW G κ cs ss 7 [lR x, lI p0, lR o, none] [.int v, .int 0, .ref o] σ1 by
    refine sL_speed_4 hΓ mc ms TH (fun E σ1 hE => ?_) (Nat.le_of_ble_eq_true rfl) hx (fun κ2 hok => body κ2 _ _ hok (fun v σ1 hv => after v σ1 hv) (fun E σ1 hE => hE))
    rcases hT E σ1 hE with ⟨rfl, hq⟩
    · refine ⟨12, cL_speed_0 hN, fun q9 => ?_⟩
      refine sL_speed_12 hΓ ?_
      refine sL_speed_13 hΓ ?_
      exact sL_speed_14 hΓ hq
  intro v σ1 hv
  obtain ⟨ho, hq⟩ := hR v σ1 hv
  refine sL_speed_7 hΓ ?_
  refine sL_speed_8 hΓ ho (j := 0) rfl (by decide) (by decide) ?_
  refine sL_speed_9 hΓ ?_
  refine sL_speed_15 hΓ ?_
  exact sL_speed_16 hΓ hq
theorem q1014 : Cond.codeWith yL_targetSpeed cL_targetSpeed (4) (Option.some FieldType.int) (mH mL_targetSpeed) ∈ lw_tbl := List.mem_of_getElem? (i := 1014) (by decide +kernel)
theorem q1015 : Cond.methodLink "TrainDecoderLaw" (39) ⟨"TrainDecoder", "targetSpeed", "(I)I"⟩ ∈ lw_tbl := List.mem_of_getElem? (i := 1015) (by decide +kernel)
theorem q1016 : Cond.instanceMethod ⟨"TrainDecoder", "targetSpeed", "(I)I"⟩ ∈ lw_tbl := List.mem_of_getElem? (i := 1016) (by decide +kernel)
theorem q1017 : Cond.selects "TrainDecoder" ⟨"TrainDecoder", "targetSpeed", "(I)I"⟩ ⟨"TrainDecoder", "targetSpeed", "(I)I"⟩ ∈ lw_tbl := List.mem_of_getElem? (i := 1017) (by decide +kernel)
theorem okL_targetSpeed : MOkH mL_targetSpeed 3 := ⟨by decide +kernel, q1014, q108, ⟨by decide +kernel, by decide +kernel⟩, by decide +kernel, by decide +kernel⟩
theorem sL_targetSpeed_4 {G : Gl} {κ : Kx} {d : Nat} {Q : Option Value → Hp → Prop} {X : String → Hp → Prop} {cs ss : Nat} {L : List (Option LV)} {st : List Value} {σ : Hp} {b : Nat} {fs : List Value} {p0 : Int32} (hΓ : Ok G κ mL_targetSpeed (d + 1) Q X) (mc ms : Nat) (X2 : String → Hp → Prop) (hX : ∀ (E : String) (σ1 : Hp), X2 E σ1 → ∃ h, CatchAt κ mL_targetSpeed 4 E h ∧ ∀ q : Nat, AW G κ cs ss h L [.ref q] σ1) (hst : (st.map fun v => v.category).sum ≤ 8) (hσ : σ b = some (.inr (9, fs))) (body : ∀ κ2 : Kx, Ok G κ2 mX12_targetSpeed d (KV G κ cs ss 7 L st) X2 → AW G κ2 mc ms 0 [some (.inr (some b)), some (.inl p0)] [] σ) : AW G κ (cs + mc) (ss + ms) 4 L (.int p0 :: .ref b :: st) σ := aw_invVH hΓ (M2 := mX12_targetSpeed) [.inl p0] mc ms X2 hX okX12_targetSpeed ckX12 rfl q1016 q1017 q1015 rfl (Nat.le_of_ble_eq_true rfl) hst dL_targetSpeed_4 hσ body
theorem cL_targetSpeed_0 {κ : Kx} (hN : NcK κ) : CatchAt κ mL_targetSpeed 4 "java/lang/IndexOutOfBoundsException" 12 := by
  obtain ⟨p, l, e, R, s, m, args, below, meth, c, Z⟩ := κ
  have hN : NcS s := hN
  exact ⟨[], ⟨0, 9, 12, 19⟩, [], "java/lang/IndexOutOfBoundsException", rfl, (fun z hz => by cases hz), rfl, by decide, q932, hN.2.2.2, rfl⟩
theorem wL_targetSpeed {G : Gl} {κ : Kx} {d : Nat} {Q : Option Value → Hp → Prop} {X : String → Hp → Prop} {cs ss : Nat} {σ : Hp} {x o : Nat} {p0 : Int32} {fs : List Value} {f : Nat → Int64} (hΓ : Ok G κ mL_targetSpeed (d + 1) Q X) (hN : NcK κ) (mc ms : Nat) (hx : σ x = some (.inr (9, fs))) (RT : Int32 → Hp → Prop) (TH : String → Hp → Prop) (body : ∀ (κ2 : Kx) (Q2 : Option Value → Hp → Prop) (X2 : String → Hp → Prop), Ok G κ2 mX12_targetSpeed d Q2 X2 → (∀ v σ1, RT v σ1 → Q2 (some (.int v)) σ1) → (∀ E σ1, TH E σ1 → X2 E σ1) → AW G κ2 mc ms 0 [lR x, lI p0] [] σ) (hR : ∀ v σ1, RT v σ1 → σ1 o = some (eL G 1 f) ∧ Q (some (.int 0)) (hset σ1 o (eL G 1 (vp_updL f 0 v.toInt64)))) (hT : ∀ E σ1, TH E σ1 → (E = "java/lang/IndexOutOfBoundsException" ∧ Q (some (.int 1)) σ1)) : AW G κ (cs + mc) (ss + ms) 0 [lR x, lI p0, lR o, none] [] σ := by
  refine sL_targetSpeed_0 hΓ rfl ?_
  refine sL_targetSpeed_1 hΓ ?_
  refine sL_targetSpeed_2 hΓ rfl ?_
  refine sL_targetSpeed_3 hΓ rfl ?_
  suffices after : ∀ (v : Int32) (σ1 : Hp), RT v σ1 → AW G κ cs ss 7 [lR x, lI p0, lR o, none] [.int v, .int 0, .ref o] σ1 by
    refine sL_targetSpeed_4 hΓ mc ms TH (fun E σ1 hE => ?_) (Nat.le_of_ble_eq_true rfl) hx (fun κ2 hok => body κ2 _ _ hok (fun v σ1 hv => after v σ1 hv) (fun E σ1 hE => hE))
    rcases hT E σ1 hE with ⟨rfl, hq⟩
    · refine ⟨12, cL_targetSpeed_0 hN, fun q9 => ?_⟩
      refine sL_targetSpeed_12 hΓ ?_
      refine sL_targetSpeed_13 hΓ ?_
      exact sL_targetSpeed_14 hΓ hq
  intro v σ1 hv
  obtain ⟨ho, hq⟩ := hR v σ1 hv
  refine sL_targetSpeed_7 hΓ ?_
  refine sL_targetSpeed_8 hΓ ho (j := 0) rfl (by decide) (by decide) ?_
  refine sL_targetSpeed_9 hΓ ?_
  refine sL_targetSpeed_15 hΓ ?_
  exact sL_targetSpeed_16 hΓ hq
theorem q1021 : Cond.codeWith yL_brightness cL_brightness (4) (Option.some FieldType.int) (mH mL_brightness) ∈ lw_tbl := List.mem_of_getElem? (i := 1021) (by decide +kernel)
theorem q1022 : Cond.methodLink "TrainDecoderLaw" (42) ⟨"TrainDecoder", "brightness", "(I)I"⟩ ∈ lw_tbl := List.mem_of_getElem? (i := 1022) (by decide +kernel)
theorem q1023 : Cond.instanceMethod ⟨"TrainDecoder", "brightness", "(I)I"⟩ ∈ lw_tbl := List.mem_of_getElem? (i := 1023) (by decide +kernel)
theorem q1024 : Cond.selects "TrainDecoder" ⟨"TrainDecoder", "brightness", "(I)I"⟩ ⟨"TrainDecoder", "brightness", "(I)I"⟩ ∈ lw_tbl := List.mem_of_getElem? (i := 1024) (by decide +kernel)
theorem okL_brightness : MOkH mL_brightness 3 := ⟨by decide +kernel, q1021, q108, ⟨by decide +kernel, by decide +kernel⟩, by decide +kernel, by decide +kernel⟩
theorem sL_brightness_4 {G : Gl} {κ : Kx} {d : Nat} {Q : Option Value → Hp → Prop} {X : String → Hp → Prop} {cs ss : Nat} {L : List (Option LV)} {st : List Value} {σ : Hp} {b : Nat} {fs : List Value} {p0 : Int32} (hΓ : Ok G κ mL_brightness (d + 1) Q X) (mc ms : Nat) (X2 : String → Hp → Prop) (hX : ∀ (E : String) (σ1 : Hp), X2 E σ1 → ∃ h, CatchAt κ mL_brightness 4 E h ∧ ∀ q : Nat, AW G κ cs ss h L [.ref q] σ1) (hst : (st.map fun v => v.category).sum ≤ 8) (hσ : σ b = some (.inr (9, fs))) (body : ∀ κ2 : Kx, Ok G κ2 mX12_brightness d (KV G κ cs ss 7 L st) X2 → AW G κ2 mc ms 0 [some (.inr (some b)), some (.inl p0)] [] σ) : AW G κ (cs + mc) (ss + ms) 4 L (.int p0 :: .ref b :: st) σ := aw_invVH hΓ (M2 := mX12_brightness) [.inl p0] mc ms X2 hX okX12_brightness ckX12 rfl q1023 q1024 q1022 rfl (Nat.le_of_ble_eq_true rfl) hst dL_brightness_4 hσ body
theorem cL_brightness_0 {κ : Kx} (hN : NcK κ) : CatchAt κ mL_brightness 4 "java/lang/IndexOutOfBoundsException" 12 := by
  obtain ⟨p, l, e, R, s, m, args, below, meth, c, Z⟩ := κ
  have hN : NcS s := hN
  exact ⟨[], ⟨0, 9, 12, 19⟩, [], "java/lang/IndexOutOfBoundsException", rfl, (fun z hz => by cases hz), rfl, by decide, q932, hN.2.2.2, rfl⟩
theorem wL_brightness {G : Gl} {κ : Kx} {d : Nat} {Q : Option Value → Hp → Prop} {X : String → Hp → Prop} {cs ss : Nat} {σ : Hp} {x o : Nat} {p0 : Int32} {fs : List Value} {f : Nat → Int64} (hΓ : Ok G κ mL_brightness (d + 1) Q X) (hN : NcK κ) (mc ms : Nat) (hx : σ x = some (.inr (9, fs))) (RT : Int32 → Hp → Prop) (TH : String → Hp → Prop) (body : ∀ (κ2 : Kx) (Q2 : Option Value → Hp → Prop) (X2 : String → Hp → Prop), Ok G κ2 mX12_brightness d Q2 X2 → (∀ v σ1, RT v σ1 → Q2 (some (.int v)) σ1) → (∀ E σ1, TH E σ1 → X2 E σ1) → AW G κ2 mc ms 0 [lR x, lI p0] [] σ) (hR : ∀ v σ1, RT v σ1 → σ1 o = some (eL G 1 f) ∧ Q (some (.int 0)) (hset σ1 o (eL G 1 (vp_updL f 0 v.toInt64)))) (hT : ∀ E σ1, TH E σ1 → (E = "java/lang/IndexOutOfBoundsException" ∧ Q (some (.int 1)) σ1)) : AW G κ (cs + mc) (ss + ms) 0 [lR x, lI p0, lR o, none] [] σ := by
  refine sL_brightness_0 hΓ rfl ?_
  refine sL_brightness_1 hΓ ?_
  refine sL_brightness_2 hΓ rfl ?_
  refine sL_brightness_3 hΓ rfl ?_
  suffices after : ∀ (v : Int32) (σ1 : Hp), RT v σ1 → AW G κ cs ss 7 [lR x, lI p0, lR o, none] [.int v, .int 0, .ref o] σ1 by
    refine sL_brightness_4 hΓ mc ms TH (fun E σ1 hE => ?_) (Nat.le_of_ble_eq_true rfl) hx (fun κ2 hok => body κ2 _ _ hok (fun v σ1 hv => after v σ1 hv) (fun E σ1 hE => hE))
    rcases hT E σ1 hE with ⟨rfl, hq⟩
    · refine ⟨12, cL_brightness_0 hN, fun q9 => ?_⟩
      refine sL_brightness_12 hΓ ?_
      refine sL_brightness_13 hΓ ?_
      exact sL_brightness_14 hΓ hq
  intro v σ1 hv
  obtain ⟨ho, hq⟩ := hR v σ1 hv
  refine sL_brightness_7 hΓ ?_
  refine sL_brightness_8 hΓ ho (j := 0) rfl (by decide) (by decide) ?_
  refine sL_brightness_9 hΓ ?_
  refine sL_brightness_15 hΓ ?_
  exact sL_brightness_16 hΓ hq
theorem q1028 : Cond.codeWith yL_duty cL_duty (4) (Option.some FieldType.int) (mH mL_duty) ∈ lw_tbl := List.mem_of_getElem? (i := 1028) (by decide +kernel)
theorem q1029 : Cond.methodLink "TrainDecoderLaw" (45) ⟨"TrainDecoder", "duty", "(I)I"⟩ ∈ lw_tbl := List.mem_of_getElem? (i := 1029) (by decide +kernel)
theorem q1030 : Cond.instanceMethod ⟨"TrainDecoder", "duty", "(I)I"⟩ ∈ lw_tbl := List.mem_of_getElem? (i := 1030) (by decide +kernel)
theorem q1031 : Cond.selects "TrainDecoder" ⟨"TrainDecoder", "duty", "(I)I"⟩ ⟨"TrainDecoder", "duty", "(I)I"⟩ ∈ lw_tbl := List.mem_of_getElem? (i := 1031) (by decide +kernel)
theorem okL_duty : MOkH mL_duty 3 := ⟨by decide +kernel, q1028, q108, ⟨by decide +kernel, by decide +kernel⟩, by decide +kernel, by decide +kernel⟩
theorem sL_duty_4 {G : Gl} {κ : Kx} {d : Nat} {Q : Option Value → Hp → Prop} {X : String → Hp → Prop} {cs ss : Nat} {L : List (Option LV)} {st : List Value} {σ : Hp} {b : Nat} {fs : List Value} {p0 : Int32} (hΓ : Ok G κ mL_duty (d + 1) Q X) (mc ms : Nat) (X2 : String → Hp → Prop) (hX : ∀ (E : String) (σ1 : Hp), X2 E σ1 → ∃ h, CatchAt κ mL_duty 4 E h ∧ ∀ q : Nat, AW G κ cs ss h L [.ref q] σ1) (hst : (st.map fun v => v.category).sum ≤ 8) (hσ : σ b = some (.inr (9, fs))) (body : ∀ κ2 : Kx, Ok G κ2 mX12_duty d (KV G κ cs ss 7 L st) X2 → AW G κ2 mc ms 0 [some (.inr (some b)), some (.inl p0)] [] σ) : AW G κ (cs + mc) (ss + ms) 4 L (.int p0 :: .ref b :: st) σ := aw_invVH hΓ (M2 := mX12_duty) [.inl p0] mc ms X2 hX okX12_duty ckX12 rfl q1030 q1031 q1029 rfl (Nat.le_of_ble_eq_true rfl) hst dL_duty_4 hσ body
theorem cL_duty_0 {κ : Kx} (hN : NcK κ) : CatchAt κ mL_duty 4 "java/lang/IndexOutOfBoundsException" 12 := by
  obtain ⟨p, l, e, R, s, m, args, below, meth, c, Z⟩ := κ
  have hN : NcS s := hN
  exact ⟨[], ⟨0, 9, 12, 19⟩, [], "java/lang/IndexOutOfBoundsException", rfl, (fun z hz => by cases hz), rfl, by decide, q932, hN.2.2.2, rfl⟩
theorem wL_duty {G : Gl} {κ : Kx} {d : Nat} {Q : Option Value → Hp → Prop} {X : String → Hp → Prop} {cs ss : Nat} {σ : Hp} {x o : Nat} {p0 : Int32} {fs : List Value} {f : Nat → Int64} (hΓ : Ok G κ mL_duty (d + 1) Q X) (hN : NcK κ) (mc ms : Nat) (hx : σ x = some (.inr (9, fs))) (RT : Int32 → Hp → Prop) (TH : String → Hp → Prop) (body : ∀ (κ2 : Kx) (Q2 : Option Value → Hp → Prop) (X2 : String → Hp → Prop), Ok G κ2 mX12_duty d Q2 X2 → (∀ v σ1, RT v σ1 → Q2 (some (.int v)) σ1) → (∀ E σ1, TH E σ1 → X2 E σ1) → AW G κ2 mc ms 0 [lR x, lI p0] [] σ) (hR : ∀ v σ1, RT v σ1 → σ1 o = some (eL G 1 f) ∧ Q (some (.int 0)) (hset σ1 o (eL G 1 (vp_updL f 0 v.toInt64)))) (hT : ∀ E σ1, TH E σ1 → (E = "java/lang/IndexOutOfBoundsException" ∧ Q (some (.int 1)) σ1)) : AW G κ (cs + mc) (ss + ms) 0 [lR x, lI p0, lR o, none] [] σ := by
  refine sL_duty_0 hΓ rfl ?_
  refine sL_duty_1 hΓ ?_
  refine sL_duty_2 hΓ rfl ?_
  refine sL_duty_3 hΓ rfl ?_
  suffices after : ∀ (v : Int32) (σ1 : Hp), RT v σ1 → AW G κ cs ss 7 [lR x, lI p0, lR o, none] [.int v, .int 0, .ref o] σ1 by
    refine sL_duty_4 hΓ mc ms TH (fun E σ1 hE => ?_) (Nat.le_of_ble_eq_true rfl) hx (fun κ2 hok => body κ2 _ _ hok (fun v σ1 hv => after v σ1 hv) (fun E σ1 hE => hE))
    rcases hT E σ1 hE with ⟨rfl, hq⟩
    · refine ⟨12, cL_duty_0 hN, fun q9 => ?_⟩
      refine sL_duty_12 hΓ ?_
      refine sL_duty_13 hΓ ?_
      exact sL_duty_14 hΓ hq
  intro v σ1 hv
  obtain ⟨ho, hq⟩ := hR v σ1 hv
  refine sL_duty_7 hΓ ?_
  refine sL_duty_8 hΓ ho (j := 0) rfl (by decide) (by decide) ?_
  refine sL_duty_9 hΓ ?_
  refine sL_duty_15 hΓ ?_
  exact sL_duty_16 hΓ hq
theorem q1035 : Cond.codeWith yL_silence cL_silence (4) (Option.some FieldType.int) (mH mL_silence) ∈ lw_tbl := List.mem_of_getElem? (i := 1035) (by decide +kernel)
theorem q1036 : Cond.methodLink "TrainDecoderLaw" (48) ⟨"TrainDecoder", "silence", "(I)I"⟩ ∈ lw_tbl := List.mem_of_getElem? (i := 1036) (by decide +kernel)
theorem q1037 : Cond.instanceMethod ⟨"TrainDecoder", "silence", "(I)I"⟩ ∈ lw_tbl := List.mem_of_getElem? (i := 1037) (by decide +kernel)
theorem q1038 : Cond.selects "TrainDecoder" ⟨"TrainDecoder", "silence", "(I)I"⟩ ⟨"TrainDecoder", "silence", "(I)I"⟩ ∈ lw_tbl := List.mem_of_getElem? (i := 1038) (by decide +kernel)
theorem okL_silence : MOkH mL_silence 3 := ⟨by decide +kernel, q1035, q108, ⟨by decide +kernel, by decide +kernel⟩, by decide +kernel, by decide +kernel⟩
theorem sL_silence_4 {G : Gl} {κ : Kx} {d : Nat} {Q : Option Value → Hp → Prop} {X : String → Hp → Prop} {cs ss : Nat} {L : List (Option LV)} {st : List Value} {σ : Hp} {b : Nat} {fs : List Value} {p0 : Int32} (hΓ : Ok G κ mL_silence (d + 1) Q X) (mc ms : Nat) (X2 : String → Hp → Prop) (hX : ∀ (E : String) (σ1 : Hp), X2 E σ1 → ∃ h, CatchAt κ mL_silence 4 E h ∧ ∀ q : Nat, AW G κ cs ss h L [.ref q] σ1) (hst : (st.map fun v => v.category).sum ≤ 8) (hσ : σ b = some (.inr (9, fs))) (body : ∀ κ2 : Kx, Ok G κ2 mX12_silence d (KV G κ cs ss 7 L st) X2 → AW G κ2 mc ms 0 [some (.inr (some b)), some (.inl p0)] [] σ) : AW G κ (cs + mc) (ss + ms) 4 L (.int p0 :: .ref b :: st) σ := aw_invVH hΓ (M2 := mX12_silence) [.inl p0] mc ms X2 hX okX12_silence ckX12 rfl q1037 q1038 q1036 rfl (Nat.le_of_ble_eq_true rfl) hst dL_silence_4 hσ body
theorem cL_silence_0 {κ : Kx} (hN : NcK κ) : CatchAt κ mL_silence 4 "java/lang/IndexOutOfBoundsException" 12 := by
  obtain ⟨p, l, e, R, s, m, args, below, meth, c, Z⟩ := κ
  have hN : NcS s := hN
  exact ⟨[], ⟨0, 9, 12, 19⟩, [], "java/lang/IndexOutOfBoundsException", rfl, (fun z hz => by cases hz), rfl, by decide, q932, hN.2.2.2, rfl⟩
theorem wL_silence {G : Gl} {κ : Kx} {d : Nat} {Q : Option Value → Hp → Prop} {X : String → Hp → Prop} {cs ss : Nat} {σ : Hp} {x o : Nat} {p0 : Int32} {fs : List Value} {f : Nat → Int64} (hΓ : Ok G κ mL_silence (d + 1) Q X) (hN : NcK κ) (mc ms : Nat) (hx : σ x = some (.inr (9, fs))) (RT : Int32 → Hp → Prop) (TH : String → Hp → Prop) (body : ∀ (κ2 : Kx) (Q2 : Option Value → Hp → Prop) (X2 : String → Hp → Prop), Ok G κ2 mX12_silence d Q2 X2 → (∀ v σ1, RT v σ1 → Q2 (some (.int v)) σ1) → (∀ E σ1, TH E σ1 → X2 E σ1) → AW G κ2 mc ms 0 [lR x, lI p0] [] σ) (hR : ∀ v σ1, RT v σ1 → σ1 o = some (eL G 1 f) ∧ Q (some (.int 0)) (hset σ1 o (eL G 1 (vp_updL f 0 v.toInt64)))) (hT : ∀ E σ1, TH E σ1 → (E = "java/lang/IndexOutOfBoundsException" ∧ Q (some (.int 1)) σ1)) : AW G κ (cs + mc) (ss + ms) 0 [lR x, lI p0, lR o, none] [] σ := by
  refine sL_silence_0 hΓ rfl ?_
  refine sL_silence_1 hΓ ?_
  refine sL_silence_2 hΓ rfl ?_
  refine sL_silence_3 hΓ rfl ?_
  suffices after : ∀ (v : Int32) (σ1 : Hp), RT v σ1 → AW G κ cs ss 7 [lR x, lI p0, lR o, none] [.int v, .int 0, .ref o] σ1 by
    refine sL_silence_4 hΓ mc ms TH (fun E σ1 hE => ?_) (Nat.le_of_ble_eq_true rfl) hx (fun κ2 hok => body κ2 _ _ hok (fun v σ1 hv => after v σ1 hv) (fun E σ1 hE => hE))
    rcases hT E σ1 hE with ⟨rfl, hq⟩
    · refine ⟨12, cL_silence_0 hN, fun q9 => ?_⟩
      refine sL_silence_12 hΓ ?_
      refine sL_silence_13 hΓ ?_
      exact sL_silence_14 hΓ hq
  intro v σ1 hv
  obtain ⟨ho, hq⟩ := hR v σ1 hv
  refine sL_silence_7 hΓ ?_
  refine sL_silence_8 hΓ ho (j := 0) rfl (by decide) (by decide) ?_
  refine sL_silence_9 hΓ ?_
  refine sL_silence_15 hΓ ?_
  exact sL_silence_16 hΓ hq
theorem q1042 : Cond.codeWith yL_sectionsEntered cL_sectionsEntered (4) (Option.some FieldType.int) (mH mL_sectionsEntered) ∈ lw_tbl := List.mem_of_getElem? (i := 1042) (by decide +kernel)
theorem q1043 : Cond.methodLink "TrainDecoderLaw" (51) ⟨"TrainDecoder", "sectionsEntered", "(I)I"⟩ ∈ lw_tbl := List.mem_of_getElem? (i := 1043) (by decide +kernel)
theorem q1044 : Cond.instanceMethod ⟨"TrainDecoder", "sectionsEntered", "(I)I"⟩ ∈ lw_tbl := List.mem_of_getElem? (i := 1044) (by decide +kernel)
theorem q1045 : Cond.selects "TrainDecoder" ⟨"TrainDecoder", "sectionsEntered", "(I)I"⟩ ⟨"TrainDecoder", "sectionsEntered", "(I)I"⟩ ∈ lw_tbl := List.mem_of_getElem? (i := 1045) (by decide +kernel)
theorem okL_sectionsEntered : MOkH mL_sectionsEntered 3 := ⟨by decide +kernel, q1042, q108, ⟨by decide +kernel, by decide +kernel⟩, by decide +kernel, by decide +kernel⟩
theorem sL_sectionsEntered_4 {G : Gl} {κ : Kx} {d : Nat} {Q : Option Value → Hp → Prop} {X : String → Hp → Prop} {cs ss : Nat} {L : List (Option LV)} {st : List Value} {σ : Hp} {b : Nat} {fs : List Value} {p0 : Int32} (hΓ : Ok G κ mL_sectionsEntered (d + 1) Q X) (mc ms : Nat) (X2 : String → Hp → Prop) (hX : ∀ (E : String) (σ1 : Hp), X2 E σ1 → ∃ h, CatchAt κ mL_sectionsEntered 4 E h ∧ ∀ q : Nat, AW G κ cs ss h L [.ref q] σ1) (hst : (st.map fun v => v.category).sum ≤ 8) (hσ : σ b = some (.inr (9, fs))) (body : ∀ κ2 : Kx, Ok G κ2 mX12_sectionsEntered d (KV G κ cs ss 7 L st) X2 → AW G κ2 mc ms 0 [some (.inr (some b)), some (.inl p0)] [] σ) : AW G κ (cs + mc) (ss + ms) 4 L (.int p0 :: .ref b :: st) σ := aw_invVH hΓ (M2 := mX12_sectionsEntered) [.inl p0] mc ms X2 hX okX12_sectionsEntered ckX12 rfl q1044 q1045 q1043 rfl (Nat.le_of_ble_eq_true rfl) hst dL_sectionsEntered_4 hσ body
theorem cL_sectionsEntered_0 {κ : Kx} (hN : NcK κ) : CatchAt κ mL_sectionsEntered 4 "java/lang/IndexOutOfBoundsException" 12 := by
  obtain ⟨p, l, e, R, s, m, args, below, meth, c, Z⟩ := κ
  have hN : NcS s := hN
  exact ⟨[], ⟨0, 9, 12, 19⟩, [], "java/lang/IndexOutOfBoundsException", rfl, (fun z hz => by cases hz), rfl, by decide, q932, hN.2.2.2, rfl⟩
theorem wL_sectionsEntered {G : Gl} {κ : Kx} {d : Nat} {Q : Option Value → Hp → Prop} {X : String → Hp → Prop} {cs ss : Nat} {σ : Hp} {x o : Nat} {p0 : Int32} {fs : List Value} {f : Nat → Int64} (hΓ : Ok G κ mL_sectionsEntered (d + 1) Q X) (hN : NcK κ) (mc ms : Nat) (hx : σ x = some (.inr (9, fs))) (RT : Int32 → Hp → Prop) (TH : String → Hp → Prop) (body : ∀ (κ2 : Kx) (Q2 : Option Value → Hp → Prop) (X2 : String → Hp → Prop), Ok G κ2 mX12_sectionsEntered d Q2 X2 → (∀ v σ1, RT v σ1 → Q2 (some (.int v)) σ1) → (∀ E σ1, TH E σ1 → X2 E σ1) → AW G κ2 mc ms 0 [lR x, lI p0] [] σ) (hR : ∀ v σ1, RT v σ1 → σ1 o = some (eL G 1 f) ∧ Q (some (.int 0)) (hset σ1 o (eL G 1 (vp_updL f 0 v.toInt64)))) (hT : ∀ E σ1, TH E σ1 → (E = "java/lang/IndexOutOfBoundsException" ∧ Q (some (.int 1)) σ1)) : AW G κ (cs + mc) (ss + ms) 0 [lR x, lI p0, lR o, none] [] σ := by
  refine sL_sectionsEntered_0 hΓ rfl ?_
  refine sL_sectionsEntered_1 hΓ ?_
  refine sL_sectionsEntered_2 hΓ rfl ?_
  refine sL_sectionsEntered_3 hΓ rfl ?_
  suffices after : ∀ (v : Int32) (σ1 : Hp), RT v σ1 → AW G κ cs ss 7 [lR x, lI p0, lR o, none] [.int v, .int 0, .ref o] σ1 by
    refine sL_sectionsEntered_4 hΓ mc ms TH (fun E σ1 hE => ?_) (Nat.le_of_ble_eq_true rfl) hx (fun κ2 hok => body κ2 _ _ hok (fun v σ1 hv => after v σ1 hv) (fun E σ1 hE => hE))
    rcases hT E σ1 hE with ⟨rfl, hq⟩
    · refine ⟨12, cL_sectionsEntered_0 hN, fun q9 => ?_⟩
      refine sL_sectionsEntered_12 hΓ ?_
      refine sL_sectionsEntered_13 hΓ ?_
      exact sL_sectionsEntered_14 hΓ hq
  intro v σ1 hv
  obtain ⟨ho, hq⟩ := hR v σ1 hv
  refine sL_sectionsEntered_7 hΓ ?_
  refine sL_sectionsEntered_8 hΓ ho (j := 0) rfl (by decide) (by decide) ?_
  refine sL_sectionsEntered_9 hΓ ?_
  refine sL_sectionsEntered_15 hΓ ?_
  exact sL_sectionsEntered_16 hΓ hq
theorem q1049 : Cond.codeWith yL_obeyed cL_obeyed (4) (Option.some FieldType.int) (mH mL_obeyed) ∈ lw_tbl := List.mem_of_getElem? (i := 1049) (by decide +kernel)
theorem q1050 : Cond.methodLink "TrainDecoderLaw" (54) ⟨"TrainDecoder", "obeyed", "(I)I"⟩ ∈ lw_tbl := List.mem_of_getElem? (i := 1050) (by decide +kernel)
theorem q1051 : Cond.instanceMethod ⟨"TrainDecoder", "obeyed", "(I)I"⟩ ∈ lw_tbl := List.mem_of_getElem? (i := 1051) (by decide +kernel)
theorem q1052 : Cond.selects "TrainDecoder" ⟨"TrainDecoder", "obeyed", "(I)I"⟩ ⟨"TrainDecoder", "obeyed", "(I)I"⟩ ∈ lw_tbl := List.mem_of_getElem? (i := 1052) (by decide +kernel)
theorem okL_obeyed : MOkH mL_obeyed 3 := ⟨by decide +kernel, q1049, q108, ⟨by decide +kernel, by decide +kernel⟩, by decide +kernel, by decide +kernel⟩
theorem sL_obeyed_4 {G : Gl} {κ : Kx} {d : Nat} {Q : Option Value → Hp → Prop} {X : String → Hp → Prop} {cs ss : Nat} {L : List (Option LV)} {st : List Value} {σ : Hp} {b : Nat} {fs : List Value} {p0 : Int32} (hΓ : Ok G κ mL_obeyed (d + 1) Q X) (mc ms : Nat) (X2 : String → Hp → Prop) (hX : ∀ (E : String) (σ1 : Hp), X2 E σ1 → ∃ h, CatchAt κ mL_obeyed 4 E h ∧ ∀ q : Nat, AW G κ cs ss h L [.ref q] σ1) (hst : (st.map fun v => v.category).sum ≤ 8) (hσ : σ b = some (.inr (9, fs))) (body : ∀ κ2 : Kx, Ok G κ2 mX12_obeyed d (KV G κ cs ss 7 L st) X2 → AW G κ2 mc ms 0 [some (.inr (some b)), some (.inl p0)] [] σ) : AW G κ (cs + mc) (ss + ms) 4 L (.int p0 :: .ref b :: st) σ := aw_invVH hΓ (M2 := mX12_obeyed) [.inl p0] mc ms X2 hX okX12_obeyed ckX12 rfl q1051 q1052 q1050 rfl (Nat.le_of_ble_eq_true rfl) hst dL_obeyed_4 hσ body
theorem cL_obeyed_0 {κ : Kx} (hN : NcK κ) : CatchAt κ mL_obeyed 4 "java/lang/IndexOutOfBoundsException" 12 := by
  obtain ⟨p, l, e, R, s, m, args, below, meth, c, Z⟩ := κ
  have hN : NcS s := hN
  exact ⟨[], ⟨0, 9, 12, 19⟩, [], "java/lang/IndexOutOfBoundsException", rfl, (fun z hz => by cases hz), rfl, by decide, q932, hN.2.2.2, rfl⟩
theorem wL_obeyed {G : Gl} {κ : Kx} {d : Nat} {Q : Option Value → Hp → Prop} {X : String → Hp → Prop} {cs ss : Nat} {σ : Hp} {x o : Nat} {p0 : Int32} {fs : List Value} {f : Nat → Int64} (hΓ : Ok G κ mL_obeyed (d + 1) Q X) (hN : NcK κ) (mc ms : Nat) (hx : σ x = some (.inr (9, fs))) (RT : Int32 → Hp → Prop) (TH : String → Hp → Prop) (body : ∀ (κ2 : Kx) (Q2 : Option Value → Hp → Prop) (X2 : String → Hp → Prop), Ok G κ2 mX12_obeyed d Q2 X2 → (∀ v σ1, RT v σ1 → Q2 (some (.int v)) σ1) → (∀ E σ1, TH E σ1 → X2 E σ1) → AW G κ2 mc ms 0 [lR x, lI p0] [] σ) (hR : ∀ v σ1, RT v σ1 → σ1 o = some (eL G 1 f) ∧ Q (some (.int 0)) (hset σ1 o (eL G 1 (vp_updL f 0 v.toInt64)))) (hT : ∀ E σ1, TH E σ1 → (E = "java/lang/IndexOutOfBoundsException" ∧ Q (some (.int 1)) σ1)) : AW G κ (cs + mc) (ss + ms) 0 [lR x, lI p0, lR o, none] [] σ := by
  refine sL_obeyed_0 hΓ rfl ?_
  refine sL_obeyed_1 hΓ ?_
  refine sL_obeyed_2 hΓ rfl ?_
  refine sL_obeyed_3 hΓ rfl ?_
  suffices after : ∀ (v : Int32) (σ1 : Hp), RT v σ1 → AW G κ cs ss 7 [lR x, lI p0, lR o, none] [.int v, .int 0, .ref o] σ1 by
    refine sL_obeyed_4 hΓ mc ms TH (fun E σ1 hE => ?_) (Nat.le_of_ble_eq_true rfl) hx (fun κ2 hok => body κ2 _ _ hok (fun v σ1 hv => after v σ1 hv) (fun E σ1 hE => hE))
    rcases hT E σ1 hE with ⟨rfl, hq⟩
    · refine ⟨12, cL_obeyed_0 hN, fun q9 => ?_⟩
      refine sL_obeyed_12 hΓ ?_
      refine sL_obeyed_13 hΓ ?_
      exact sL_obeyed_14 hΓ hq
  intro v σ1 hv
  obtain ⟨ho, hq⟩ := hR v σ1 hv
  refine sL_obeyed_7 hΓ ?_
  refine sL_obeyed_8 hΓ ho (j := 0) rfl (by decide) (by decide) ?_
  refine sL_obeyed_9 hΓ ?_
  refine sL_obeyed_15 hΓ ?_
  exact sL_obeyed_16 hΓ hq
theorem q1056 : Cond.codeWith yL_rejected cL_rejected (4) (Option.some FieldType.int) (mH mL_rejected) ∈ lw_tbl := List.mem_of_getElem? (i := 1056) (by decide +kernel)
theorem q1057 : Cond.methodLink "TrainDecoderLaw" (57) ⟨"TrainDecoder", "rejected", "(I)I"⟩ ∈ lw_tbl := List.mem_of_getElem? (i := 1057) (by decide +kernel)
theorem q1058 : Cond.instanceMethod ⟨"TrainDecoder", "rejected", "(I)I"⟩ ∈ lw_tbl := List.mem_of_getElem? (i := 1058) (by decide +kernel)
theorem q1059 : Cond.selects "TrainDecoder" ⟨"TrainDecoder", "rejected", "(I)I"⟩ ⟨"TrainDecoder", "rejected", "(I)I"⟩ ∈ lw_tbl := List.mem_of_getElem? (i := 1059) (by decide +kernel)
theorem okL_rejected : MOkH mL_rejected 3 := ⟨by decide +kernel, q1056, q108, ⟨by decide +kernel, by decide +kernel⟩, by decide +kernel, by decide +kernel⟩
theorem sL_rejected_4 {G : Gl} {κ : Kx} {d : Nat} {Q : Option Value → Hp → Prop} {X : String → Hp → Prop} {cs ss : Nat} {L : List (Option LV)} {st : List Value} {σ : Hp} {b : Nat} {fs : List Value} {p0 : Int32} (hΓ : Ok G κ mL_rejected (d + 1) Q X) (mc ms : Nat) (X2 : String → Hp → Prop) (hX : ∀ (E : String) (σ1 : Hp), X2 E σ1 → ∃ h, CatchAt κ mL_rejected 4 E h ∧ ∀ q : Nat, AW G κ cs ss h L [.ref q] σ1) (hst : (st.map fun v => v.category).sum ≤ 8) (hσ : σ b = some (.inr (9, fs))) (body : ∀ κ2 : Kx, Ok G κ2 mX12_rejected d (KV G κ cs ss 7 L st) X2 → AW G κ2 mc ms 0 [some (.inr (some b)), some (.inl p0)] [] σ) : AW G κ (cs + mc) (ss + ms) 4 L (.int p0 :: .ref b :: st) σ := aw_invVH hΓ (M2 := mX12_rejected) [.inl p0] mc ms X2 hX okX12_rejected ckX12 rfl q1058 q1059 q1057 rfl (Nat.le_of_ble_eq_true rfl) hst dL_rejected_4 hσ body
theorem cL_rejected_0 {κ : Kx} (hN : NcK κ) : CatchAt κ mL_rejected 4 "java/lang/IndexOutOfBoundsException" 12 := by
  obtain ⟨p, l, e, R, s, m, args, below, meth, c, Z⟩ := κ
  have hN : NcS s := hN
  exact ⟨[], ⟨0, 9, 12, 19⟩, [], "java/lang/IndexOutOfBoundsException", rfl, (fun z hz => by cases hz), rfl, by decide, q932, hN.2.2.2, rfl⟩
theorem wL_rejected {G : Gl} {κ : Kx} {d : Nat} {Q : Option Value → Hp → Prop} {X : String → Hp → Prop} {cs ss : Nat} {σ : Hp} {x o : Nat} {p0 : Int32} {fs : List Value} {f : Nat → Int64} (hΓ : Ok G κ mL_rejected (d + 1) Q X) (hN : NcK κ) (mc ms : Nat) (hx : σ x = some (.inr (9, fs))) (RT : Int32 → Hp → Prop) (TH : String → Hp → Prop) (body : ∀ (κ2 : Kx) (Q2 : Option Value → Hp → Prop) (X2 : String → Hp → Prop), Ok G κ2 mX12_rejected d Q2 X2 → (∀ v σ1, RT v σ1 → Q2 (some (.int v)) σ1) → (∀ E σ1, TH E σ1 → X2 E σ1) → AW G κ2 mc ms 0 [lR x, lI p0] [] σ) (hR : ∀ v σ1, RT v σ1 → σ1 o = some (eL G 1 f) ∧ Q (some (.int 0)) (hset σ1 o (eL G 1 (vp_updL f 0 v.toInt64)))) (hT : ∀ E σ1, TH E σ1 → (E = "java/lang/IndexOutOfBoundsException" ∧ Q (some (.int 1)) σ1)) : AW G κ (cs + mc) (ss + ms) 0 [lR x, lI p0, lR o, none] [] σ := by
  refine sL_rejected_0 hΓ rfl ?_
  refine sL_rejected_1 hΓ ?_
  refine sL_rejected_2 hΓ rfl ?_
  refine sL_rejected_3 hΓ rfl ?_
  suffices after : ∀ (v : Int32) (σ1 : Hp), RT v σ1 → AW G κ cs ss 7 [lR x, lI p0, lR o, none] [.int v, .int 0, .ref o] σ1 by
    refine sL_rejected_4 hΓ mc ms TH (fun E σ1 hE => ?_) (Nat.le_of_ble_eq_true rfl) hx (fun κ2 hok => body κ2 _ _ hok (fun v σ1 hv => after v σ1 hv) (fun E σ1 hE => hE))
    rcases hT E σ1 hE with ⟨rfl, hq⟩
    · refine ⟨12, cL_rejected_0 hN, fun q9 => ?_⟩
      refine sL_rejected_12 hΓ ?_
      refine sL_rejected_13 hΓ ?_
      exact sL_rejected_14 hΓ hq
  intro v σ1 hv
  obtain ⟨ho, hq⟩ := hR v σ1 hv
  refine sL_rejected_7 hΓ ?_
  refine sL_rejected_8 hΓ ho (j := 0) rfl (by decide) (by decide) ?_
  refine sL_rejected_9 hΓ ?_
  refine sL_rejected_15 hΓ ?_
  exact sL_rejected_16 hΓ hq
theorem q1063 : Cond.codeWith yL_unheard cL_unheard (4) (Option.some FieldType.int) (mH mL_unheard) ∈ lw_tbl := List.mem_of_getElem? (i := 1063) (by decide +kernel)
theorem q1064 : Cond.methodLink "TrainDecoderLaw" (60) ⟨"TrainDecoder", "unheard", "(I)I"⟩ ∈ lw_tbl := List.mem_of_getElem? (i := 1064) (by decide +kernel)
theorem q1065 : Cond.instanceMethod ⟨"TrainDecoder", "unheard", "(I)I"⟩ ∈ lw_tbl := List.mem_of_getElem? (i := 1065) (by decide +kernel)
theorem q1066 : Cond.selects "TrainDecoder" ⟨"TrainDecoder", "unheard", "(I)I"⟩ ⟨"TrainDecoder", "unheard", "(I)I"⟩ ∈ lw_tbl := List.mem_of_getElem? (i := 1066) (by decide +kernel)
theorem okL_unheard : MOkH mL_unheard 3 := ⟨by decide +kernel, q1063, q108, ⟨by decide +kernel, by decide +kernel⟩, by decide +kernel, by decide +kernel⟩
theorem sL_unheard_4 {G : Gl} {κ : Kx} {d : Nat} {Q : Option Value → Hp → Prop} {X : String → Hp → Prop} {cs ss : Nat} {L : List (Option LV)} {st : List Value} {σ : Hp} {b : Nat} {fs : List Value} {p0 : Int32} (hΓ : Ok G κ mL_unheard (d + 1) Q X) (mc ms : Nat) (X2 : String → Hp → Prop) (hX : ∀ (E : String) (σ1 : Hp), X2 E σ1 → ∃ h, CatchAt κ mL_unheard 4 E h ∧ ∀ q : Nat, AW G κ cs ss h L [.ref q] σ1) (hst : (st.map fun v => v.category).sum ≤ 8) (hσ : σ b = some (.inr (9, fs))) (body : ∀ κ2 : Kx, Ok G κ2 mX12_unheard d (KV G κ cs ss 7 L st) X2 → AW G κ2 mc ms 0 [some (.inr (some b)), some (.inl p0)] [] σ) : AW G κ (cs + mc) (ss + ms) 4 L (.int p0 :: .ref b :: st) σ := aw_invVH hΓ (M2 := mX12_unheard) [.inl p0] mc ms X2 hX okX12_unheard ckX12 rfl q1065 q1066 q1064 rfl (Nat.le_of_ble_eq_true rfl) hst dL_unheard_4 hσ body
theorem cL_unheard_0 {κ : Kx} (hN : NcK κ) : CatchAt κ mL_unheard 4 "java/lang/IndexOutOfBoundsException" 12 := by
  obtain ⟨p, l, e, R, s, m, args, below, meth, c, Z⟩ := κ
  have hN : NcS s := hN
  exact ⟨[], ⟨0, 9, 12, 19⟩, [], "java/lang/IndexOutOfBoundsException", rfl, (fun z hz => by cases hz), rfl, by decide, q932, hN.2.2.2, rfl⟩
theorem wL_unheard {G : Gl} {κ : Kx} {d : Nat} {Q : Option Value → Hp → Prop} {X : String → Hp → Prop} {cs ss : Nat} {σ : Hp} {x o : Nat} {p0 : Int32} {fs : List Value} {f : Nat → Int64} (hΓ : Ok G κ mL_unheard (d + 1) Q X) (hN : NcK κ) (mc ms : Nat) (hx : σ x = some (.inr (9, fs))) (RT : Int32 → Hp → Prop) (TH : String → Hp → Prop) (body : ∀ (κ2 : Kx) (Q2 : Option Value → Hp → Prop) (X2 : String → Hp → Prop), Ok G κ2 mX12_unheard d Q2 X2 → (∀ v σ1, RT v σ1 → Q2 (some (.int v)) σ1) → (∀ E σ1, TH E σ1 → X2 E σ1) → AW G κ2 mc ms 0 [lR x, lI p0] [] σ) (hR : ∀ v σ1, RT v σ1 → σ1 o = some (eL G 1 f) ∧ Q (some (.int 0)) (hset σ1 o (eL G 1 (vp_updL f 0 v.toInt64)))) (hT : ∀ E σ1, TH E σ1 → (E = "java/lang/IndexOutOfBoundsException" ∧ Q (some (.int 1)) σ1)) : AW G κ (cs + mc) (ss + ms) 0 [lR x, lI p0, lR o, none] [] σ := by
  refine sL_unheard_0 hΓ rfl ?_
  refine sL_unheard_1 hΓ ?_
  refine sL_unheard_2 hΓ rfl ?_
  refine sL_unheard_3 hΓ rfl ?_
  suffices after : ∀ (v : Int32) (σ1 : Hp), RT v σ1 → AW G κ cs ss 7 [lR x, lI p0, lR o, none] [.int v, .int 0, .ref o] σ1 by
    refine sL_unheard_4 hΓ mc ms TH (fun E σ1 hE => ?_) (Nat.le_of_ble_eq_true rfl) hx (fun κ2 hok => body κ2 _ _ hok (fun v σ1 hv => after v σ1 hv) (fun E σ1 hE => hE))
    rcases hT E σ1 hE with ⟨rfl, hq⟩
    · refine ⟨12, cL_unheard_0 hN, fun q9 => ?_⟩
      refine sL_unheard_12 hΓ ?_
      refine sL_unheard_13 hΓ ?_
      exact sL_unheard_14 hΓ hq
  intro v σ1 hv
  obtain ⟨ho, hq⟩ := hR v σ1 hv
  refine sL_unheard_7 hΓ ?_
  refine sL_unheard_8 hΓ ho (j := 0) rfl (by decide) (by decide) ?_
  refine sL_unheard_9 hΓ ?_
  refine sL_unheard_15 hΓ ?_
  exact sL_unheard_16 hΓ hq
theorem q1070 : Cond.codeWith yL_blockedTicks cL_blockedTicks (4) (Option.some FieldType.int) (mH mL_blockedTicks) ∈ lw_tbl := List.mem_of_getElem? (i := 1070) (by decide +kernel)
theorem q1071 : Cond.methodLink "TrainDecoderLaw" (63) ⟨"TrainDecoder", "blockedTicks", "(I)I"⟩ ∈ lw_tbl := List.mem_of_getElem? (i := 1071) (by decide +kernel)
theorem q1072 : Cond.instanceMethod ⟨"TrainDecoder", "blockedTicks", "(I)I"⟩ ∈ lw_tbl := List.mem_of_getElem? (i := 1072) (by decide +kernel)
theorem q1073 : Cond.selects "TrainDecoder" ⟨"TrainDecoder", "blockedTicks", "(I)I"⟩ ⟨"TrainDecoder", "blockedTicks", "(I)I"⟩ ∈ lw_tbl := List.mem_of_getElem? (i := 1073) (by decide +kernel)
theorem okL_blockedTicks : MOkH mL_blockedTicks 3 := ⟨by decide +kernel, q1070, q108, ⟨by decide +kernel, by decide +kernel⟩, by decide +kernel, by decide +kernel⟩
theorem sL_blockedTicks_4 {G : Gl} {κ : Kx} {d : Nat} {Q : Option Value → Hp → Prop} {X : String → Hp → Prop} {cs ss : Nat} {L : List (Option LV)} {st : List Value} {σ : Hp} {b : Nat} {fs : List Value} {p0 : Int32} (hΓ : Ok G κ mL_blockedTicks (d + 1) Q X) (mc ms : Nat) (X2 : String → Hp → Prop) (hX : ∀ (E : String) (σ1 : Hp), X2 E σ1 → ∃ h, CatchAt κ mL_blockedTicks 4 E h ∧ ∀ q : Nat, AW G κ cs ss h L [.ref q] σ1) (hst : (st.map fun v => v.category).sum ≤ 8) (hσ : σ b = some (.inr (9, fs))) (body : ∀ κ2 : Kx, Ok G κ2 mX12_blockedTicks d (KV G κ cs ss 7 L st) X2 → AW G κ2 mc ms 0 [some (.inr (some b)), some (.inl p0)] [] σ) : AW G κ (cs + mc) (ss + ms) 4 L (.int p0 :: .ref b :: st) σ := aw_invVH hΓ (M2 := mX12_blockedTicks) [.inl p0] mc ms X2 hX okX12_blockedTicks ckX12 rfl q1072 q1073 q1071 rfl (Nat.le_of_ble_eq_true rfl) hst dL_blockedTicks_4 hσ body
theorem cL_blockedTicks_0 {κ : Kx} (hN : NcK κ) : CatchAt κ mL_blockedTicks 4 "java/lang/IndexOutOfBoundsException" 12 := by
  obtain ⟨p, l, e, R, s, m, args, below, meth, c, Z⟩ := κ
  have hN : NcS s := hN
  exact ⟨[], ⟨0, 9, 12, 19⟩, [], "java/lang/IndexOutOfBoundsException", rfl, (fun z hz => by cases hz), rfl, by decide, q932, hN.2.2.2, rfl⟩
theorem wL_blockedTicks {G : Gl} {κ : Kx} {d : Nat} {Q : Option Value → Hp → Prop} {X : String → Hp → Prop} {cs ss : Nat} {σ : Hp} {x o : Nat} {p0 : Int32} {fs : List Value} {f : Nat → Int64} (hΓ : Ok G κ mL_blockedTicks (d + 1) Q X) (hN : NcK κ) (mc ms : Nat) (hx : σ x = some (.inr (9, fs))) (RT : Int32 → Hp → Prop) (TH : String → Hp → Prop) (body : ∀ (κ2 : Kx) (Q2 : Option Value → Hp → Prop) (X2 : String → Hp → Prop), Ok G κ2 mX12_blockedTicks d Q2 X2 → (∀ v σ1, RT v σ1 → Q2 (some (.int v)) σ1) → (∀ E σ1, TH E σ1 → X2 E σ1) → AW G κ2 mc ms 0 [lR x, lI p0] [] σ) (hR : ∀ v σ1, RT v σ1 → σ1 o = some (eL G 1 f) ∧ Q (some (.int 0)) (hset σ1 o (eL G 1 (vp_updL f 0 v.toInt64)))) (hT : ∀ E σ1, TH E σ1 → (E = "java/lang/IndexOutOfBoundsException" ∧ Q (some (.int 1)) σ1)) : AW G κ (cs + mc) (ss + ms) 0 [lR x, lI p0, lR o, none] [] σ := by
  refine sL_blockedTicks_0 hΓ rfl ?_
  refine sL_blockedTicks_1 hΓ ?_
  refine sL_blockedTicks_2 hΓ rfl ?_
  refine sL_blockedTicks_3 hΓ rfl ?_
  suffices after : ∀ (v : Int32) (σ1 : Hp), RT v σ1 → AW G κ cs ss 7 [lR x, lI p0, lR o, none] [.int v, .int 0, .ref o] σ1 by
    refine sL_blockedTicks_4 hΓ mc ms TH (fun E σ1 hE => ?_) (Nat.le_of_ble_eq_true rfl) hx (fun κ2 hok => body κ2 _ _ hok (fun v σ1 hv => after v σ1 hv) (fun E σ1 hE => hE))
    rcases hT E σ1 hE with ⟨rfl, hq⟩
    · refine ⟨12, cL_blockedTicks_0 hN, fun q9 => ?_⟩
      refine sL_blockedTicks_12 hΓ ?_
      refine sL_blockedTicks_13 hΓ ?_
      exact sL_blockedTicks_14 hΓ hq
  intro v σ1 hv
  obtain ⟨ho, hq⟩ := hR v σ1 hv
  refine sL_blockedTicks_7 hΓ ?_
  refine sL_blockedTicks_8 hΓ ho (j := 0) rfl (by decide) (by decide) ?_
  refine sL_blockedTicks_9 hΓ ?_
  refine sL_blockedTicks_15 hΓ ?_
  exact sL_blockedTicks_16 hΓ hq
theorem q1077 : Cond.codeWith yL_freeAhead cL_freeAhead (4) (Option.some FieldType.int) (mH mL_freeAhead) ∈ lw_tbl := List.mem_of_getElem? (i := 1077) (by decide +kernel)
theorem q1078 : Cond.methodLink "TrainDecoderLaw" (66) ⟨"TrainDecoder", "freeAhead", "(I)I"⟩ ∈ lw_tbl := List.mem_of_getElem? (i := 1078) (by decide +kernel)
theorem q1079 : Cond.instanceMethod ⟨"TrainDecoder", "freeAhead", "(I)I"⟩ ∈ lw_tbl := List.mem_of_getElem? (i := 1079) (by decide +kernel)
theorem q1080 : Cond.selects "TrainDecoder" ⟨"TrainDecoder", "freeAhead", "(I)I"⟩ ⟨"TrainDecoder", "freeAhead", "(I)I"⟩ ∈ lw_tbl := List.mem_of_getElem? (i := 1080) (by decide +kernel)
theorem okL_freeAhead : MOkH mL_freeAhead 3 := ⟨by decide +kernel, q1077, q108, ⟨by decide +kernel, by decide +kernel⟩, by decide +kernel, by decide +kernel⟩
theorem sL_freeAhead_4 {G : Gl} {κ : Kx} {d : Nat} {Q : Option Value → Hp → Prop} {X : String → Hp → Prop} {cs ss : Nat} {L : List (Option LV)} {st : List Value} {σ : Hp} {b : Nat} {fs : List Value} {p0 : Int32} (hΓ : Ok G κ mL_freeAhead (d + 1) Q X) (mc ms : Nat) (X2 : String → Hp → Prop) (hX : ∀ (E : String) (σ1 : Hp), X2 E σ1 → ∃ h, CatchAt κ mL_freeAhead 4 E h ∧ ∀ q : Nat, AW G κ cs ss h L [.ref q] σ1) (hst : (st.map fun v => v.category).sum ≤ 8) (hσ : σ b = some (.inr (9, fs))) (body : ∀ κ2 : Kx, Ok G κ2 mX12_freeAhead d (KV G κ cs ss 7 L st) X2 → AW G κ2 mc ms 0 [some (.inr (some b)), some (.inl p0)] [] σ) : AW G κ (cs + mc) (ss + ms) 4 L (.int p0 :: .ref b :: st) σ := aw_invVH hΓ (M2 := mX12_freeAhead) [.inl p0] mc ms X2 hX okX12_freeAhead ckX12 rfl q1079 q1080 q1078 rfl (Nat.le_of_ble_eq_true rfl) hst dL_freeAhead_4 hσ body
theorem cL_freeAhead_0 {κ : Kx} (hN : NcK κ) : CatchAt κ mL_freeAhead 4 "java/lang/IndexOutOfBoundsException" 12 := by
  obtain ⟨p, l, e, R, s, m, args, below, meth, c, Z⟩ := κ
  have hN : NcS s := hN
  exact ⟨[], ⟨0, 9, 12, 19⟩, [], "java/lang/IndexOutOfBoundsException", rfl, (fun z hz => by cases hz), rfl, by decide, q932, hN.2.2.2, rfl⟩
theorem wL_freeAhead {G : Gl} {κ : Kx} {d : Nat} {Q : Option Value → Hp → Prop} {X : String → Hp → Prop} {cs ss : Nat} {σ : Hp} {x o : Nat} {p0 : Int32} {fs : List Value} {f : Nat → Int64} (hΓ : Ok G κ mL_freeAhead (d + 1) Q X) (hN : NcK κ) (mc ms : Nat) (hx : σ x = some (.inr (9, fs))) (RT : Int32 → Hp → Prop) (TH : String → Hp → Prop) (body : ∀ (κ2 : Kx) (Q2 : Option Value → Hp → Prop) (X2 : String → Hp → Prop), Ok G κ2 mX12_freeAhead d Q2 X2 → (∀ v σ1, RT v σ1 → Q2 (some (.int v)) σ1) → (∀ E σ1, TH E σ1 → X2 E σ1) → AW G κ2 mc ms 0 [lR x, lI p0] [] σ) (hR : ∀ v σ1, RT v σ1 → σ1 o = some (eL G 1 f) ∧ Q (some (.int 0)) (hset σ1 o (eL G 1 (vp_updL f 0 v.toInt64)))) (hT : ∀ E σ1, TH E σ1 → (E = "java/lang/IndexOutOfBoundsException" ∧ Q (some (.int 1)) σ1)) : AW G κ (cs + mc) (ss + ms) 0 [lR x, lI p0, lR o, none] [] σ := by
  refine sL_freeAhead_0 hΓ rfl ?_
  refine sL_freeAhead_1 hΓ ?_
  refine sL_freeAhead_2 hΓ rfl ?_
  refine sL_freeAhead_3 hΓ rfl ?_
  suffices after : ∀ (v : Int32) (σ1 : Hp), RT v σ1 → AW G κ cs ss 7 [lR x, lI p0, lR o, none] [.int v, .int 0, .ref o] σ1 by
    refine sL_freeAhead_4 hΓ mc ms TH (fun E σ1 hE => ?_) (Nat.le_of_ble_eq_true rfl) hx (fun κ2 hok => body κ2 _ _ hok (fun v σ1 hv => after v σ1 hv) (fun E σ1 hE => hE))
    rcases hT E σ1 hE with ⟨rfl, hq⟩
    · refine ⟨12, cL_freeAhead_0 hN, fun q9 => ?_⟩
      refine sL_freeAhead_12 hΓ ?_
      refine sL_freeAhead_13 hΓ ?_
      exact sL_freeAhead_14 hΓ hq
  intro v σ1 hv
  obtain ⟨ho, hq⟩ := hR v σ1 hv
  refine sL_freeAhead_7 hΓ ?_
  refine sL_freeAhead_8 hΓ ho (j := 0) rfl (by decide) (by decide) ?_
  refine sL_freeAhead_9 hΓ ?_
  refine sL_freeAhead_15 hΓ ?_
  exact sL_freeAhead_16 hΓ hq
theorem q1088 : Cond.codeWith yL_packetAddress cL_packetAddress (4) (Option.some FieldType.int) (mH mL_packetAddress) ∈ lw_tbl := List.mem_of_getElem? (i := 1088) (by decide +kernel)
theorem q1089 : Cond.methodLink "TrainDecoderLaw" (69) ⟨"TrainDecoder", "packetAddress", "(I)I"⟩ ∈ lw_tbl := List.mem_of_getElem? (i := 1089) (by decide +kernel)
theorem q1090 : Cond.instanceMethod ⟨"TrainDecoder", "packetAddress", "(I)I"⟩ ∈ lw_tbl := List.mem_of_getElem? (i := 1090) (by decide +kernel)
theorem q1091 : Cond.selects "TrainDecoder" ⟨"TrainDecoder", "packetAddress", "(I)I"⟩ ⟨"TrainDecoder", "packetAddress", "(I)I"⟩ ∈ lw_tbl := List.mem_of_getElem? (i := 1091) (by decide +kernel)
theorem okL_packetAddress : MOkH mL_packetAddress 3 := ⟨by decide +kernel, q1088, q108, ⟨by decide +kernel, by decide +kernel⟩, by decide +kernel, by decide +kernel⟩
theorem sL_packetAddress_4 {G : Gl} {κ : Kx} {d : Nat} {Q : Option Value → Hp → Prop} {X : String → Hp → Prop} {cs ss : Nat} {L : List (Option LV)} {st : List Value} {σ : Hp} {b : Nat} {fs : List Value} {p0 : Int32} (hΓ : Ok G κ mL_packetAddress (d + 1) Q X) (mc ms : Nat) (X2 : String → Hp → Prop) (hX : ∀ (E : String) (σ1 : Hp), X2 E σ1 → ∃ h, CatchAt κ mL_packetAddress 4 E h ∧ ∀ q : Nat, AW G κ cs ss h L [.ref q] σ1) (hst : (st.map fun v => v.category).sum ≤ 8) (hσ : σ b = some (.inr (9, fs))) (body : ∀ κ2 : Kx, Ok G κ2 mX12_packetAddress d (KV G κ cs ss 7 L st) X2 → AW G κ2 mc ms 0 [some (.inr (some b)), some (.inl p0)] [] σ) : AW G κ (cs + mc) (ss + ms) 4 L (.int p0 :: .ref b :: st) σ := aw_invVH hΓ (M2 := mX12_packetAddress) [.inl p0] mc ms X2 hX okX12_packetAddress ckX12 rfl q1090 q1091 q1089 rfl (Nat.le_of_ble_eq_true rfl) hst dL_packetAddress_4 hσ body
theorem cL_packetAddress_0 {κ : Kx} (hN : NcK κ) : CatchAt κ mL_packetAddress 4 "java/lang/IndexOutOfBoundsException" 12 := by
  obtain ⟨p, l, e, R, s, m, args, below, meth, c, Z⟩ := κ
  have hN : NcS s := hN
  exact ⟨[], ⟨0, 9, 12, 19⟩, [], "java/lang/IndexOutOfBoundsException", rfl, (fun z hz => by cases hz), rfl, by decide, q932, hN.2.2.2, rfl⟩
theorem wL_packetAddress {G : Gl} {κ : Kx} {d : Nat} {Q : Option Value → Hp → Prop} {X : String → Hp → Prop} {cs ss : Nat} {σ : Hp} {x o : Nat} {p0 : Int32} {fs : List Value} {f : Nat → Int64} (hΓ : Ok G κ mL_packetAddress (d + 1) Q X) (hN : NcK κ) (mc ms : Nat) (hx : σ x = some (.inr (9, fs))) (RT : Int32 → Hp → Prop) (TH : String → Hp → Prop) (body : ∀ (κ2 : Kx) (Q2 : Option Value → Hp → Prop) (X2 : String → Hp → Prop), Ok G κ2 mX12_packetAddress d Q2 X2 → (∀ v σ1, RT v σ1 → Q2 (some (.int v)) σ1) → (∀ E σ1, TH E σ1 → X2 E σ1) → AW G κ2 mc ms 0 [lR x, lI p0] [] σ) (hR : ∀ v σ1, RT v σ1 → σ1 o = some (eL G 1 f) ∧ Q (some (.int 0)) (hset σ1 o (eL G 1 (vp_updL f 0 v.toInt64)))) (hT : ∀ E σ1, TH E σ1 → (E = "java/lang/IndexOutOfBoundsException" ∧ Q (some (.int 1)) σ1)) : AW G κ (cs + mc) (ss + ms) 0 [lR x, lI p0, lR o, none] [] σ := by
  refine sL_packetAddress_0 hΓ rfl ?_
  refine sL_packetAddress_1 hΓ ?_
  refine sL_packetAddress_2 hΓ rfl ?_
  refine sL_packetAddress_3 hΓ rfl ?_
  suffices after : ∀ (v : Int32) (σ1 : Hp), RT v σ1 → AW G κ cs ss 7 [lR x, lI p0, lR o, none] [.int v, .int 0, .ref o] σ1 by
    refine sL_packetAddress_4 hΓ mc ms TH (fun E σ1 hE => ?_) (Nat.le_of_ble_eq_true rfl) hx (fun κ2 hok => body κ2 _ _ hok (fun v σ1 hv => after v σ1 hv) (fun E σ1 hE => hE))
    rcases hT E σ1 hE with ⟨rfl, hq⟩
    · refine ⟨12, cL_packetAddress_0 hN, fun q9 => ?_⟩
      refine sL_packetAddress_12 hΓ ?_
      refine sL_packetAddress_13 hΓ ?_
      exact sL_packetAddress_14 hΓ hq
  intro v σ1 hv
  obtain ⟨ho, hq⟩ := hR v σ1 hv
  refine sL_packetAddress_7 hΓ ?_
  refine sL_packetAddress_8 hΓ ho (j := 0) rfl (by decide) (by decide) ?_
  refine sL_packetAddress_9 hΓ ?_
  refine sL_packetAddress_15 hΓ ?_
  exact sL_packetAddress_16 hΓ hq
theorem q1107 : Cond.codeWith yL_packetCommand cL_packetCommand (4) (Option.some FieldType.int) (mH mL_packetCommand) ∈ lw_tbl := List.mem_of_getElem? (i := 1107) (by decide +kernel)
theorem q1108 : Cond.methodLink "TrainDecoderLaw" (72) ⟨"TrainDecoder", "packetCommand", "(I)I"⟩ ∈ lw_tbl := List.mem_of_getElem? (i := 1108) (by decide +kernel)
theorem q1109 : Cond.instanceMethod ⟨"TrainDecoder", "packetCommand", "(I)I"⟩ ∈ lw_tbl := List.mem_of_getElem? (i := 1109) (by decide +kernel)
theorem q1110 : Cond.selects "TrainDecoder" ⟨"TrainDecoder", "packetCommand", "(I)I"⟩ ⟨"TrainDecoder", "packetCommand", "(I)I"⟩ ∈ lw_tbl := List.mem_of_getElem? (i := 1110) (by decide +kernel)
theorem okL_packetCommand : MOkH mL_packetCommand 3 := ⟨by decide +kernel, q1107, q108, ⟨by decide +kernel, by decide +kernel⟩, by decide +kernel, by decide +kernel⟩
theorem sL_packetCommand_4 {G : Gl} {κ : Kx} {d : Nat} {Q : Option Value → Hp → Prop} {X : String → Hp → Prop} {cs ss : Nat} {L : List (Option LV)} {st : List Value} {σ : Hp} {b : Nat} {fs : List Value} {p0 : Int32} (hΓ : Ok G κ mL_packetCommand (d + 1) Q X) (mc ms : Nat) (X2 : String → Hp → Prop) (hX : ∀ (E : String) (σ1 : Hp), X2 E σ1 → ∃ h, CatchAt κ mL_packetCommand 4 E h ∧ ∀ q : Nat, AW G κ cs ss h L [.ref q] σ1) (hst : (st.map fun v => v.category).sum ≤ 8) (hσ : σ b = some (.inr (9, fs))) (body : ∀ κ2 : Kx, Ok G κ2 mX12_packetCommand d (KV G κ cs ss 7 L st) X2 → AW G κ2 mc ms 0 [some (.inr (some b)), some (.inl p0)] [] σ) : AW G κ (cs + mc) (ss + ms) 4 L (.int p0 :: .ref b :: st) σ := aw_invVH hΓ (M2 := mX12_packetCommand) [.inl p0] mc ms X2 hX okX12_packetCommand ckX12 rfl q1109 q1110 q1108 rfl (Nat.le_of_ble_eq_true rfl) hst dL_packetCommand_4 hσ body
theorem cL_packetCommand_0 {κ : Kx} (hN : NcK κ) : CatchAt κ mL_packetCommand 4 "java/lang/IndexOutOfBoundsException" 12 := by
  obtain ⟨p, l, e, R, s, m, args, below, meth, c, Z⟩ := κ
  have hN : NcS s := hN
  exact ⟨[], ⟨0, 9, 12, 19⟩, [], "java/lang/IndexOutOfBoundsException", rfl, (fun z hz => by cases hz), rfl, by decide, q932, hN.2.2.2, rfl⟩
theorem wL_packetCommand {G : Gl} {κ : Kx} {d : Nat} {Q : Option Value → Hp → Prop} {X : String → Hp → Prop} {cs ss : Nat} {σ : Hp} {x o : Nat} {p0 : Int32} {fs : List Value} {f : Nat → Int64} (hΓ : Ok G κ mL_packetCommand (d + 1) Q X) (hN : NcK κ) (mc ms : Nat) (hx : σ x = some (.inr (9, fs))) (RT : Int32 → Hp → Prop) (TH : String → Hp → Prop) (body : ∀ (κ2 : Kx) (Q2 : Option Value → Hp → Prop) (X2 : String → Hp → Prop), Ok G κ2 mX12_packetCommand d Q2 X2 → (∀ v σ1, RT v σ1 → Q2 (some (.int v)) σ1) → (∀ E σ1, TH E σ1 → X2 E σ1) → AW G κ2 mc ms 0 [lR x, lI p0] [] σ) (hR : ∀ v σ1, RT v σ1 → σ1 o = some (eL G 1 f) ∧ Q (some (.int 0)) (hset σ1 o (eL G 1 (vp_updL f 0 v.toInt64)))) (hT : ∀ E σ1, TH E σ1 → (E = "java/lang/IndexOutOfBoundsException" ∧ Q (some (.int 1)) σ1)) : AW G κ (cs + mc) (ss + ms) 0 [lR x, lI p0, lR o, none] [] σ := by
  refine sL_packetCommand_0 hΓ rfl ?_
  refine sL_packetCommand_1 hΓ ?_
  refine sL_packetCommand_2 hΓ rfl ?_
  refine sL_packetCommand_3 hΓ rfl ?_
  suffices after : ∀ (v : Int32) (σ1 : Hp), RT v σ1 → AW G κ cs ss 7 [lR x, lI p0, lR o, none] [.int v, .int 0, .ref o] σ1 by
    refine sL_packetCommand_4 hΓ mc ms TH (fun E σ1 hE => ?_) (Nat.le_of_ble_eq_true rfl) hx (fun κ2 hok => body κ2 _ _ hok (fun v σ1 hv => after v σ1 hv) (fun E σ1 hE => hE))
    rcases hT E σ1 hE with ⟨rfl, hq⟩
    · refine ⟨12, cL_packetCommand_0 hN, fun q9 => ?_⟩
      refine sL_packetCommand_12 hΓ ?_
      refine sL_packetCommand_13 hΓ ?_
      exact sL_packetCommand_14 hΓ hq
  intro v σ1 hv
  obtain ⟨ho, hq⟩ := hR v σ1 hv
  refine sL_packetCommand_7 hΓ ?_
  refine sL_packetCommand_8 hΓ ho (j := 0) rfl (by decide) (by decide) ?_
  refine sL_packetCommand_9 hΓ ?_
  refine sL_packetCommand_15 hΓ ?_
  exact sL_packetCommand_16 hΓ hq
theorem q1115 : Cond.codeWith yL_isIntact cL_isIntact (4) (Option.some FieldType.int) (mH mL_isIntact) ∈ lw_tbl := List.mem_of_getElem? (i := 1115) (by decide +kernel)
theorem q1116 : Cond.methodLink "TrainDecoderLaw" (75) ⟨"TrainDecoder", "isIntact", "(I)Z"⟩ ∈ lw_tbl := List.mem_of_getElem? (i := 1116) (by decide +kernel)
theorem q1117 : Cond.instanceMethod ⟨"TrainDecoder", "isIntact", "(I)Z"⟩ ∈ lw_tbl := List.mem_of_getElem? (i := 1117) (by decide +kernel)
theorem q1118 : Cond.selects "TrainDecoder" ⟨"TrainDecoder", "isIntact", "(I)Z"⟩ ⟨"TrainDecoder", "isIntact", "(I)Z"⟩ ∈ lw_tbl := List.mem_of_getElem? (i := 1118) (by decide +kernel)
theorem okL_isIntact : MOkH mL_isIntact 3 := ⟨by decide +kernel, q1115, q108, ⟨by decide +kernel, by decide +kernel⟩, by decide +kernel, by decide +kernel⟩
theorem sL_isIntact_4 {G : Gl} {κ : Kx} {d : Nat} {Q : Option Value → Hp → Prop} {X : String → Hp → Prop} {cs ss : Nat} {L : List (Option LV)} {st : List Value} {σ : Hp} {b : Nat} {fs : List Value} {p0 : Int32} (hΓ : Ok G κ mL_isIntact (d + 1) Q X) (mc ms : Nat) (X2 : String → Hp → Prop) (hX : ∀ (E : String) (σ1 : Hp), X2 E σ1 → ∃ h, CatchAt κ mL_isIntact 4 E h ∧ ∀ q : Nat, AW G κ cs ss h L [.ref q] σ1) (hst : (st.map fun v => v.category).sum ≤ 8) (hσ : σ b = some (.inr (9, fs))) (body : ∀ κ2 : Kx, Ok G κ2 mX12_isIntact d (KV G κ cs ss 7 L st) X2 → AW G κ2 mc ms 0 [some (.inr (some b)), some (.inl p0)] [] σ) : AW G κ (cs + mc) (ss + ms) 4 L (.int p0 :: .ref b :: st) σ := aw_invVH hΓ (M2 := mX12_isIntact) [.inl p0] mc ms X2 hX okX12_isIntact ckX12 rfl q1117 q1118 q1116 rfl (Nat.le_of_ble_eq_true rfl) hst dL_isIntact_4 hσ body
theorem cL_isIntact_0 {κ : Kx} (hN : NcK κ) : CatchAt κ mL_isIntact 4 "java/lang/IndexOutOfBoundsException" 19 := by
  obtain ⟨p, l, e, R, s, m, args, below, meth, c, Z⟩ := κ
  have hN : NcS s := hN
  exact ⟨[], ⟨0, 16, 19, 19⟩, [], "java/lang/IndexOutOfBoundsException", rfl, (fun z hz => by cases hz), rfl, by decide, q932, hN.2.2.2, rfl⟩
theorem wL_isIntact {G : Gl} {κ : Kx} {d : Nat} {Q : Option Value → Hp → Prop} {X : String → Hp → Prop} {cs ss : Nat} {σ : Hp} {x o : Nat} {p0 : Int32} {fs : List Value} {f : Nat → Int64} (hΓ : Ok G κ mL_isIntact (d + 1) Q X) (hN : NcK κ) (mc ms : Nat) (hx : σ x = some (.inr (9, fs))) (RT : Int32 → Hp → Prop) (TH : String → Hp → Prop) (body : ∀ (κ2 : Kx) (Q2 : Option Value → Hp → Prop) (X2 : String → Hp → Prop), Ok G κ2 mX12_isIntact d Q2 X2 → (∀ v σ1, RT v σ1 → Q2 (some (.int v)) σ1) → (∀ E σ1, TH E σ1 → X2 E σ1) → AW G κ2 mc ms 0 [lR x, lI p0] [] σ) (hR : ∀ v σ1, RT v σ1 → σ1 o = some (eL G 1 f) ∧ Q (some (.int 0)) (hset σ1 o (eL G 1 (vp_updL f 0 (if v = 0 then (0 : Int64) else 1))))) (hT : ∀ E σ1, TH E σ1 → (E = "java/lang/IndexOutOfBoundsException" ∧ Q (some (.int 1)) σ1)) : AW G κ (cs + mc) (ss + ms) 0 [lR x, lI p0, lR o, none] [] σ := by
  refine sL_isIntact_0 hΓ rfl ?_
  refine sL_isIntact_1 hΓ ?_
  refine sL_isIntact_2 hΓ rfl ?_
  refine sL_isIntact_3 hΓ rfl ?_
  suffices after : ∀ (v : Int32) (σ1 : Hp), RT v σ1 → AW G κ cs ss 7 [lR x, lI p0, lR o, none] [.int v, .int 0, .ref o] σ1 by
    refine sL_isIntact_4 hΓ mc ms TH (fun E σ1 hE => ?_) (Nat.le_of_ble_eq_true rfl) hx (fun κ2 hok => body κ2 _ _ hok (fun v σ1 hv => after v σ1 hv) (fun E σ1 hE => hE))
    rcases hT E σ1 hE with ⟨rfl, hq⟩
    · refine ⟨19, cL_isIntact_0 hN, fun q9 => ?_⟩
      refine sL_isIntact_19 hΓ ?_
      refine sL_isIntact_20 hΓ ?_
      exact sL_isIntact_21 hΓ hq
  intro v σ1 hv
  obtain ⟨ho, hq⟩ := hR v σ1 hv
  refine sL_isIntact_7 hΓ (fun c7 => ?_) (fun c7 => ?_)
  · rw [if_pos c7] at hq
    refine sL_isIntact_14 hΓ ?_
    refine sL_isIntact_15 hΓ ho (j := 0) rfl (by decide) (by decide) ?_
    refine sL_isIntact_16 hΓ ?_
    refine sL_isIntact_22 hΓ ?_
    exact sL_isIntact_23 hΓ hq
  · rw [if_neg c7] at hq
    refine sL_isIntact_10 hΓ ?_
    refine sL_isIntact_11 hΓ ?_
    refine sL_isIntact_15 hΓ ho (j := 0) rfl (by decide) (by decide) ?_
    refine sL_isIntact_16 hΓ ?_
    refine sL_isIntact_22 hΓ ?_
    exact sL_isIntact_23 hΓ hq
theorem q1123 : Cond.codeWith yL_packetsFor cL_packetsFor (4) (Option.some FieldType.int) (mH mL_packetsFor) ∈ lw_tbl := List.mem_of_getElem? (i := 1123) (by decide +kernel)
theorem q1124 : Cond.methodLink "TrainDecoderLaw" (78) ⟨"TrainDecoder", "packetsFor", "(I)I"⟩ ∈ lw_tbl := List.mem_of_getElem? (i := 1124) (by decide +kernel)
theorem q1125 : Cond.instanceMethod ⟨"TrainDecoder", "packetsFor", "(I)I"⟩ ∈ lw_tbl := List.mem_of_getElem? (i := 1125) (by decide +kernel)
theorem q1126 : Cond.selects "TrainDecoder" ⟨"TrainDecoder", "packetsFor", "(I)I"⟩ ⟨"TrainDecoder", "packetsFor", "(I)I"⟩ ∈ lw_tbl := List.mem_of_getElem? (i := 1126) (by decide +kernel)
theorem okL_packetsFor : MOkH mL_packetsFor 3 := ⟨by decide +kernel, q1123, q108, ⟨by decide +kernel, by decide +kernel⟩, by decide +kernel, by decide +kernel⟩
theorem sL_packetsFor_4 {G : Gl} {κ : Kx} {d : Nat} {Q : Option Value → Hp → Prop} {X : String → Hp → Prop} {cs ss : Nat} {L : List (Option LV)} {st : List Value} {σ : Hp} {b : Nat} {fs : List Value} {p0 : Int32} (hΓ : Ok G κ mL_packetsFor (d + 1) Q X) (mc ms : Nat) (X2 : String → Hp → Prop) (hX : ∀ (E : String) (σ1 : Hp), X2 E σ1 → ∃ h, CatchAt κ mL_packetsFor 4 E h ∧ ∀ q : Nat, AW G κ cs ss h L [.ref q] σ1) (hst : (st.map fun v => v.category).sum ≤ 8) (hσ : σ b = some (.inr (9, fs))) (body : ∀ κ2 : Kx, Ok G κ2 mX12_packetsFor d (KV G κ cs ss 7 L st) X2 → AW G κ2 mc ms 0 [some (.inr (some b)), some (.inl p0)] [] σ) : AW G κ (cs + mc) (ss + ms) 4 L (.int p0 :: .ref b :: st) σ := aw_invVH hΓ (M2 := mX12_packetsFor) [.inl p0] mc ms X2 hX okX12_packetsFor ckX12 rfl q1125 q1126 q1124 rfl (Nat.le_of_ble_eq_true rfl) hst dL_packetsFor_4 hσ body
theorem cL_packetsFor_0 {κ : Kx} (hN : NcK κ) : CatchAt κ mL_packetsFor 4 "java/lang/IndexOutOfBoundsException" 12 := by
  obtain ⟨p, l, e, R, s, m, args, below, meth, c, Z⟩ := κ
  have hN : NcS s := hN
  exact ⟨[], ⟨0, 9, 12, 19⟩, [], "java/lang/IndexOutOfBoundsException", rfl, (fun z hz => by cases hz), rfl, by decide, q932, hN.2.2.2, rfl⟩
theorem wL_packetsFor {G : Gl} {κ : Kx} {d : Nat} {Q : Option Value → Hp → Prop} {X : String → Hp → Prop} {cs ss : Nat} {σ : Hp} {x o : Nat} {p0 : Int32} {fs : List Value} {f : Nat → Int64} (hΓ : Ok G κ mL_packetsFor (d + 1) Q X) (hN : NcK κ) (mc ms : Nat) (hx : σ x = some (.inr (9, fs))) (RT : Int32 → Hp → Prop) (TH : String → Hp → Prop) (body : ∀ (κ2 : Kx) (Q2 : Option Value → Hp → Prop) (X2 : String → Hp → Prop), Ok G κ2 mX12_packetsFor d Q2 X2 → (∀ v σ1, RT v σ1 → Q2 (some (.int v)) σ1) → (∀ E σ1, TH E σ1 → X2 E σ1) → AW G κ2 mc ms 0 [lR x, lI p0] [] σ) (hR : ∀ v σ1, RT v σ1 → σ1 o = some (eL G 1 f) ∧ Q (some (.int 0)) (hset σ1 o (eL G 1 (vp_updL f 0 v.toInt64)))) (hT : ∀ E σ1, TH E σ1 → (E = "java/lang/IndexOutOfBoundsException" ∧ Q (some (.int 1)) σ1)) : AW G κ (cs + mc) (ss + ms) 0 [lR x, lI p0, lR o, none] [] σ := by
  refine sL_packetsFor_0 hΓ rfl ?_
  refine sL_packetsFor_1 hΓ ?_
  refine sL_packetsFor_2 hΓ rfl ?_
  refine sL_packetsFor_3 hΓ rfl ?_
  suffices after : ∀ (v : Int32) (σ1 : Hp), RT v σ1 → AW G κ cs ss 7 [lR x, lI p0, lR o, none] [.int v, .int 0, .ref o] σ1 by
    refine sL_packetsFor_4 hΓ mc ms TH (fun E σ1 hE => ?_) (Nat.le_of_ble_eq_true rfl) hx (fun κ2 hok => body κ2 _ _ hok (fun v σ1 hv => after v σ1 hv) (fun E σ1 hE => hE))
    rcases hT E σ1 hE with ⟨rfl, hq⟩
    · refine ⟨12, cL_packetsFor_0 hN, fun q9 => ?_⟩
      refine sL_packetsFor_12 hΓ ?_
      refine sL_packetsFor_13 hΓ ?_
      exact sL_packetsFor_14 hΓ hq
  intro v σ1 hv
  obtain ⟨ho, hq⟩ := hR v σ1 hv
  refine sL_packetsFor_7 hΓ ?_
  refine sL_packetsFor_8 hΓ ho (j := 0) rfl (by decide) (by decide) ?_
  refine sL_packetsFor_9 hΓ ?_
  refine sL_packetsFor_15 hΓ ?_
  exact sL_packetsFor_16 hΓ hq
theorem q1135 : Cond.codeWith yL_checkOf cL_checkOf (5) (Option.some FieldType.int) (mH mL_checkOf) ∈ lw_tbl := List.mem_of_getElem? (i := 1135) (by decide +kernel)
theorem q1136 : Cond.methodLink "TrainDecoderLaw" (81) ⟨"TrainDecoder", "checkOf", "(II)I"⟩ ∈ lw_tbl := List.mem_of_getElem? (i := 1136) (by decide +kernel)
theorem q1137 : Cond.instanceMethod ⟨"TrainDecoder", "checkOf", "(II)I"⟩ ∈ lw_tbl := List.mem_of_getElem? (i := 1137) (by decide +kernel)
theorem q1138 : Cond.selects "TrainDecoder" ⟨"TrainDecoder", "checkOf", "(II)I"⟩ ⟨"TrainDecoder", "checkOf", "(II)I"⟩ ∈ lw_tbl := List.mem_of_getElem? (i := 1138) (by decide +kernel)
theorem okL_checkOf : MOkH mL_checkOf 4 := ⟨by decide +kernel, q1135, q108, ⟨by decide +kernel, by decide +kernel⟩, by decide +kernel, by decide +kernel⟩
theorem sL_checkOf_5 {G : Gl} {κ : Kx} {d : Nat} {Q : Option Value → Hp → Prop} {X : String → Hp → Prop} {cs ss : Nat} {L : List (Option LV)} {st : List Value} {σ : Hp} {b : Nat} {fs : List Value} {p0 : Int32} {p1 : Int32} (hΓ : Ok G κ mL_checkOf (d + 1) Q X) (mc ms : Nat) (X2 : String → Hp → Prop) (hX : ∀ (E : String) (σ1 : Hp), X2 E σ1 → ∃ h, CatchAt κ mL_checkOf 5 E h ∧ ∀ q : Nat, AW G κ cs ss h L [.ref q] σ1) (hst : (st.map fun v => v.category).sum ≤ 8) (hσ : σ b = some (.inr (9, fs))) (body : ∀ κ2 : Kx, Ok G κ2 mX12_checkOf d (KV G κ cs ss 8 L st) X2 → AW G κ2 mc ms 0 [some (.inr (some b)), some (.inl p0), some (.inl p1)] [] σ) : AW G κ (cs + mc) (ss + ms) 5 L (.int p1 :: .int p0 :: .ref b :: st) σ := aw_invVH hΓ (M2 := mX12_checkOf) [.inl p0, .inl p1] mc ms X2 hX okX12_checkOf ckX12 rfl q1137 q1138 q1136 rfl (Nat.le_of_ble_eq_true rfl) hst dL_checkOf_5 hσ body
theorem cL_checkOf_0 {κ : Kx} (hN : NcK κ) : CatchAt κ mL_checkOf 5 "java/lang/IllegalArgumentException" 13 := by
  obtain ⟨p, l, e, R, s, m, args, below, meth, c, Z⟩ := κ
  have hN : NcS s := hN
  exact ⟨[], ⟨0, 10, 13, 13⟩, [], "java/lang/IllegalArgumentException", rfl, (fun z hz => by cases hz), rfl, by decide, q716, hN.2.2.1, rfl⟩
theorem wL_checkOf {G : Gl} {κ : Kx} {d : Nat} {Q : Option Value → Hp → Prop} {X : String → Hp → Prop} {cs ss : Nat} {σ : Hp} {x o : Nat} {p0 : Int32} {p1 : Int32} {fs : List Value} {f : Nat → Int64} (hΓ : Ok G κ mL_checkOf (d + 1) Q X) (hN : NcK κ) (mc ms : Nat) (hx : σ x = some (.inr (9, fs))) (RT : Int32 → Hp → Prop) (TH : String → Hp → Prop) (body : ∀ (κ2 : Kx) (Q2 : Option Value → Hp → Prop) (X2 : String → Hp → Prop), Ok G κ2 mX12_checkOf d Q2 X2 → (∀ v σ1, RT v σ1 → Q2 (some (.int v)) σ1) → (∀ E σ1, TH E σ1 → X2 E σ1) → AW G κ2 mc ms 0 [lR x, lI p0, lI p1] [] σ) (hR : ∀ v σ1, RT v σ1 → σ1 o = some (eL G 1 f) ∧ Q (some (.int 0)) (hset σ1 o (eL G 1 (vp_updL f 0 v.toInt64)))) (hT : ∀ E σ1, TH E σ1 → (E = "java/lang/IllegalArgumentException" ∧ Q (some (.int 1)) σ1)) : AW G κ (cs + mc) (ss + ms) 0 [lR x, lI p0, lI p1, lR o, none] [] σ := by
  refine sL_checkOf_0 hΓ rfl ?_
  refine sL_checkOf_1 hΓ ?_
  refine sL_checkOf_2 hΓ rfl ?_
  refine sL_checkOf_3 hΓ rfl ?_
  refine sL_checkOf_4 hΓ rfl ?_
  suffices after : ∀ (v : Int32) (σ1 : Hp), RT v σ1 → AW G κ cs ss 8 [lR x, lI p0, lI p1, lR o, none] [.int v, .int 0, .ref o] σ1 by
    refine sL_checkOf_5 hΓ mc ms TH (fun E σ1 hE => ?_) (Nat.le_of_ble_eq_true rfl) hx (fun κ2 hok => body κ2 _ _ hok (fun v σ1 hv => after v σ1 hv) (fun E σ1 hE => hE))
    rcases hT E σ1 hE with ⟨rfl, hq⟩
    · refine ⟨13, cL_checkOf_0 hN, fun q9 => ?_⟩
      refine sL_checkOf_13 hΓ ?_
      refine sL_checkOf_15 hΓ ?_
      exact sL_checkOf_16 hΓ hq
  intro v σ1 hv
  obtain ⟨ho, hq⟩ := hR v σ1 hv
  refine sL_checkOf_8 hΓ ?_
  refine sL_checkOf_9 hΓ ho (j := 0) rfl (by decide) (by decide) ?_
  refine sL_checkOf_10 hΓ ?_
  refine sL_checkOf_17 hΓ ?_
  exact sL_checkOf_18 hΓ hq
theorem q1149 : Cond.codeWith yL_brakingTicks cL_brakingTicks (4) (Option.some FieldType.int) (mH mL_brakingTicks) ∈ lw_tbl := List.mem_of_getElem? (i := 1149) (by decide +kernel)
theorem q1150 : Cond.methodLink "TrainDecoderLaw" (85) ⟨"TrainDecoder", "brakingTicks", "(I)I"⟩ ∈ lw_tbl := List.mem_of_getElem? (i := 1150) (by decide +kernel)
theorem q1151 : Cond.instanceMethod ⟨"TrainDecoder", "brakingTicks", "(I)I"⟩ ∈ lw_tbl := List.mem_of_getElem? (i := 1151) (by decide +kernel)
theorem q1152 : Cond.selects "TrainDecoder" ⟨"TrainDecoder", "brakingTicks", "(I)I"⟩ ⟨"TrainDecoder", "brakingTicks", "(I)I"⟩ ∈ lw_tbl := List.mem_of_getElem? (i := 1152) (by decide +kernel)
theorem okL_brakingTicks : MOkH mL_brakingTicks 3 := ⟨by decide +kernel, q1149, q108, ⟨by decide +kernel, by decide +kernel⟩, by decide +kernel, by decide +kernel⟩
theorem sL_brakingTicks_4 {G : Gl} {κ : Kx} {d : Nat} {Q : Option Value → Hp → Prop} {X : String → Hp → Prop} {cs ss : Nat} {L : List (Option LV)} {st : List Value} {σ : Hp} {b : Nat} {fs : List Value} {p0 : Int32} (hΓ : Ok G κ mL_brakingTicks (d + 1) Q X) (mc ms : Nat) (X2 : String → Hp → Prop) (hX : ∀ (E : String) (σ1 : Hp), X2 E σ1 → ∃ h, CatchAt κ mL_brakingTicks 4 E h ∧ ∀ q : Nat, AW G κ cs ss h L [.ref q] σ1) (hst : (st.map fun v => v.category).sum ≤ 8) (hσ : σ b = some (.inr (9, fs))) (body : ∀ κ2 : Kx, Ok G κ2 mX12_brakingTicks d (KV G κ cs ss 7 L st) X2 → AW G κ2 mc ms 0 [some (.inr (some b)), some (.inl p0)] [] σ) : AW G κ (cs + mc) (ss + ms) 4 L (.int p0 :: .ref b :: st) σ := aw_invVH hΓ (M2 := mX12_brakingTicks) [.inl p0] mc ms X2 hX okX12_brakingTicks ckX12 rfl q1151 q1152 q1150 rfl (Nat.le_of_ble_eq_true rfl) hst dL_brakingTicks_4 hσ body
theorem cL_brakingTicks_0 {κ : Kx} (hN : NcK κ) : CatchAt κ mL_brakingTicks 4 "java/lang/IndexOutOfBoundsException" 12 := by
  obtain ⟨p, l, e, R, s, m, args, below, meth, c, Z⟩ := κ
  have hN : NcS s := hN
  exact ⟨[], ⟨0, 9, 12, 19⟩, [], "java/lang/IndexOutOfBoundsException", rfl, (fun z hz => by cases hz), rfl, by decide, q932, hN.2.2.2, rfl⟩
theorem wL_brakingTicks {G : Gl} {κ : Kx} {d : Nat} {Q : Option Value → Hp → Prop} {X : String → Hp → Prop} {cs ss : Nat} {σ : Hp} {x o : Nat} {p0 : Int32} {fs : List Value} {f : Nat → Int64} (hΓ : Ok G κ mL_brakingTicks (d + 1) Q X) (hN : NcK κ) (mc ms : Nat) (hx : σ x = some (.inr (9, fs))) (RT : Int32 → Hp → Prop) (TH : String → Hp → Prop) (body : ∀ (κ2 : Kx) (Q2 : Option Value → Hp → Prop) (X2 : String → Hp → Prop), Ok G κ2 mX12_brakingTicks d Q2 X2 → (∀ v σ1, RT v σ1 → Q2 (some (.int v)) σ1) → (∀ E σ1, TH E σ1 → X2 E σ1) → AW G κ2 mc ms 0 [lR x, lI p0] [] σ) (hR : ∀ v σ1, RT v σ1 → σ1 o = some (eL G 1 f) ∧ Q (some (.int 0)) (hset σ1 o (eL G 1 (vp_updL f 0 v.toInt64)))) (hT : ∀ E σ1, TH E σ1 → (E = "java/lang/IndexOutOfBoundsException" ∧ Q (some (.int 1)) σ1)) : AW G κ (cs + mc) (ss + ms) 0 [lR x, lI p0, lR o, none] [] σ := by
  refine sL_brakingTicks_0 hΓ rfl ?_
  refine sL_brakingTicks_1 hΓ ?_
  refine sL_brakingTicks_2 hΓ rfl ?_
  refine sL_brakingTicks_3 hΓ rfl ?_
  suffices after : ∀ (v : Int32) (σ1 : Hp), RT v σ1 → AW G κ cs ss 7 [lR x, lI p0, lR o, none] [.int v, .int 0, .ref o] σ1 by
    refine sL_brakingTicks_4 hΓ mc ms TH (fun E σ1 hE => ?_) (Nat.le_of_ble_eq_true rfl) hx (fun κ2 hok => body κ2 _ _ hok (fun v σ1 hv => after v σ1 hv) (fun E σ1 hE => hE))
    rcases hT E σ1 hE with ⟨rfl, hq⟩
    · refine ⟨12, cL_brakingTicks_0 hN, fun q9 => ?_⟩
      refine sL_brakingTicks_12 hΓ ?_
      refine sL_brakingTicks_13 hΓ ?_
      exact sL_brakingTicks_14 hΓ hq
  intro v σ1 hv
  obtain ⟨ho, hq⟩ := hR v σ1 hv
  refine sL_brakingTicks_7 hΓ ?_
  refine sL_brakingTicks_8 hΓ ho (j := 0) rfl (by decide) (by decide) ?_
  refine sL_brakingTicks_9 hΓ ?_
  refine sL_brakingTicks_15 hΓ ?_
  exact sL_brakingTicks_16 hΓ hq
theorem q1160 : Cond.codeWith yL_brakingDistance cL_brakingDistance (4) (Option.some FieldType.int) (mH mL_brakingDistance) ∈ lw_tbl := List.mem_of_getElem? (i := 1160) (by decide +kernel)
theorem q1161 : Cond.methodLink "TrainDecoderLaw" (88) ⟨"TrainDecoder", "brakingDistance", "(I)I"⟩ ∈ lw_tbl := List.mem_of_getElem? (i := 1161) (by decide +kernel)
theorem q1162 : Cond.instanceMethod ⟨"TrainDecoder", "brakingDistance", "(I)I"⟩ ∈ lw_tbl := List.mem_of_getElem? (i := 1162) (by decide +kernel)
theorem q1163 : Cond.selects "TrainDecoder" ⟨"TrainDecoder", "brakingDistance", "(I)I"⟩ ⟨"TrainDecoder", "brakingDistance", "(I)I"⟩ ∈ lw_tbl := List.mem_of_getElem? (i := 1163) (by decide +kernel)
theorem okL_brakingDistance : MOkH mL_brakingDistance 3 := ⟨by decide +kernel, q1160, q108, ⟨by decide +kernel, by decide +kernel⟩, by decide +kernel, by decide +kernel⟩
theorem sL_brakingDistance_4 {G : Gl} {κ : Kx} {d : Nat} {Q : Option Value → Hp → Prop} {X : String → Hp → Prop} {cs ss : Nat} {L : List (Option LV)} {st : List Value} {σ : Hp} {b : Nat} {fs : List Value} {p0 : Int32} (hΓ : Ok G κ mL_brakingDistance (d + 1) Q X) (mc ms : Nat) (X2 : String → Hp → Prop) (hX : ∀ (E : String) (σ1 : Hp), X2 E σ1 → ∃ h, CatchAt κ mL_brakingDistance 4 E h ∧ ∀ q : Nat, AW G κ cs ss h L [.ref q] σ1) (hst : (st.map fun v => v.category).sum ≤ 8) (hσ : σ b = some (.inr (9, fs))) (body : ∀ κ2 : Kx, Ok G κ2 mX12_brakingDistance d (KV G κ cs ss 7 L st) X2 → AW G κ2 mc ms 0 [some (.inr (some b)), some (.inl p0)] [] σ) : AW G κ (cs + mc) (ss + ms) 4 L (.int p0 :: .ref b :: st) σ := aw_invVH hΓ (M2 := mX12_brakingDistance) [.inl p0] mc ms X2 hX okX12_brakingDistance ckX12 rfl q1162 q1163 q1161 rfl (Nat.le_of_ble_eq_true rfl) hst dL_brakingDistance_4 hσ body
theorem cL_brakingDistance_0 {κ : Kx} (hN : NcK κ) : CatchAt κ mL_brakingDistance 4 "java/lang/IndexOutOfBoundsException" 12 := by
  obtain ⟨p, l, e, R, s, m, args, below, meth, c, Z⟩ := κ
  have hN : NcS s := hN
  exact ⟨[], ⟨0, 9, 12, 19⟩, [], "java/lang/IndexOutOfBoundsException", rfl, (fun z hz => by cases hz), rfl, by decide, q932, hN.2.2.2, rfl⟩
theorem wL_brakingDistance {G : Gl} {κ : Kx} {d : Nat} {Q : Option Value → Hp → Prop} {X : String → Hp → Prop} {cs ss : Nat} {σ : Hp} {x o : Nat} {p0 : Int32} {fs : List Value} {f : Nat → Int64} (hΓ : Ok G κ mL_brakingDistance (d + 1) Q X) (hN : NcK κ) (mc ms : Nat) (hx : σ x = some (.inr (9, fs))) (RT : Int32 → Hp → Prop) (TH : String → Hp → Prop) (body : ∀ (κ2 : Kx) (Q2 : Option Value → Hp → Prop) (X2 : String → Hp → Prop), Ok G κ2 mX12_brakingDistance d Q2 X2 → (∀ v σ1, RT v σ1 → Q2 (some (.int v)) σ1) → (∀ E σ1, TH E σ1 → X2 E σ1) → AW G κ2 mc ms 0 [lR x, lI p0] [] σ) (hR : ∀ v σ1, RT v σ1 → σ1 o = some (eL G 1 f) ∧ Q (some (.int 0)) (hset σ1 o (eL G 1 (vp_updL f 0 v.toInt64)))) (hT : ∀ E σ1, TH E σ1 → (E = "java/lang/IndexOutOfBoundsException" ∧ Q (some (.int 1)) σ1)) : AW G κ (cs + mc) (ss + ms) 0 [lR x, lI p0, lR o, none] [] σ := by
  refine sL_brakingDistance_0 hΓ rfl ?_
  refine sL_brakingDistance_1 hΓ ?_
  refine sL_brakingDistance_2 hΓ rfl ?_
  refine sL_brakingDistance_3 hΓ rfl ?_
  suffices after : ∀ (v : Int32) (σ1 : Hp), RT v σ1 → AW G κ cs ss 7 [lR x, lI p0, lR o, none] [.int v, .int 0, .ref o] σ1 by
    refine sL_brakingDistance_4 hΓ mc ms TH (fun E σ1 hE => ?_) (Nat.le_of_ble_eq_true rfl) hx (fun κ2 hok => body κ2 _ _ hok (fun v σ1 hv => after v σ1 hv) (fun E σ1 hE => hE))
    rcases hT E σ1 hE with ⟨rfl, hq⟩
    · refine ⟨12, cL_brakingDistance_0 hN, fun q9 => ?_⟩
      refine sL_brakingDistance_12 hΓ ?_
      refine sL_brakingDistance_13 hΓ ?_
      exact sL_brakingDistance_14 hΓ hq
  intro v σ1 hv
  obtain ⟨ho, hq⟩ := hR v σ1 hv
  refine sL_brakingDistance_7 hΓ ?_
  refine sL_brakingDistance_8 hΓ ho (j := 0) rfl (by decide) (by decide) ?_
  refine sL_brakingDistance_9 hΓ ?_
  refine sL_brakingDistance_15 hΓ ?_
  exact sL_brakingDistance_16 hΓ hq
theorem q1171 : Cond.codeWith yL_sectionAfter cL_sectionAfter (5) (Option.some FieldType.int) (mH mL_sectionAfter) ∈ lw_tbl := List.mem_of_getElem? (i := 1171) (by decide +kernel)
theorem q1172 : Cond.methodLink "TrainDecoderLaw" (91) ⟨"TrainDecoder", "sectionAfter", "(II)I"⟩ ∈ lw_tbl := List.mem_of_getElem? (i := 1172) (by decide +kernel)
theorem q1173 : Cond.instanceMethod ⟨"TrainDecoder", "sectionAfter", "(II)I"⟩ ∈ lw_tbl := List.mem_of_getElem? (i := 1173) (by decide +kernel)
theorem q1174 : Cond.selects "TrainDecoder" ⟨"TrainDecoder", "sectionAfter", "(II)I"⟩ ⟨"TrainDecoder", "sectionAfter", "(II)I"⟩ ∈ lw_tbl := List.mem_of_getElem? (i := 1174) (by decide +kernel)
theorem okL_sectionAfter : MOkH mL_sectionAfter 4 := ⟨by decide +kernel, q1171, q108, ⟨by decide +kernel, by decide +kernel⟩, by decide +kernel, by decide +kernel⟩
theorem sL_sectionAfter_5 {G : Gl} {κ : Kx} {d : Nat} {Q : Option Value → Hp → Prop} {X : String → Hp → Prop} {cs ss : Nat} {L : List (Option LV)} {st : List Value} {σ : Hp} {b : Nat} {fs : List Value} {p0 : Int32} {p1 : Int32} (hΓ : Ok G κ mL_sectionAfter (d + 1) Q X) (mc ms : Nat) (X2 : String → Hp → Prop) (hX : ∀ (E : String) (σ1 : Hp), X2 E σ1 → ∃ h, CatchAt κ mL_sectionAfter 5 E h ∧ ∀ q : Nat, AW G κ cs ss h L [.ref q] σ1) (hst : (st.map fun v => v.category).sum ≤ 8) (hσ : σ b = some (.inr (9, fs))) (body : ∀ κ2 : Kx, Ok G κ2 mX12_sectionAfter d (KV G κ cs ss 8 L st) X2 → AW G κ2 mc ms 0 [some (.inr (some b)), some (.inl p0), some (.inl p1)] [] σ) : AW G κ (cs + mc) (ss + ms) 5 L (.int p1 :: .int p0 :: .ref b :: st) σ := aw_invVH hΓ (M2 := mX12_sectionAfter) [.inl p0, .inl p1] mc ms X2 hX okX12_sectionAfter ckX12 rfl q1173 q1174 q1172 rfl (Nat.le_of_ble_eq_true rfl) hst dL_sectionAfter_5 hσ body
theorem cL_sectionAfter_0 {κ : Kx} (hN : NcK κ) : CatchAt κ mL_sectionAfter 5 "java/lang/IndexOutOfBoundsException" 13 := by
  obtain ⟨p, l, e, R, s, m, args, below, meth, c, Z⟩ := κ
  have hN : NcS s := hN
  exact ⟨[], ⟨0, 10, 13, 19⟩, [⟨0, 10, 17, 13⟩], "java/lang/IndexOutOfBoundsException", rfl, (fun z hz => by cases hz), rfl, by decide, q932, hN.2.2.2, rfl⟩
theorem cL_sectionAfter_1 {κ : Kx} (hN : NcK κ) : CatchAt κ mL_sectionAfter 5 "java/lang/IllegalArgumentException" 17 := by
  obtain ⟨p, l, e, R, s, m, args, below, meth, c, Z⟩ := κ
  have hN : NcS s := hN
  exact ⟨[⟨0, 10, 13, 19⟩], ⟨0, 10, 17, 13⟩, [], "java/lang/IllegalArgumentException", rfl, (fun z hz => by
    simp only [List.mem_cons, List.not_mem_nil, or_false] at hz
    rcases hz with hz
    · subst hz; exact Or.inr ⟨by decide, "java/lang/IndexOutOfBoundsException", q932, hN.1.2.2⟩), rfl, by decide, q716, hN.2.2.1, rfl⟩
theorem wL_sectionAfter {G : Gl} {κ : Kx} {d : Nat} {Q : Option Value → Hp → Prop} {X : String → Hp → Prop} {cs ss : Nat} {σ : Hp} {x o : Nat} {p0 : Int32} {p1 : Int32} {fs : List Value} {f : Nat → Int64} (hΓ : Ok G κ mL_sectionAfter (d + 1) Q X) (hN : NcK κ) (mc ms : Nat) (hx : σ x = some (.inr (9, fs))) (RT : Int32 → Hp → Prop) (TH : String → Hp → Prop) (body : ∀ (κ2 : Kx) (Q2 : Option Value → Hp → Prop) (X2 : String → Hp → Prop), Ok G κ2 mX12_sectionAfter d Q2 X2 → (∀ v σ1, RT v σ1 → Q2 (some (.int v)) σ1) → (∀ E σ1, TH E σ1 → X2 E σ1) → AW G κ2 mc ms 0 [lR x, lI p0, lI p1] [] σ) (hR : ∀ v σ1, RT v σ1 → σ1 o = some (eL G 1 f) ∧ Q (some (.int 0)) (hset σ1 o (eL G 1 (vp_updL f 0 v.toInt64)))) (hT : ∀ E σ1, TH E σ1 → (E = "java/lang/IndexOutOfBoundsException" ∧ Q (some (.int 1)) σ1) ∨ (E = "java/lang/IllegalArgumentException" ∧ Q (some (.int 2)) σ1)) : AW G κ (cs + mc) (ss + ms) 0 [lR x, lI p0, lI p1, lR o, none] [] σ := by
  refine sL_sectionAfter_0 hΓ rfl ?_
  refine sL_sectionAfter_1 hΓ ?_
  refine sL_sectionAfter_2 hΓ rfl ?_
  refine sL_sectionAfter_3 hΓ rfl ?_
  refine sL_sectionAfter_4 hΓ rfl ?_
  suffices after : ∀ (v : Int32) (σ1 : Hp), RT v σ1 → AW G κ cs ss 8 [lR x, lI p0, lI p1, lR o, none] [.int v, .int 0, .ref o] σ1 by
    refine sL_sectionAfter_5 hΓ mc ms TH (fun E σ1 hE => ?_) (Nat.le_of_ble_eq_true rfl) hx (fun κ2 hok => body κ2 _ _ hok (fun v σ1 hv => after v σ1 hv) (fun E σ1 hE => hE))
    rcases hT E σ1 hE with ⟨rfl, hq⟩ | ⟨rfl, hq⟩
    · refine ⟨13, cL_sectionAfter_0 hN, fun q9 => ?_⟩
      refine sL_sectionAfter_13 hΓ ?_
      refine sL_sectionAfter_15 hΓ ?_
      exact sL_sectionAfter_16 hΓ hq
    · refine ⟨17, cL_sectionAfter_1 hN, fun q9 => ?_⟩
      refine sL_sectionAfter_17 hΓ ?_
      refine sL_sectionAfter_19 hΓ ?_
      exact sL_sectionAfter_20 hΓ hq
  intro v σ1 hv
  obtain ⟨ho, hq⟩ := hR v σ1 hv
  refine sL_sectionAfter_8 hΓ ?_
  refine sL_sectionAfter_9 hΓ ho (j := 0) rfl (by decide) (by decide) ?_
  refine sL_sectionAfter_10 hΓ ?_
  refine sL_sectionAfter_21 hΓ ?_
  exact sL_sectionAfter_22 hΓ hq
theorem q1182 : Cond.codeWith yL_speedAfter cL_speedAfter (5) (Option.some FieldType.int) (mH mL_speedAfter) ∈ lw_tbl := List.mem_of_getElem? (i := 1182) (by decide +kernel)
theorem q1183 : Cond.methodLink "TrainDecoderLaw" (94) ⟨"TrainDecoder", "speedAfter", "(II)I"⟩ ∈ lw_tbl := List.mem_of_getElem? (i := 1183) (by decide +kernel)
theorem q1184 : Cond.instanceMethod ⟨"TrainDecoder", "speedAfter", "(II)I"⟩ ∈ lw_tbl := List.mem_of_getElem? (i := 1184) (by decide +kernel)
theorem q1185 : Cond.selects "TrainDecoder" ⟨"TrainDecoder", "speedAfter", "(II)I"⟩ ⟨"TrainDecoder", "speedAfter", "(II)I"⟩ ∈ lw_tbl := List.mem_of_getElem? (i := 1185) (by decide +kernel)
theorem okL_speedAfter : MOkH mL_speedAfter 4 := ⟨by decide +kernel, q1182, q108, ⟨by decide +kernel, by decide +kernel⟩, by decide +kernel, by decide +kernel⟩
theorem sL_speedAfter_5 {G : Gl} {κ : Kx} {d : Nat} {Q : Option Value → Hp → Prop} {X : String → Hp → Prop} {cs ss : Nat} {L : List (Option LV)} {st : List Value} {σ : Hp} {b : Nat} {fs : List Value} {p0 : Int32} {p1 : Int32} (hΓ : Ok G κ mL_speedAfter (d + 1) Q X) (mc ms : Nat) (X2 : String → Hp → Prop) (hX : ∀ (E : String) (σ1 : Hp), X2 E σ1 → ∃ h, CatchAt κ mL_speedAfter 5 E h ∧ ∀ q : Nat, AW G κ cs ss h L [.ref q] σ1) (hst : (st.map fun v => v.category).sum ≤ 8) (hσ : σ b = some (.inr (9, fs))) (body : ∀ κ2 : Kx, Ok G κ2 mX12_speedAfter d (KV G κ cs ss 8 L st) X2 → AW G κ2 mc ms 0 [some (.inr (some b)), some (.inl p0), some (.inl p1)] [] σ) : AW G κ (cs + mc) (ss + ms) 5 L (.int p1 :: .int p0 :: .ref b :: st) σ := aw_invVH hΓ (M2 := mX12_speedAfter) [.inl p0, .inl p1] mc ms X2 hX okX12_speedAfter ckX12 rfl q1184 q1185 q1183 rfl (Nat.le_of_ble_eq_true rfl) hst dL_speedAfter_5 hσ body
theorem cL_speedAfter_0 {κ : Kx} (hN : NcK κ) : CatchAt κ mL_speedAfter 5 "java/lang/IndexOutOfBoundsException" 13 := by
  obtain ⟨p, l, e, R, s, m, args, below, meth, c, Z⟩ := κ
  have hN : NcS s := hN
  exact ⟨[], ⟨0, 10, 13, 19⟩, [⟨0, 10, 17, 13⟩], "java/lang/IndexOutOfBoundsException", rfl, (fun z hz => by cases hz), rfl, by decide, q932, hN.2.2.2, rfl⟩
theorem cL_speedAfter_1 {κ : Kx} (hN : NcK κ) : CatchAt κ mL_speedAfter 5 "java/lang/IllegalArgumentException" 17 := by
  obtain ⟨p, l, e, R, s, m, args, below, meth, c, Z⟩ := κ
  have hN : NcS s := hN
  exact ⟨[⟨0, 10, 13, 19⟩], ⟨0, 10, 17, 13⟩, [], "java/lang/IllegalArgumentException", rfl, (fun z hz => by
    simp only [List.mem_cons, List.not_mem_nil, or_false] at hz
    rcases hz with hz
    · subst hz; exact Or.inr ⟨by decide, "java/lang/IndexOutOfBoundsException", q932, hN.1.2.2⟩), rfl, by decide, q716, hN.2.2.1, rfl⟩
theorem wL_speedAfter {G : Gl} {κ : Kx} {d : Nat} {Q : Option Value → Hp → Prop} {X : String → Hp → Prop} {cs ss : Nat} {σ : Hp} {x o : Nat} {p0 : Int32} {p1 : Int32} {fs : List Value} {f : Nat → Int64} (hΓ : Ok G κ mL_speedAfter (d + 1) Q X) (hN : NcK κ) (mc ms : Nat) (hx : σ x = some (.inr (9, fs))) (RT : Int32 → Hp → Prop) (TH : String → Hp → Prop) (body : ∀ (κ2 : Kx) (Q2 : Option Value → Hp → Prop) (X2 : String → Hp → Prop), Ok G κ2 mX12_speedAfter d Q2 X2 → (∀ v σ1, RT v σ1 → Q2 (some (.int v)) σ1) → (∀ E σ1, TH E σ1 → X2 E σ1) → AW G κ2 mc ms 0 [lR x, lI p0, lI p1] [] σ) (hR : ∀ v σ1, RT v σ1 → σ1 o = some (eL G 1 f) ∧ Q (some (.int 0)) (hset σ1 o (eL G 1 (vp_updL f 0 v.toInt64)))) (hT : ∀ E σ1, TH E σ1 → (E = "java/lang/IndexOutOfBoundsException" ∧ Q (some (.int 1)) σ1) ∨ (E = "java/lang/IllegalArgumentException" ∧ Q (some (.int 2)) σ1)) : AW G κ (cs + mc) (ss + ms) 0 [lR x, lI p0, lI p1, lR o, none] [] σ := by
  refine sL_speedAfter_0 hΓ rfl ?_
  refine sL_speedAfter_1 hΓ ?_
  refine sL_speedAfter_2 hΓ rfl ?_
  refine sL_speedAfter_3 hΓ rfl ?_
  refine sL_speedAfter_4 hΓ rfl ?_
  suffices after : ∀ (v : Int32) (σ1 : Hp), RT v σ1 → AW G κ cs ss 8 [lR x, lI p0, lI p1, lR o, none] [.int v, .int 0, .ref o] σ1 by
    refine sL_speedAfter_5 hΓ mc ms TH (fun E σ1 hE => ?_) (Nat.le_of_ble_eq_true rfl) hx (fun κ2 hok => body κ2 _ _ hok (fun v σ1 hv => after v σ1 hv) (fun E σ1 hE => hE))
    rcases hT E σ1 hE with ⟨rfl, hq⟩ | ⟨rfl, hq⟩
    · refine ⟨13, cL_speedAfter_0 hN, fun q9 => ?_⟩
      refine sL_speedAfter_13 hΓ ?_
      refine sL_speedAfter_15 hΓ ?_
      exact sL_speedAfter_16 hΓ hq
    · refine ⟨17, cL_speedAfter_1 hN, fun q9 => ?_⟩
      refine sL_speedAfter_17 hΓ ?_
      refine sL_speedAfter_19 hΓ ?_
      exact sL_speedAfter_20 hΓ hq
  intro v σ1 hv
  obtain ⟨ho, hq⟩ := hR v σ1 hv
  refine sL_speedAfter_8 hΓ ?_
  refine sL_speedAfter_9 hΓ ho (j := 0) rfl (by decide) (by decide) ?_
  refine sL_speedAfter_10 hΓ ?_
  refine sL_speedAfter_21 hΓ ?_
  exact sL_speedAfter_22 hΓ hq
theorem q1189 : Cond.codeWith yL_sendPacket cL_sendPacket (6) (Option.some FieldType.int) (mH mL_sendPacket) ∈ lw_tbl := List.mem_of_getElem? (i := 1189) (by decide +kernel)
theorem q1191 : Cond.methodLink "TrainDecoderLaw" (97) ⟨"TrainDecoder", "sendPacket", "(III)I"⟩ ∈ lw_tbl := List.mem_of_getElem? (i := 1191) (by decide +kernel)
theorem q1192 : Cond.instanceMethod ⟨"TrainDecoder", "sendPacket", "(III)I"⟩ ∈ lw_tbl := List.mem_of_getElem? (i := 1192) (by decide +kernel)
theorem q1193 : Cond.selects "TrainDecoder" ⟨"TrainDecoder", "sendPacket", "(III)I"⟩ ⟨"TrainDecoder", "sendPacket", "(III)I"⟩ ∈ lw_tbl := List.mem_of_getElem? (i := 1193) (by decide +kernel)
theorem okL_sendPacket : MOkH mL_sendPacket 5 := ⟨by decide +kernel, q1189, q108, ⟨by decide +kernel, by decide +kernel⟩, by decide +kernel, by decide +kernel⟩
theorem sL_sendPacket_7 {G : Gl} {κ : Kx} {d : Nat} {Q : Option Value → Hp → Prop} {X : String → Hp → Prop} {cs ss : Nat} {L : List (Option LV)} {st : List Value} {σ : Hp} {b : Nat} {fs : List Value} {p0 : Int32} {p1 : Int32} {p2 : Int32} (hΓ : Ok G κ mL_sendPacket (d + 1) Q X) (mc ms : Nat) (X2 : String → Hp → Prop) (hX : ∀ (E : String) (σ1 : Hp), X2 E σ1 → ∃ h, CatchAt κ mL_sendPacket 7 E h ∧ ∀ q : Nat, AW G κ cs ss h L [.ref q] σ1) (hst : (st.map fun v => v.category).sum ≤ 8) (hσ : σ b = some (.inr (9, fs))) (body : ∀ κ2 : Kx, Ok G κ2 mX12_sendPacket d (KV G κ cs ss 10 L st) X2 → AW G κ2 mc ms 0 [some (.inr (some b)), some (.inl p0), some (.inl p1), some (.inl p2)] [] σ) : AW G κ (cs + mc) (ss + ms) 7 L (.int p2 :: .int p1 :: .int p0 :: .ref b :: st) σ := aw_invVH hΓ (M2 := mX12_sendPacket) [.inl p0, .inl p1, .inl p2] mc ms X2 hX okX12_sendPacket ckX12 rfl q1192 q1193 q1191 rfl (Nat.le_of_ble_eq_true rfl) hst dL_sendPacket_7 hσ body
theorem cL_sendPacket_0 {κ : Kx} (hN : NcK κ) : CatchAt κ mL_sendPacket 7 "java/lang/IllegalArgumentException" 15 := by
  obtain ⟨p, l, e, R, s, m, args, below, meth, c, Z⟩ := κ
  have hN : NcS s := hN
  exact ⟨[], ⟨0, 12, 15, 13⟩, [⟨0, 12, 19, 101⟩], "java/lang/IllegalArgumentException", rfl, (fun z hz => by cases hz), rfl, by decide, q716, hN.2.2.1, rfl⟩
theorem q1190 : Cond.classLink "TrainDecoderLaw" (101) "java/lang/IllegalStateException" ∈ lw_tbl := List.mem_of_getElem? (i := 1190) (by decide +kernel)
theorem cL_sendPacket_1 {κ : Kx} (hN : NcK κ) : CatchAt κ mL_sendPacket 7 "java/lang/IllegalStateException" 19 := by
  obtain ⟨p, l, e, R, s, m, args, below, meth, c, Z⟩ := κ
  have hN : NcS s := hN
  exact ⟨[⟨0, 12, 15, 13⟩], ⟨0, 12, 19, 101⟩, [], "java/lang/IllegalStateException", rfl, (fun z hz => by
    simp only [List.mem_cons, List.not_mem_nil, or_false] at hz
    rcases hz with hz
    · subst hz; exact Or.inr ⟨by decide, "java/lang/IllegalArgumentException", q716, hN.1.1⟩), rfl, by decide, q1190, hN.2.1, rfl⟩
theorem wL_sendPacket {G : Gl} {κ : Kx} {d : Nat} {Q : Option Value → Hp → Prop} {X : String → Hp → Prop} {cs ss : Nat} {σ : Hp} {x o : Nat} {p0 : Int32} {p1 : Int32} {p2 : Int32} {fs : List Value} {f : Nat → Int64} (hΓ : Ok G κ mL_sendPacket (d + 1) Q X) (hN : NcK κ) (mc ms : Nat) (hx : σ x = some (.inr (9, fs))) (RT : Int32 → Hp → Prop) (TH : String → Hp → Prop) (body : ∀ (κ2 : Kx) (Q2 : Option Value → Hp → Prop) (X2 : String → Hp → Prop), Ok G κ2 mX12_sendPacket d Q2 X2 → (∀ v σ1, RT v σ1 → Q2 (some (.int v)) σ1) → (∀ E σ1, TH E σ1 → X2 E σ1) → AW G κ2 mc ms 0 [lR x, lI p0, lI p1, lI p2] [] σ) (hR : ∀ v σ1, RT v σ1 → σ1 o = some (eL G 1 f) ∧ Q (some (.int 0)) (hset σ1 o (eL G 1 (vp_updL f 0 v.toInt64)))) (hT : ∀ E σ1, TH E σ1 → (E = "java/lang/IllegalArgumentException" ∧ Q (some (.int 1)) σ1) ∨ (E = "java/lang/IllegalStateException" ∧ Q (some (.int 2)) σ1)) : AW G κ (cs + mc) (ss + ms) 0 [lR x, lI p0, lI p1, lI p2, lR o, none] [] σ := by
  refine sL_sendPacket_0 hΓ rfl ?_
  refine sL_sendPacket_2 hΓ ?_
  refine sL_sendPacket_3 hΓ rfl ?_
  refine sL_sendPacket_4 hΓ rfl ?_
  refine sL_sendPacket_5 hΓ rfl ?_
  refine sL_sendPacket_6 hΓ rfl ?_
  suffices after : ∀ (v : Int32) (σ1 : Hp), RT v σ1 → AW G κ cs ss 10 [lR x, lI p0, lI p1, lI p2, lR o, none] [.int v, .int 0, .ref o] σ1 by
    refine sL_sendPacket_7 hΓ mc ms TH (fun E σ1 hE => ?_) (Nat.le_of_ble_eq_true rfl) hx (fun κ2 hok => body κ2 _ _ hok (fun v σ1 hv => after v σ1 hv) (fun E σ1 hE => hE))
    rcases hT E σ1 hE with ⟨rfl, hq⟩ | ⟨rfl, hq⟩
    · refine ⟨15, cL_sendPacket_0 hN, fun q9 => ?_⟩
      refine sL_sendPacket_15 hΓ ?_
      refine sL_sendPacket_17 hΓ ?_
      exact sL_sendPacket_18 hΓ hq
    · refine ⟨19, cL_sendPacket_1 hN, fun q9 => ?_⟩
      refine sL_sendPacket_19 hΓ ?_
      refine sL_sendPacket_21 hΓ ?_
      exact sL_sendPacket_22 hΓ hq
  intro v σ1 hv
  obtain ⟨ho, hq⟩ := hR v σ1 hv
  refine sL_sendPacket_10 hΓ ?_
  refine sL_sendPacket_11 hΓ ho (j := 0) rfl (by decide) (by decide) ?_
  refine sL_sendPacket_12 hΓ ?_
  refine sL_sendPacket_23 hΓ ?_
  exact sL_sendPacket_24 hΓ hq
theorem q1232 : Cond.codeWith yL_setSpeed cL_setSpeed (5) (Option.some FieldType.int) (mH mL_setSpeed) ∈ lw_tbl := List.mem_of_getElem? (i := 1232) (by decide +kernel)
theorem q1233 : Cond.methodLink "TrainDecoderLaw" (103) ⟨"TrainDecoder", "setSpeed", "(II)I"⟩ ∈ lw_tbl := List.mem_of_getElem? (i := 1233) (by decide +kernel)
theorem q1234 : Cond.instanceMethod ⟨"TrainDecoder", "setSpeed", "(II)I"⟩ ∈ lw_tbl := List.mem_of_getElem? (i := 1234) (by decide +kernel)
theorem q1235 : Cond.selects "TrainDecoder" ⟨"TrainDecoder", "setSpeed", "(II)I"⟩ ⟨"TrainDecoder", "setSpeed", "(II)I"⟩ ∈ lw_tbl := List.mem_of_getElem? (i := 1235) (by decide +kernel)
theorem okL_setSpeed : MOkH mL_setSpeed 4 := ⟨by decide +kernel, q1232, q108, ⟨by decide +kernel, by decide +kernel⟩, by decide +kernel, by decide +kernel⟩
theorem sL_setSpeed_5 {G : Gl} {κ : Kx} {d : Nat} {Q : Option Value → Hp → Prop} {X : String → Hp → Prop} {cs ss : Nat} {L : List (Option LV)} {st : List Value} {σ : Hp} {b : Nat} {fs : List Value} {p0 : Int32} {p1 : Int32} (hΓ : Ok G κ mL_setSpeed (d + 1) Q X) (mc ms : Nat) (X2 : String → Hp → Prop) (hX : ∀ (E : String) (σ1 : Hp), X2 E σ1 → ∃ h, CatchAt κ mL_setSpeed 5 E h ∧ ∀ q : Nat, AW G κ cs ss h L [.ref q] σ1) (hst : (st.map fun v => v.category).sum ≤ 8) (hσ : σ b = some (.inr (9, fs))) (body : ∀ κ2 : Kx, Ok G κ2 mX12_setSpeed d (KV G κ cs ss 8 L st) X2 → AW G κ2 mc ms 0 [some (.inr (some b)), some (.inl p0), some (.inl p1)] [] σ) : AW G κ (cs + mc) (ss + ms) 5 L (.int p1 :: .int p0 :: .ref b :: st) σ := aw_invVH hΓ (M2 := mX12_setSpeed) [.inl p0, .inl p1] mc ms X2 hX okX12_setSpeed ckX12 rfl q1234 q1235 q1233 rfl (Nat.le_of_ble_eq_true rfl) hst dL_setSpeed_5 hσ body
theorem cL_setSpeed_0 {κ : Kx} (hN : NcK κ) : CatchAt κ mL_setSpeed 5 "java/lang/IllegalArgumentException" 13 := by
  obtain ⟨p, l, e, R, s, m, args, below, meth, c, Z⟩ := κ
  have hN : NcS s := hN
  exact ⟨[], ⟨0, 10, 13, 13⟩, [⟨0, 10, 17, 101⟩], "java/lang/IllegalArgumentException", rfl, (fun z hz => by cases hz), rfl, by decide, q716, hN.2.2.1, rfl⟩
theorem cL_setSpeed_1 {κ : Kx} (hN : NcK κ) : CatchAt κ mL_setSpeed 5 "java/lang/IllegalStateException" 17 := by
  obtain ⟨p, l, e, R, s, m, args, below, meth, c, Z⟩ := κ
  have hN : NcS s := hN
  exact ⟨[⟨0, 10, 13, 13⟩], ⟨0, 10, 17, 101⟩, [], "java/lang/IllegalStateException", rfl, (fun z hz => by
    simp only [List.mem_cons, List.not_mem_nil, or_false] at hz
    rcases hz with hz
    · subst hz; exact Or.inr ⟨by decide, "java/lang/IllegalArgumentException", q716, hN.1.1⟩), rfl, by decide, q1190, hN.2.1, rfl⟩
theorem wL_setSpeed {G : Gl} {κ : Kx} {d : Nat} {Q : Option Value → Hp → Prop} {X : String → Hp → Prop} {cs ss : Nat} {σ : Hp} {x o : Nat} {p0 : Int32} {p1 : Int32} {fs : List Value} {f : Nat → Int64} (hΓ : Ok G κ mL_setSpeed (d + 1) Q X) (hN : NcK κ) (mc ms : Nat) (hx : σ x = some (.inr (9, fs))) (RT : Int32 → Hp → Prop) (TH : String → Hp → Prop) (body : ∀ (κ2 : Kx) (Q2 : Option Value → Hp → Prop) (X2 : String → Hp → Prop), Ok G κ2 mX12_setSpeed d Q2 X2 → (∀ v σ1, RT v σ1 → Q2 (some (.int v)) σ1) → (∀ E σ1, TH E σ1 → X2 E σ1) → AW G κ2 mc ms 0 [lR x, lI p0, lI p1] [] σ) (hR : ∀ v σ1, RT v σ1 → σ1 o = some (eL G 1 f) ∧ Q (some (.int 0)) (hset σ1 o (eL G 1 (vp_updL f 0 v.toInt64)))) (hT : ∀ E σ1, TH E σ1 → (E = "java/lang/IllegalArgumentException" ∧ Q (some (.int 1)) σ1) ∨ (E = "java/lang/IllegalStateException" ∧ Q (some (.int 2)) σ1)) : AW G κ (cs + mc) (ss + ms) 0 [lR x, lI p0, lI p1, lR o, none] [] σ := by
  refine sL_setSpeed_0 hΓ rfl ?_
  refine sL_setSpeed_1 hΓ ?_
  refine sL_setSpeed_2 hΓ rfl ?_
  refine sL_setSpeed_3 hΓ rfl ?_
  refine sL_setSpeed_4 hΓ rfl ?_
  suffices after : ∀ (v : Int32) (σ1 : Hp), RT v σ1 → AW G κ cs ss 8 [lR x, lI p0, lI p1, lR o, none] [.int v, .int 0, .ref o] σ1 by
    refine sL_setSpeed_5 hΓ mc ms TH (fun E σ1 hE => ?_) (Nat.le_of_ble_eq_true rfl) hx (fun κ2 hok => body κ2 _ _ hok (fun v σ1 hv => after v σ1 hv) (fun E σ1 hE => hE))
    rcases hT E σ1 hE with ⟨rfl, hq⟩ | ⟨rfl, hq⟩
    · refine ⟨13, cL_setSpeed_0 hN, fun q9 => ?_⟩
      refine sL_setSpeed_13 hΓ ?_
      refine sL_setSpeed_15 hΓ ?_
      exact sL_setSpeed_16 hΓ hq
    · refine ⟨17, cL_setSpeed_1 hN, fun q9 => ?_⟩
      refine sL_setSpeed_17 hΓ ?_
      refine sL_setSpeed_19 hΓ ?_
      exact sL_setSpeed_20 hΓ hq
  intro v σ1 hv
  obtain ⟨ho, hq⟩ := hR v σ1 hv
  refine sL_setSpeed_8 hΓ ?_
  refine sL_setSpeed_9 hΓ ho (j := 0) rfl (by decide) (by decide) ?_
  refine sL_setSpeed_10 hΓ ?_
  refine sL_setSpeed_21 hΓ ?_
  exact sL_setSpeed_22 hΓ hq
theorem q1244 : Cond.codeWith yL_setLamp cL_setLamp (5) (Option.some FieldType.int) (mH mL_setLamp) ∈ lw_tbl := List.mem_of_getElem? (i := 1244) (by decide +kernel)
theorem q1245 : Cond.methodLink "TrainDecoderLaw" (106) ⟨"TrainDecoder", "setLamp", "(II)I"⟩ ∈ lw_tbl := List.mem_of_getElem? (i := 1245) (by decide +kernel)
theorem q1246 : Cond.instanceMethod ⟨"TrainDecoder", "setLamp", "(II)I"⟩ ∈ lw_tbl := List.mem_of_getElem? (i := 1246) (by decide +kernel)
theorem q1247 : Cond.selects "TrainDecoder" ⟨"TrainDecoder", "setLamp", "(II)I"⟩ ⟨"TrainDecoder", "setLamp", "(II)I"⟩ ∈ lw_tbl := List.mem_of_getElem? (i := 1247) (by decide +kernel)
theorem okL_setLamp : MOkH mL_setLamp 4 := ⟨by decide +kernel, q1244, q108, ⟨by decide +kernel, by decide +kernel⟩, by decide +kernel, by decide +kernel⟩
theorem sL_setLamp_5 {G : Gl} {κ : Kx} {d : Nat} {Q : Option Value → Hp → Prop} {X : String → Hp → Prop} {cs ss : Nat} {L : List (Option LV)} {st : List Value} {σ : Hp} {b : Nat} {fs : List Value} {p0 : Int32} {p1 : Int32} (hΓ : Ok G κ mL_setLamp (d + 1) Q X) (mc ms : Nat) (X2 : String → Hp → Prop) (hX : ∀ (E : String) (σ1 : Hp), X2 E σ1 → ∃ h, CatchAt κ mL_setLamp 5 E h ∧ ∀ q : Nat, AW G κ cs ss h L [.ref q] σ1) (hst : (st.map fun v => v.category).sum ≤ 8) (hσ : σ b = some (.inr (9, fs))) (body : ∀ κ2 : Kx, Ok G κ2 mX12_setLamp d (KV G κ cs ss 8 L st) X2 → AW G κ2 mc ms 0 [some (.inr (some b)), some (.inl p0), some (.inl p1)] [] σ) : AW G κ (cs + mc) (ss + ms) 5 L (.int p1 :: .int p0 :: .ref b :: st) σ := aw_invVH hΓ (M2 := mX12_setLamp) [.inl p0, .inl p1] mc ms X2 hX okX12_setLamp ckX12 rfl q1246 q1247 q1245 rfl (Nat.le_of_ble_eq_true rfl) hst dL_setLamp_5 hσ body
theorem cL_setLamp_0 {κ : Kx} (hN : NcK κ) : CatchAt κ mL_setLamp 5 "java/lang/IllegalArgumentException" 13 := by
  obtain ⟨p, l, e, R, s, m, args, below, meth, c, Z⟩ := κ
  have hN : NcS s := hN
  exact ⟨[], ⟨0, 10, 13, 13⟩, [⟨0, 10, 17, 101⟩], "java/lang/IllegalArgumentException", rfl, (fun z hz => by cases hz), rfl, by decide, q716, hN.2.2.1, rfl⟩
theorem cL_setLamp_1 {κ : Kx} (hN : NcK κ) : CatchAt κ mL_setLamp 5 "java/lang/IllegalStateException" 17 := by
  obtain ⟨p, l, e, R, s, m, args, below, meth, c, Z⟩ := κ
  have hN : NcS s := hN
  exact ⟨[⟨0, 10, 13, 13⟩], ⟨0, 10, 17, 101⟩, [], "java/lang/IllegalStateException", rfl, (fun z hz => by
    simp only [List.mem_cons, List.not_mem_nil, or_false] at hz
    rcases hz with hz
    · subst hz; exact Or.inr ⟨by decide, "java/lang/IllegalArgumentException", q716, hN.1.1⟩), rfl, by decide, q1190, hN.2.1, rfl⟩
theorem wL_setLamp {G : Gl} {κ : Kx} {d : Nat} {Q : Option Value → Hp → Prop} {X : String → Hp → Prop} {cs ss : Nat} {σ : Hp} {x o : Nat} {p0 : Int32} {p1 : Int32} {fs : List Value} {f : Nat → Int64} (hΓ : Ok G κ mL_setLamp (d + 1) Q X) (hN : NcK κ) (mc ms : Nat) (hx : σ x = some (.inr (9, fs))) (RT : Int32 → Hp → Prop) (TH : String → Hp → Prop) (body : ∀ (κ2 : Kx) (Q2 : Option Value → Hp → Prop) (X2 : String → Hp → Prop), Ok G κ2 mX12_setLamp d Q2 X2 → (∀ v σ1, RT v σ1 → Q2 (some (.int v)) σ1) → (∀ E σ1, TH E σ1 → X2 E σ1) → AW G κ2 mc ms 0 [lR x, lI p0, lI p1] [] σ) (hR : ∀ v σ1, RT v σ1 → σ1 o = some (eL G 1 f) ∧ Q (some (.int 0)) (hset σ1 o (eL G 1 (vp_updL f 0 v.toInt64)))) (hT : ∀ E σ1, TH E σ1 → (E = "java/lang/IllegalArgumentException" ∧ Q (some (.int 1)) σ1) ∨ (E = "java/lang/IllegalStateException" ∧ Q (some (.int 2)) σ1)) : AW G κ (cs + mc) (ss + ms) 0 [lR x, lI p0, lI p1, lR o, none] [] σ := by
  refine sL_setLamp_0 hΓ rfl ?_
  refine sL_setLamp_1 hΓ ?_
  refine sL_setLamp_2 hΓ rfl ?_
  refine sL_setLamp_3 hΓ rfl ?_
  refine sL_setLamp_4 hΓ rfl ?_
  suffices after : ∀ (v : Int32) (σ1 : Hp), RT v σ1 → AW G κ cs ss 8 [lR x, lI p0, lI p1, lR o, none] [.int v, .int 0, .ref o] σ1 by
    refine sL_setLamp_5 hΓ mc ms TH (fun E σ1 hE => ?_) (Nat.le_of_ble_eq_true rfl) hx (fun κ2 hok => body κ2 _ _ hok (fun v σ1 hv => after v σ1 hv) (fun E σ1 hE => hE))
    rcases hT E σ1 hE with ⟨rfl, hq⟩ | ⟨rfl, hq⟩
    · refine ⟨13, cL_setLamp_0 hN, fun q9 => ?_⟩
      refine sL_setLamp_13 hΓ ?_
      refine sL_setLamp_15 hΓ ?_
      exact sL_setLamp_16 hΓ hq
    · refine ⟨17, cL_setLamp_1 hN, fun q9 => ?_⟩
      refine sL_setLamp_17 hΓ ?_
      refine sL_setLamp_19 hΓ ?_
      exact sL_setLamp_20 hΓ hq
  intro v σ1 hv
  obtain ⟨ho, hq⟩ := hR v σ1 hv
  refine sL_setLamp_8 hΓ ?_
  refine sL_setLamp_9 hΓ ho (j := 0) rfl (by decide) (by decide) ?_
  refine sL_setLamp_10 hΓ ?_
  refine sL_setLamp_21 hΓ ?_
  exact sL_setLamp_22 hΓ hq
theorem q1251 : Cond.codeWith yL_stop cL_stop (4) (Option.some FieldType.int) (mH mL_stop) ∈ lw_tbl := List.mem_of_getElem? (i := 1251) (by decide +kernel)
theorem q1252 : Cond.methodLink "TrainDecoderLaw" (109) ⟨"TrainDecoder", "stop", "(I)I"⟩ ∈ lw_tbl := List.mem_of_getElem? (i := 1252) (by decide +kernel)
theorem q1253 : Cond.instanceMethod ⟨"TrainDecoder", "stop", "(I)I"⟩ ∈ lw_tbl := List.mem_of_getElem? (i := 1253) (by decide +kernel)
theorem q1254 : Cond.selects "TrainDecoder" ⟨"TrainDecoder", "stop", "(I)I"⟩ ⟨"TrainDecoder", "stop", "(I)I"⟩ ∈ lw_tbl := List.mem_of_getElem? (i := 1254) (by decide +kernel)
theorem okL_stop : MOkH mL_stop 3 := ⟨by decide +kernel, q1251, q108, ⟨by decide +kernel, by decide +kernel⟩, by decide +kernel, by decide +kernel⟩
theorem sL_stop_4 {G : Gl} {κ : Kx} {d : Nat} {Q : Option Value → Hp → Prop} {X : String → Hp → Prop} {cs ss : Nat} {L : List (Option LV)} {st : List Value} {σ : Hp} {b : Nat} {fs : List Value} {p0 : Int32} (hΓ : Ok G κ mL_stop (d + 1) Q X) (mc ms : Nat) (X2 : String → Hp → Prop) (hX : ∀ (E : String) (σ1 : Hp), X2 E σ1 → ∃ h, CatchAt κ mL_stop 4 E h ∧ ∀ q : Nat, AW G κ cs ss h L [.ref q] σ1) (hst : (st.map fun v => v.category).sum ≤ 8) (hσ : σ b = some (.inr (9, fs))) (body : ∀ κ2 : Kx, Ok G κ2 mX12_stop d (KV G κ cs ss 7 L st) X2 → AW G κ2 mc ms 0 [some (.inr (some b)), some (.inl p0)] [] σ) : AW G κ (cs + mc) (ss + ms) 4 L (.int p0 :: .ref b :: st) σ := aw_invVH hΓ (M2 := mX12_stop) [.inl p0] mc ms X2 hX okX12_stop ckX12 rfl q1253 q1254 q1252 rfl (Nat.le_of_ble_eq_true rfl) hst dL_stop_4 hσ body
theorem cL_stop_0 {κ : Kx} (hN : NcK κ) : CatchAt κ mL_stop 4 "java/lang/IllegalArgumentException" 12 := by
  obtain ⟨p, l, e, R, s, m, args, below, meth, c, Z⟩ := κ
  have hN : NcS s := hN
  exact ⟨[], ⟨0, 9, 12, 13⟩, [⟨0, 9, 15, 101⟩], "java/lang/IllegalArgumentException", rfl, (fun z hz => by cases hz), rfl, by decide, q716, hN.2.2.1, rfl⟩
theorem cL_stop_1 {κ : Kx} (hN : NcK κ) : CatchAt κ mL_stop 4 "java/lang/IllegalStateException" 15 := by
  obtain ⟨p, l, e, R, s, m, args, below, meth, c, Z⟩ := κ
  have hN : NcS s := hN
  exact ⟨[⟨0, 9, 12, 13⟩], ⟨0, 9, 15, 101⟩, [], "java/lang/IllegalStateException", rfl, (fun z hz => by
    simp only [List.mem_cons, List.not_mem_nil, or_false] at hz
    rcases hz with hz
    · subst hz; exact Or.inr ⟨by decide, "java/lang/IllegalArgumentException", q716, hN.1.1⟩), rfl, by decide, q1190, hN.2.1, rfl⟩
theorem wL_stop {G : Gl} {κ : Kx} {d : Nat} {Q : Option Value → Hp → Prop} {X : String → Hp → Prop} {cs ss : Nat} {σ : Hp} {x o : Nat} {p0 : Int32} {fs : List Value} {f : Nat → Int64} (hΓ : Ok G κ mL_stop (d + 1) Q X) (hN : NcK κ) (mc ms : Nat) (hx : σ x = some (.inr (9, fs))) (RT : Int32 → Hp → Prop) (TH : String → Hp → Prop) (body : ∀ (κ2 : Kx) (Q2 : Option Value → Hp → Prop) (X2 : String → Hp → Prop), Ok G κ2 mX12_stop d Q2 X2 → (∀ v σ1, RT v σ1 → Q2 (some (.int v)) σ1) → (∀ E σ1, TH E σ1 → X2 E σ1) → AW G κ2 mc ms 0 [lR x, lI p0] [] σ) (hR : ∀ v σ1, RT v σ1 → σ1 o = some (eL G 1 f) ∧ Q (some (.int 0)) (hset σ1 o (eL G 1 (vp_updL f 0 v.toInt64)))) (hT : ∀ E σ1, TH E σ1 → (E = "java/lang/IllegalArgumentException" ∧ Q (some (.int 1)) σ1) ∨ (E = "java/lang/IllegalStateException" ∧ Q (some (.int 2)) σ1)) : AW G κ (cs + mc) (ss + ms) 0 [lR x, lI p0, lR o, none] [] σ := by
  refine sL_stop_0 hΓ rfl ?_
  refine sL_stop_1 hΓ ?_
  refine sL_stop_2 hΓ rfl ?_
  refine sL_stop_3 hΓ rfl ?_
  suffices after : ∀ (v : Int32) (σ1 : Hp), RT v σ1 → AW G κ cs ss 7 [lR x, lI p0, lR o, none] [.int v, .int 0, .ref o] σ1 by
    refine sL_stop_4 hΓ mc ms TH (fun E σ1 hE => ?_) (Nat.le_of_ble_eq_true rfl) hx (fun κ2 hok => body κ2 _ _ hok (fun v σ1 hv => after v σ1 hv) (fun E σ1 hE => hE))
    rcases hT E σ1 hE with ⟨rfl, hq⟩ | ⟨rfl, hq⟩
    · refine ⟨12, cL_stop_0 hN, fun q9 => ?_⟩
      refine sL_stop_12 hΓ ?_
      refine sL_stop_13 hΓ ?_
      exact sL_stop_14 hΓ hq
    · refine ⟨15, cL_stop_1 hN, fun q9 => ?_⟩
      refine sL_stop_15 hΓ ?_
      refine sL_stop_16 hΓ ?_
      exact sL_stop_17 hΓ hq
  intro v σ1 hv
  obtain ⟨ho, hq⟩ := hR v σ1 hv
  refine sL_stop_7 hΓ ?_
  refine sL_stop_8 hΓ ho (j := 0) rfl (by decide) (by decide) ?_
  refine sL_stop_9 hΓ ?_
  refine sL_stop_18 hΓ ?_
  exact sL_stop_19 hΓ hq
theorem q1263 : Cond.codeWith yL_setShort cL_setShort (5) (Option.some FieldType.int) (mH mL_setShort) ∈ lw_tbl := List.mem_of_getElem? (i := 1263) (by decide +kernel)
theorem q1264 : Cond.methodLink "TrainDecoderLaw" (112) ⟨"TrainDecoder", "setShort", "(IZ)I"⟩ ∈ lw_tbl := List.mem_of_getElem? (i := 1264) (by decide +kernel)
theorem q1265 : Cond.instanceMethod ⟨"TrainDecoder", "setShort", "(IZ)I"⟩ ∈ lw_tbl := List.mem_of_getElem? (i := 1265) (by decide +kernel)
theorem q1266 : Cond.selects "TrainDecoder" ⟨"TrainDecoder", "setShort", "(IZ)I"⟩ ⟨"TrainDecoder", "setShort", "(IZ)I"⟩ ∈ lw_tbl := List.mem_of_getElem? (i := 1266) (by decide +kernel)
theorem okL_setShort : MOkH mL_setShort 4 := ⟨by decide +kernel, q1263, q108, ⟨by decide +kernel, by decide +kernel⟩, by decide +kernel, by decide +kernel⟩
theorem sL_setShort_5 {G : Gl} {κ : Kx} {d : Nat} {Q : Option Value → Hp → Prop} {X : String → Hp → Prop} {cs ss : Nat} {L : List (Option LV)} {st : List Value} {σ : Hp} {b : Nat} {fs : List Value} {p0 : Int32} {p1 : Int32} (hΓ : Ok G κ mL_setShort (d + 1) Q X) (mc ms : Nat) (X2 : String → Hp → Prop) (hX : ∀ (E : String) (σ1 : Hp), X2 E σ1 → ∃ h, CatchAt κ mL_setShort 5 E h ∧ ∀ q : Nat, AW G κ cs ss h L [.ref q] σ1) (hst : (st.map fun v => v.category).sum ≤ 8) (hσ : σ b = some (.inr (9, fs))) (body : ∀ κ2 : Kx, Ok G κ2 mX12_setShort d (KV G κ cs ss 8 L st) X2 → AW G κ2 mc ms 0 [some (.inr (some b)), some (.inl p0), some (.inl p1)] [] σ) : AW G κ (cs + mc) (ss + ms) 5 L (.int p1 :: .int p0 :: .ref b :: st) σ := aw_invVH hΓ (M2 := mX12_setShort) [.inl p0, .inl p1] mc ms X2 hX okX12_setShort ckX12 rfl q1265 q1266 q1264 rfl (Nat.le_of_ble_eq_true rfl) hst dL_setShort_5 hσ body
theorem cL_setShort_0 {κ : Kx} (hN : NcK κ) : CatchAt κ mL_setShort 5 "java/lang/IndexOutOfBoundsException" 13 := by
  obtain ⟨p, l, e, R, s, m, args, below, meth, c, Z⟩ := κ
  have hN : NcS s := hN
  exact ⟨[], ⟨0, 10, 13, 19⟩, [], "java/lang/IndexOutOfBoundsException", rfl, (fun z hz => by cases hz), rfl, by decide, q932, hN.2.2.2, rfl⟩
theorem wL_setShort {G : Gl} {κ : Kx} {d : Nat} {Q : Option Value → Hp → Prop} {X : String → Hp → Prop} {cs ss : Nat} {σ : Hp} {x o : Nat} {p0 : Int32} {p1 : Int32} {fs : List Value} {f : Nat → Int64} (hΓ : Ok G κ mL_setShort (d + 1) Q X) (hN : NcK κ) (mc ms : Nat) (hx : σ x = some (.inr (9, fs))) (RT : Int32 → Hp → Prop) (TH : String → Hp → Prop) (body : ∀ (κ2 : Kx) (Q2 : Option Value → Hp → Prop) (X2 : String → Hp → Prop), Ok G κ2 mX12_setShort d Q2 X2 → (∀ v σ1, RT v σ1 → Q2 (some (.int v)) σ1) → (∀ E σ1, TH E σ1 → X2 E σ1) → AW G κ2 mc ms 0 [lR x, lI p0, lI p1] [] σ) (hR : ∀ v σ1, RT v σ1 → σ1 o = some (eL G 1 f) ∧ Q (some (.int 0)) (hset σ1 o (eL G 1 (vp_updL f 0 v.toInt64)))) (hT : ∀ E σ1, TH E σ1 → (E = "java/lang/IndexOutOfBoundsException" ∧ Q (some (.int 1)) σ1)) : AW G κ (cs + mc) (ss + ms) 0 [lR x, lI p0, lI p1, lR o, none] [] σ := by
  refine sL_setShort_0 hΓ rfl ?_
  refine sL_setShort_1 hΓ ?_
  refine sL_setShort_2 hΓ rfl ?_
  refine sL_setShort_3 hΓ rfl ?_
  refine sL_setShort_4 hΓ rfl ?_
  suffices after : ∀ (v : Int32) (σ1 : Hp), RT v σ1 → AW G κ cs ss 8 [lR x, lI p0, lI p1, lR o, none] [.int v, .int 0, .ref o] σ1 by
    refine sL_setShort_5 hΓ mc ms TH (fun E σ1 hE => ?_) (Nat.le_of_ble_eq_true rfl) hx (fun κ2 hok => body κ2 _ _ hok (fun v σ1 hv => after v σ1 hv) (fun E σ1 hE => hE))
    rcases hT E σ1 hE with ⟨rfl, hq⟩
    · refine ⟨13, cL_setShort_0 hN, fun q9 => ?_⟩
      refine sL_setShort_13 hΓ ?_
      refine sL_setShort_15 hΓ ?_
      exact sL_setShort_16 hΓ hq
  intro v σ1 hv
  obtain ⟨ho, hq⟩ := hR v σ1 hv
  refine sL_setShort_8 hΓ ?_
  refine sL_setShort_9 hΓ ho (j := 0) rfl (by decide) (by decide) ?_
  refine sL_setShort_10 hΓ ?_
  refine sL_setShort_17 hΓ ?_
  exact sL_setShort_18 hΓ hq
theorem q1270 : Cond.codeWith yL_readdress cL_readdress (5) (Option.some FieldType.int) (mH mL_readdress) ∈ lw_tbl := List.mem_of_getElem? (i := 1270) (by decide +kernel)
theorem q1271 : Cond.methodLink "TrainDecoderLaw" (116) ⟨"TrainDecoder", "readdress", "(II)I"⟩ ∈ lw_tbl := List.mem_of_getElem? (i := 1271) (by decide +kernel)
theorem q1272 : Cond.instanceMethod ⟨"TrainDecoder", "readdress", "(II)I"⟩ ∈ lw_tbl := List.mem_of_getElem? (i := 1272) (by decide +kernel)
theorem q1273 : Cond.selects "TrainDecoder" ⟨"TrainDecoder", "readdress", "(II)I"⟩ ⟨"TrainDecoder", "readdress", "(II)I"⟩ ∈ lw_tbl := List.mem_of_getElem? (i := 1273) (by decide +kernel)
theorem okL_readdress : MOkH mL_readdress 4 := ⟨by decide +kernel, q1270, q108, ⟨by decide +kernel, by decide +kernel⟩, by decide +kernel, by decide +kernel⟩
theorem sL_readdress_5 {G : Gl} {κ : Kx} {d : Nat} {Q : Option Value → Hp → Prop} {X : String → Hp → Prop} {cs ss : Nat} {L : List (Option LV)} {st : List Value} {σ : Hp} {b : Nat} {fs : List Value} {p0 : Int32} {p1 : Int32} (hΓ : Ok G κ mL_readdress (d + 1) Q X) (mc ms : Nat) (X2 : String → Hp → Prop) (hX : ∀ (E : String) (σ1 : Hp), X2 E σ1 → ∃ h, CatchAt κ mL_readdress 5 E h ∧ ∀ q : Nat, AW G κ cs ss h L [.ref q] σ1) (hst : (st.map fun v => v.category).sum ≤ 8) (hσ : σ b = some (.inr (9, fs))) (body : ∀ κ2 : Kx, Ok G κ2 mX12_readdress d (KV G κ cs ss 8 L st) X2 → AW G κ2 mc ms 0 [some (.inr (some b)), some (.inl p0), some (.inl p1), none, none] [] σ) : AW G κ (cs + mc) (ss + ms) 5 L (.int p1 :: .int p0 :: .ref b :: st) σ := aw_invVH hΓ (M2 := mX12_readdress) [.inl p0, .inl p1] mc ms X2 hX okX12_readdress ckX12 rfl q1272 q1273 q1271 rfl (Nat.le_of_ble_eq_true rfl) hst dL_readdress_5 hσ body
theorem cL_readdress_0 {κ : Kx} (hN : NcK κ) : CatchAt κ mL_readdress 5 "java/lang/IndexOutOfBoundsException" 13 := by
  obtain ⟨p, l, e, R, s, m, args, below, meth, c, Z⟩ := κ
  have hN : NcS s := hN
  exact ⟨[], ⟨0, 10, 13, 19⟩, [⟨0, 10, 17, 13⟩, ⟨0, 10, 21, 101⟩], "java/lang/IndexOutOfBoundsException", rfl, (fun z hz => by cases hz), rfl, by decide, q932, hN.2.2.2, rfl⟩
theorem cL_readdress_1 {κ : Kx} (hN : NcK κ) : CatchAt κ mL_readdress 5 "java/lang/IllegalArgumentException" 17 := by
  obtain ⟨p, l, e, R, s, m, args, below, meth, c, Z⟩ := κ
  have hN : NcS s := hN
  exact ⟨[⟨0, 10, 13, 19⟩], ⟨0, 10, 17, 13⟩, [⟨0, 10, 21, 101⟩], "java/lang/IllegalArgumentException", rfl, (fun z hz => by
    simp only [List.mem_cons, List.not_mem_nil, or_false] at hz
    rcases hz with hz
    · subst hz; exact Or.inr ⟨by decide, "java/lang/IndexOutOfBoundsException", q932, hN.1.2.2⟩), rfl, by decide, q716, hN.2.2.1, rfl⟩
theorem cL_readdress_2 {κ : Kx} (hN : NcK κ) : CatchAt κ mL_readdress 5 "java/lang/IllegalStateException" 21 := by
  obtain ⟨p, l, e, R, s, m, args, below, meth, c, Z⟩ := κ
  have hN : NcS s := hN
  exact ⟨[⟨0, 10, 13, 19⟩, ⟨0, 10, 17, 13⟩], ⟨0, 10, 21, 101⟩, [], "java/lang/IllegalStateException", rfl, (fun z hz => by
    simp only [List.mem_cons, List.not_mem_nil, or_false] at hz
    rcases hz with hz | hz
    · subst hz; exact Or.inr ⟨by decide, "java/lang/IndexOutOfBoundsException", q932, hN.1.2.1⟩
    · subst hz; exact Or.inr ⟨by decide, "java/lang/IllegalArgumentException", q716, hN.1.1⟩), rfl, by decide, q1190, hN.2.1, rfl⟩
theorem wL_readdress {G : Gl} {κ : Kx} {d : Nat} {Q : Option Value → Hp → Prop} {X : String → Hp → Prop} {cs ss : Nat} {σ : Hp} {x o : Nat} {p0 : Int32} {p1 : Int32} {fs : List Value} {f : Nat → Int64} (hΓ : Ok G κ mL_readdress (d + 1) Q X) (hN : NcK κ) (mc ms : Nat) (hx : σ x = some (.inr (9, fs))) (RT : Int32 → Hp → Prop) (TH : String → Hp → Prop) (body : ∀ (κ2 : Kx) (Q2 : Option Value → Hp → Prop) (X2 : String → Hp → Prop), Ok G κ2 mX12_readdress d Q2 X2 → (∀ v σ1, RT v σ1 → Q2 (some (.int v)) σ1) → (∀ E σ1, TH E σ1 → X2 E σ1) → AW G κ2 mc ms 0 [lR x, lI p0, lI p1, none, none] [] σ) (hR : ∀ v σ1, RT v σ1 → σ1 o = some (eL G 1 f) ∧ Q (some (.int 0)) (hset σ1 o (eL G 1 (vp_updL f 0 v.toInt64)))) (hT : ∀ E σ1, TH E σ1 → (E = "java/lang/IndexOutOfBoundsException" ∧ Q (some (.int 1)) σ1) ∨ (E = "java/lang/IllegalArgumentException" ∧ Q (some (.int 2)) σ1) ∨ (E = "java/lang/IllegalStateException" ∧ Q (some (.int 3)) σ1)) : AW G κ (cs + mc) (ss + ms) 0 [lR x, lI p0, lI p1, lR o, none] [] σ := by
  refine sL_readdress_0 hΓ rfl ?_
  refine sL_readdress_1 hΓ ?_
  refine sL_readdress_2 hΓ rfl ?_
  refine sL_readdress_3 hΓ rfl ?_
  refine sL_readdress_4 hΓ rfl ?_
  suffices after : ∀ (v : Int32) (σ1 : Hp), RT v σ1 → AW G κ cs ss 8 [lR x, lI p0, lI p1, lR o, none] [.int v, .int 0, .ref o] σ1 by
    refine sL_readdress_5 hΓ mc ms TH (fun E σ1 hE => ?_) (Nat.le_of_ble_eq_true rfl) hx (fun κ2 hok => body κ2 _ _ hok (fun v σ1 hv => after v σ1 hv) (fun E σ1 hE => hE))
    rcases hT E σ1 hE with ⟨rfl, hq⟩ | ⟨rfl, hq⟩ | ⟨rfl, hq⟩
    · refine ⟨13, cL_readdress_0 hN, fun q9 => ?_⟩
      refine sL_readdress_13 hΓ ?_
      refine sL_readdress_15 hΓ ?_
      exact sL_readdress_16 hΓ hq
    · refine ⟨17, cL_readdress_1 hN, fun q9 => ?_⟩
      refine sL_readdress_17 hΓ ?_
      refine sL_readdress_19 hΓ ?_
      exact sL_readdress_20 hΓ hq
    · refine ⟨21, cL_readdress_2 hN, fun q9 => ?_⟩
      refine sL_readdress_21 hΓ ?_
      refine sL_readdress_23 hΓ ?_
      exact sL_readdress_24 hΓ hq
  intro v σ1 hv
  obtain ⟨ho, hq⟩ := hR v σ1 hv
  refine sL_readdress_8 hΓ ?_
  refine sL_readdress_9 hΓ ho (j := 0) rfl (by decide) (by decide) ?_
  refine sL_readdress_10 hΓ ?_
  refine sL_readdress_25 hΓ ?_
  exact sL_readdress_26 hΓ hq
theorem q1279 : Cond.codeWith yL_passTicks cL_passTicks (4) (Option.some FieldType.int) (mH mL_passTicks) ∈ lw_tbl := List.mem_of_getElem? (i := 1279) (by decide +kernel)
theorem q1280 : Cond.methodLink "TrainDecoderLaw" (119) ⟨"TrainDecoder", "passTicks", "(I)I"⟩ ∈ lw_tbl := List.mem_of_getElem? (i := 1280) (by decide +kernel)
theorem q1281 : Cond.instanceMethod ⟨"TrainDecoder", "passTicks", "(I)I"⟩ ∈ lw_tbl := List.mem_of_getElem? (i := 1281) (by decide +kernel)
theorem q1282 : Cond.selects "TrainDecoder" ⟨"TrainDecoder", "passTicks", "(I)I"⟩ ⟨"TrainDecoder", "passTicks", "(I)I"⟩ ∈ lw_tbl := List.mem_of_getElem? (i := 1282) (by decide +kernel)
theorem okL_passTicks : MOkH mL_passTicks 3 := ⟨by decide +kernel, q1279, q108, ⟨by decide +kernel, by decide +kernel⟩, by decide +kernel, by decide +kernel⟩
theorem sL_passTicks_4 {G : Gl} {κ : Kx} {d : Nat} {Q : Option Value → Hp → Prop} {X : String → Hp → Prop} {cs ss : Nat} {L : List (Option LV)} {st : List Value} {σ : Hp} {b : Nat} {fs : List Value} {p0 : Int32} (hΓ : Ok G κ mL_passTicks (d + 1) Q X) (mc ms : Nat) (X2 : String → Hp → Prop) (hX : ∀ (E : String) (σ1 : Hp), X2 E σ1 → ∃ h, CatchAt κ mL_passTicks 4 E h ∧ ∀ q : Nat, AW G κ cs ss h L [.ref q] σ1) (hst : (st.map fun v => v.category).sum ≤ 8) (hσ : σ b = some (.inr (9, fs))) (body : ∀ κ2 : Kx, Ok G κ2 mX12_passTicks d (KV G κ cs ss 7 L st) X2 → AW G κ2 mc ms 0 [some (.inr (some b)), some (.inl p0), none] [] σ) : AW G κ (cs + mc) (ss + ms) 4 L (.int p0 :: .ref b :: st) σ := aw_invVH hΓ (M2 := mX12_passTicks) [.inl p0] mc ms X2 hX okX12_passTicks ckX12 rfl q1281 q1282 q1280 rfl (Nat.le_of_ble_eq_true rfl) hst dL_passTicks_4 hσ body
theorem cL_passTicks_0 {κ : Kx} (hN : NcK κ) : CatchAt κ mL_passTicks 4 "java/lang/IllegalArgumentException" 12 := by
  obtain ⟨p, l, e, R, s, m, args, below, meth, c, Z⟩ := κ
  have hN : NcS s := hN
  exact ⟨[], ⟨0, 9, 12, 13⟩, [⟨0, 9, 15, 101⟩], "java/lang/IllegalArgumentException", rfl, (fun z hz => by cases hz), rfl, by decide, q716, hN.2.2.1, rfl⟩
theorem cL_passTicks_1 {κ : Kx} (hN : NcK κ) : CatchAt κ mL_passTicks 4 "java/lang/IllegalStateException" 15 := by
  obtain ⟨p, l, e, R, s, m, args, below, meth, c, Z⟩ := κ
  have hN : NcS s := hN
  exact ⟨[⟨0, 9, 12, 13⟩], ⟨0, 9, 15, 101⟩, [], "java/lang/IllegalStateException", rfl, (fun z hz => by
    simp only [List.mem_cons, List.not_mem_nil, or_false] at hz
    rcases hz with hz
    · subst hz; exact Or.inr ⟨by decide, "java/lang/IllegalArgumentException", q716, hN.1.1⟩), rfl, by decide, q1190, hN.2.1, rfl⟩
theorem wL_passTicks {G : Gl} {κ : Kx} {d : Nat} {Q : Option Value → Hp → Prop} {X : String → Hp → Prop} {cs ss : Nat} {σ : Hp} {x o : Nat} {p0 : Int32} {fs : List Value} {f : Nat → Int64} (hΓ : Ok G κ mL_passTicks (d + 1) Q X) (hN : NcK κ) (mc ms : Nat) (hx : σ x = some (.inr (9, fs))) (RT : Int32 → Hp → Prop) (TH : String → Hp → Prop) (body : ∀ (κ2 : Kx) (Q2 : Option Value → Hp → Prop) (X2 : String → Hp → Prop), Ok G κ2 mX12_passTicks d Q2 X2 → (∀ v σ1, RT v σ1 → Q2 (some (.int v)) σ1) → (∀ E σ1, TH E σ1 → X2 E σ1) → AW G κ2 mc ms 0 [lR x, lI p0, none] [] σ) (hR : ∀ v σ1, RT v σ1 → σ1 o = some (eL G 1 f) ∧ Q (some (.int 0)) (hset σ1 o (eL G 1 (vp_updL f 0 v.toInt64)))) (hT : ∀ E σ1, TH E σ1 → (E = "java/lang/IllegalArgumentException" ∧ Q (some (.int 1)) σ1) ∨ (E = "java/lang/IllegalStateException" ∧ Q (some (.int 2)) σ1)) : AW G κ (cs + mc) (ss + ms) 0 [lR x, lI p0, lR o, none] [] σ := by
  refine sL_passTicks_0 hΓ rfl ?_
  refine sL_passTicks_1 hΓ ?_
  refine sL_passTicks_2 hΓ rfl ?_
  refine sL_passTicks_3 hΓ rfl ?_
  suffices after : ∀ (v : Int32) (σ1 : Hp), RT v σ1 → AW G κ cs ss 7 [lR x, lI p0, lR o, none] [.int v, .int 0, .ref o] σ1 by
    refine sL_passTicks_4 hΓ mc ms TH (fun E σ1 hE => ?_) (Nat.le_of_ble_eq_true rfl) hx (fun κ2 hok => body κ2 _ _ hok (fun v σ1 hv => after v σ1 hv) (fun E σ1 hE => hE))
    rcases hT E σ1 hE with ⟨rfl, hq⟩ | ⟨rfl, hq⟩
    · refine ⟨12, cL_passTicks_0 hN, fun q9 => ?_⟩
      refine sL_passTicks_12 hΓ ?_
      refine sL_passTicks_13 hΓ ?_
      exact sL_passTicks_14 hΓ hq
    · refine ⟨15, cL_passTicks_1 hN, fun q9 => ?_⟩
      refine sL_passTicks_15 hΓ ?_
      refine sL_passTicks_16 hΓ ?_
      exact sL_passTicks_17 hΓ hq
  intro v σ1 hv
  obtain ⟨ho, hq⟩ := hR v σ1 hv
  refine sL_passTicks_7 hΓ ?_
  refine sL_passTicks_8 hΓ ho (j := 0) rfl (by decide) (by decide) ?_
  refine sL_passTicks_9 hΓ ?_
  refine sL_passTicks_18 hΓ ?_
  exact sL_passTicks_19 hΓ hq
theorem q1288 : Cond.codeWith yL_runScript cL_runScript (4) (Option.some FieldType.int) (mH mL_runScript) ∈ lw_tbl := List.mem_of_getElem? (i := 1288) (by decide +kernel)
theorem q1289 : Cond.methodLink "TrainDecoderLaw" (122) ⟨"TrainDecoder", "runScript", "(I)I"⟩ ∈ lw_tbl := List.mem_of_getElem? (i := 1289) (by decide +kernel)
theorem q1290 : Cond.instanceMethod ⟨"TrainDecoder", "runScript", "(I)I"⟩ ∈ lw_tbl := List.mem_of_getElem? (i := 1290) (by decide +kernel)
theorem q1291 : Cond.selects "TrainDecoder" ⟨"TrainDecoder", "runScript", "(I)I"⟩ ⟨"TrainDecoder", "runScript", "(I)I"⟩ ∈ lw_tbl := List.mem_of_getElem? (i := 1291) (by decide +kernel)
theorem okL_runScript : MOkH mL_runScript 3 := ⟨by decide +kernel, q1288, q108, ⟨by decide +kernel, by decide +kernel⟩, by decide +kernel, by decide +kernel⟩
theorem sL_runScript_4 {G : Gl} {κ : Kx} {d : Nat} {Q : Option Value → Hp → Prop} {X : String → Hp → Prop} {cs ss : Nat} {L : List (Option LV)} {st : List Value} {σ : Hp} {b : Nat} {fs : List Value} {p0 : Int32} (hΓ : Ok G κ mL_runScript (d + 1) Q X) (mc ms : Nat) (X2 : String → Hp → Prop) (hX : ∀ (E : String) (σ1 : Hp), X2 E σ1 → ∃ h, CatchAt κ mL_runScript 4 E h ∧ ∀ q : Nat, AW G κ cs ss h L [.ref q] σ1) (hst : (st.map fun v => v.category).sum ≤ 8) (hσ : σ b = some (.inr (9, fs))) (body : ∀ κ2 : Kx, Ok G κ2 mX12_runScript d (KV G κ cs ss 7 L st) X2 → AW G κ2 mc ms 0 [some (.inr (some b)), some (.inl p0), none] [] σ) : AW G κ (cs + mc) (ss + ms) 4 L (.int p0 :: .ref b :: st) σ := aw_invVH hΓ (M2 := mX12_runScript) [.inl p0] mc ms X2 hX okX12_runScript ckX12 rfl q1290 q1291 q1289 rfl (Nat.le_of_ble_eq_true rfl) hst dL_runScript_4 hσ body
theorem cL_runScript_0 {κ : Kx} (hN : NcK κ) : CatchAt κ mL_runScript 4 "java/lang/IllegalArgumentException" 12 := by
  obtain ⟨p, l, e, R, s, m, args, below, meth, c, Z⟩ := κ
  have hN : NcS s := hN
  exact ⟨[], ⟨0, 9, 12, 13⟩, [], "java/lang/IllegalArgumentException", rfl, (fun z hz => by cases hz), rfl, by decide, q716, hN.2.2.1, rfl⟩
theorem wL_runScript {G : Gl} {κ : Kx} {d : Nat} {Q : Option Value → Hp → Prop} {X : String → Hp → Prop} {cs ss : Nat} {σ : Hp} {x o : Nat} {p0 : Int32} {fs : List Value} {f : Nat → Int64} (hΓ : Ok G κ mL_runScript (d + 1) Q X) (hN : NcK κ) (mc ms : Nat) (hx : σ x = some (.inr (9, fs))) (RT : Int32 → Hp → Prop) (TH : String → Hp → Prop) (body : ∀ (κ2 : Kx) (Q2 : Option Value → Hp → Prop) (X2 : String → Hp → Prop), Ok G κ2 mX12_runScript d Q2 X2 → (∀ v σ1, RT v σ1 → Q2 (some (.int v)) σ1) → (∀ E σ1, TH E σ1 → X2 E σ1) → AW G κ2 mc ms 0 [lR x, lI p0, none] [] σ) (hR : ∀ v σ1, RT v σ1 → σ1 o = some (eL G 1 f) ∧ Q (some (.int 0)) (hset σ1 o (eL G 1 (vp_updL f 0 v.toInt64)))) (hT : ∀ E σ1, TH E σ1 → (E = "java/lang/IllegalArgumentException" ∧ Q (some (.int 1)) σ1)) : AW G κ (cs + mc) (ss + ms) 0 [lR x, lI p0, lR o, none] [] σ := by
  refine sL_runScript_0 hΓ rfl ?_
  refine sL_runScript_1 hΓ ?_
  refine sL_runScript_2 hΓ rfl ?_
  refine sL_runScript_3 hΓ rfl ?_
  suffices after : ∀ (v : Int32) (σ1 : Hp), RT v σ1 → AW G κ cs ss 7 [lR x, lI p0, lR o, none] [.int v, .int 0, .ref o] σ1 by
    refine sL_runScript_4 hΓ mc ms TH (fun E σ1 hE => ?_) (Nat.le_of_ble_eq_true rfl) hx (fun κ2 hok => body κ2 _ _ hok (fun v σ1 hv => after v σ1 hv) (fun E σ1 hE => hE))
    rcases hT E σ1 hE with ⟨rfl, hq⟩
    · refine ⟨12, cL_runScript_0 hN, fun q9 => ?_⟩
      refine sL_runScript_12 hΓ ?_
      refine sL_runScript_13 hΓ ?_
      exact sL_runScript_14 hΓ hq
  intro v σ1 hv
  obtain ⟨ho, hq⟩ := hR v σ1 hv
  refine sL_runScript_7 hΓ ?_
  refine sL_runScript_8 hΓ ho (j := 0) rfl (by decide) (by decide) ?_
  refine sL_runScript_9 hΓ ?_
  refine sL_runScript_15 hΓ ?_
  exact sL_runScript_16 hΓ hq
theorem q1375 : Cond.codeWith yL_outputByte cL_outputByte (4) (Option.some FieldType.int) (mH mL_outputByte) ∈ lw_tbl := List.mem_of_getElem? (i := 1375) (by decide +kernel)
theorem q1376 : Cond.methodLink "TrainDecoderLaw" (125) ⟨"TrainDecoder", "outputByte", "(I)I"⟩ ∈ lw_tbl := List.mem_of_getElem? (i := 1376) (by decide +kernel)
theorem q1377 : Cond.instanceMethod ⟨"TrainDecoder", "outputByte", "(I)I"⟩ ∈ lw_tbl := List.mem_of_getElem? (i := 1377) (by decide +kernel)
theorem q1378 : Cond.selects "TrainDecoder" ⟨"TrainDecoder", "outputByte", "(I)I"⟩ ⟨"TrainDecoder", "outputByte", "(I)I"⟩ ∈ lw_tbl := List.mem_of_getElem? (i := 1378) (by decide +kernel)
theorem okL_outputByte : MOkH mL_outputByte 3 := ⟨by decide +kernel, q1375, q108, ⟨by decide +kernel, by decide +kernel⟩, by decide +kernel, by decide +kernel⟩
theorem sL_outputByte_4 {G : Gl} {κ : Kx} {d : Nat} {Q : Option Value → Hp → Prop} {X : String → Hp → Prop} {cs ss : Nat} {L : List (Option LV)} {st : List Value} {σ : Hp} {b : Nat} {fs : List Value} {p0 : Int32} (hΓ : Ok G κ mL_outputByte (d + 1) Q X) (mc ms : Nat) (X2 : String → Hp → Prop) (hX : ∀ (E : String) (σ1 : Hp), X2 E σ1 → ∃ h, CatchAt κ mL_outputByte 4 E h ∧ ∀ q : Nat, AW G κ cs ss h L [.ref q] σ1) (hst : (st.map fun v => v.category).sum ≤ 8) (hσ : σ b = some (.inr (9, fs))) (body : ∀ κ2 : Kx, Ok G κ2 mX12_outputByte d (KV G κ cs ss 7 L st) X2 → AW G κ2 mc ms 0 [some (.inr (some b)), some (.inl p0)] [] σ) : AW G κ (cs + mc) (ss + ms) 4 L (.int p0 :: .ref b :: st) σ := aw_invVH hΓ (M2 := mX12_outputByte) [.inl p0] mc ms X2 hX okX12_outputByte ckX12 rfl q1377 q1378 q1376 rfl (Nat.le_of_ble_eq_true rfl) hst dL_outputByte_4 hσ body
theorem cL_outputByte_0 {κ : Kx} (hN : NcK κ) : CatchAt κ mL_outputByte 4 "java/lang/IndexOutOfBoundsException" 12 := by
  obtain ⟨p, l, e, R, s, m, args, below, meth, c, Z⟩ := κ
  have hN : NcS s := hN
  exact ⟨[], ⟨0, 9, 12, 19⟩, [], "java/lang/IndexOutOfBoundsException", rfl, (fun z hz => by cases hz), rfl, by decide, q932, hN.2.2.2, rfl⟩
theorem wL_outputByte {G : Gl} {κ : Kx} {d : Nat} {Q : Option Value → Hp → Prop} {X : String → Hp → Prop} {cs ss : Nat} {σ : Hp} {x o : Nat} {p0 : Int32} {fs : List Value} {f : Nat → Int64} (hΓ : Ok G κ mL_outputByte (d + 1) Q X) (hN : NcK κ) (mc ms : Nat) (hx : σ x = some (.inr (9, fs))) (RT : Int32 → Hp → Prop) (TH : String → Hp → Prop) (body : ∀ (κ2 : Kx) (Q2 : Option Value → Hp → Prop) (X2 : String → Hp → Prop), Ok G κ2 mX12_outputByte d Q2 X2 → (∀ v σ1, RT v σ1 → Q2 (some (.int v)) σ1) → (∀ E σ1, TH E σ1 → X2 E σ1) → AW G κ2 mc ms 0 [lR x, lI p0] [] σ) (hR : ∀ v σ1, RT v σ1 → σ1 o = some (eL G 1 f) ∧ Q (some (.int 0)) (hset σ1 o (eL G 1 (vp_updL f 0 v.toInt64)))) (hT : ∀ E σ1, TH E σ1 → (E = "java/lang/IndexOutOfBoundsException" ∧ Q (some (.int 1)) σ1)) : AW G κ (cs + mc) (ss + ms) 0 [lR x, lI p0, lR o, none] [] σ := by
  refine sL_outputByte_0 hΓ rfl ?_
  refine sL_outputByte_1 hΓ ?_
  refine sL_outputByte_2 hΓ rfl ?_
  refine sL_outputByte_3 hΓ rfl ?_
  suffices after : ∀ (v : Int32) (σ1 : Hp), RT v σ1 → AW G κ cs ss 7 [lR x, lI p0, lR o, none] [.int v, .int 0, .ref o] σ1 by
    refine sL_outputByte_4 hΓ mc ms TH (fun E σ1 hE => ?_) (Nat.le_of_ble_eq_true rfl) hx (fun κ2 hok => body κ2 _ _ hok (fun v σ1 hv => after v σ1 hv) (fun E σ1 hE => hE))
    rcases hT E σ1 hE with ⟨rfl, hq⟩
    · refine ⟨12, cL_outputByte_0 hN, fun q9 => ?_⟩
      refine sL_outputByte_12 hΓ ?_
      refine sL_outputByte_13 hΓ ?_
      exact sL_outputByte_14 hΓ hq
  intro v σ1 hv
  obtain ⟨ho, hq⟩ := hR v σ1 hv
  refine sL_outputByte_7 hΓ ?_
  refine sL_outputByte_8 hΓ ho (j := 0) rfl (by decide) (by decide) ?_
  refine sL_outputByte_9 hΓ ?_
  refine sL_outputByte_15 hΓ ?_
  exact sL_outputByte_16 hΓ hq
theorem q1383 : Cond.codeWith yL_undo cL_undo (3) (Option.some FieldType.int) (mH mL_undo) ∈ lw_tbl := List.mem_of_getElem? (i := 1383) (by decide +kernel)
theorem q1384 : Cond.methodLink "TrainDecoderLaw" (128) ⟨"TrainDecoder", "undo", "()I"⟩ ∈ lw_tbl := List.mem_of_getElem? (i := 1384) (by decide +kernel)
theorem q1385 : Cond.instanceMethod ⟨"TrainDecoder", "undo", "()I"⟩ ∈ lw_tbl := List.mem_of_getElem? (i := 1385) (by decide +kernel)
theorem q1386 : Cond.selects "TrainDecoder" ⟨"TrainDecoder", "undo", "()I"⟩ ⟨"TrainDecoder", "undo", "()I"⟩ ∈ lw_tbl := List.mem_of_getElem? (i := 1386) (by decide +kernel)
theorem okL_undo : MOkH mL_undo 2 := ⟨by decide +kernel, q1383, q108, ⟨by decide +kernel, by decide +kernel⟩, by decide +kernel, by decide +kernel⟩
theorem sL_undo_3 {G : Gl} {κ : Kx} {d : Nat} {Q : Option Value → Hp → Prop} {X : String → Hp → Prop} {cs ss : Nat} {L : List (Option LV)} {st : List Value} {σ : Hp} {b : Nat} {fs : List Value} (hΓ : Ok G κ mL_undo (d + 1) Q X) (mc ms : Nat) (X2 : String → Hp → Prop) (hX : ∀ (E : String) (σ1 : Hp), X2 E σ1 → ∃ h, CatchAt κ mL_undo 3 E h ∧ ∀ q : Nat, AW G κ cs ss h L [.ref q] σ1) (hst : (st.map fun v => v.category).sum ≤ 8) (hσ : σ b = some (.inr (9, fs))) (body : ∀ κ2 : Kx, Ok G κ2 mX12_undo d (KV G κ cs ss 6 L st) X2 → AW G κ2 mc ms 0 [some (.inr (some b))] [] σ) : AW G κ (cs + mc) (ss + ms) 3 L (.ref b :: st) σ := aw_invVH hΓ (M2 := mX12_undo) [] mc ms X2 hX okX12_undo ckX12 rfl q1385 q1386 q1384 rfl (Nat.le_of_ble_eq_true rfl) hst dL_undo_3 hσ body
theorem cL_undo_0 {κ : Kx} (hN : NcK κ) : CatchAt κ mL_undo 3 "java/lang/IllegalStateException" 11 := by
  obtain ⟨p, l, e, R, s, m, args, below, meth, c, Z⟩ := κ
  have hN : NcS s := hN
  exact ⟨[], ⟨0, 8, 11, 101⟩, [], "java/lang/IllegalStateException", rfl, (fun z hz => by cases hz), rfl, by decide, q1190, hN.2.1, rfl⟩
theorem wL_undo {G : Gl} {κ : Kx} {d : Nat} {Q : Option Value → Hp → Prop} {X : String → Hp → Prop} {cs ss : Nat} {σ : Hp} {x o : Nat} {fs : List Value} {f : Nat → Int64} (hΓ : Ok G κ mL_undo (d + 1) Q X) (hN : NcK κ) (mc ms : Nat) (hx : σ x = some (.inr (9, fs))) (RT : Int32 → Hp → Prop) (TH : String → Hp → Prop) (body : ∀ (κ2 : Kx) (Q2 : Option Value → Hp → Prop) (X2 : String → Hp → Prop), Ok G κ2 mX12_undo d Q2 X2 → (∀ v σ1, RT v σ1 → Q2 (some (.int v)) σ1) → (∀ E σ1, TH E σ1 → X2 E σ1) → AW G κ2 mc ms 0 [lR x] [] σ) (hR : ∀ v σ1, RT v σ1 → σ1 o = some (eL G 1 f) ∧ Q (some (.int 0)) (hset σ1 o (eL G 1 (vp_updL f 0 v.toInt64)))) (hT : ∀ E σ1, TH E σ1 → (E = "java/lang/IllegalStateException" ∧ Q (some (.int 1)) σ1)) : AW G κ (cs + mc) (ss + ms) 0 [lR x, lR o, none] [] σ := by
  refine sL_undo_0 hΓ rfl ?_
  refine sL_undo_1 hΓ ?_
  refine sL_undo_2 hΓ rfl ?_
  suffices after : ∀ (v : Int32) (σ1 : Hp), RT v σ1 → AW G κ cs ss 6 [lR x, lR o, none] [.int v, .int 0, .ref o] σ1 by
    refine sL_undo_3 hΓ mc ms TH (fun E σ1 hE => ?_) (Nat.le_of_ble_eq_true rfl) hx (fun κ2 hok => body κ2 _ _ hok (fun v σ1 hv => after v σ1 hv) (fun E σ1 hE => hE))
    rcases hT E σ1 hE with ⟨rfl, hq⟩
    · refine ⟨11, cL_undo_0 hN, fun q9 => ?_⟩
      refine sL_undo_11 hΓ ?_
      refine sL_undo_12 hΓ ?_
      exact sL_undo_13 hΓ hq
  intro v σ1 hv
  obtain ⟨ho, hq⟩ := hR v σ1 hv
  refine sL_undo_6 hΓ ?_
  refine sL_undo_7 hΓ ho (j := 0) rfl (by decide) (by decide) ?_
  refine sL_undo_8 hΓ ?_
  refine sL_undo_14 hΓ ?_
  exact sL_undo_15 hΓ hq
theorem q1395 : Cond.codeWith yL_restoreSnapshot cL_restoreSnapshot (3) (Option.some FieldType.int) (mH mL_restoreSnapshot) ∈ lw_tbl := List.mem_of_getElem? (i := 1395) (by decide +kernel)
theorem q1396 : Cond.methodLink "TrainDecoderLaw" (132) ⟨"TrainDecoder", "restoreSnapshot", "()I"⟩ ∈ lw_tbl := List.mem_of_getElem? (i := 1396) (by decide +kernel)
theorem q1397 : Cond.instanceMethod ⟨"TrainDecoder", "restoreSnapshot", "()I"⟩ ∈ lw_tbl := List.mem_of_getElem? (i := 1397) (by decide +kernel)
theorem q1398 : Cond.selects "TrainDecoder" ⟨"TrainDecoder", "restoreSnapshot", "()I"⟩ ⟨"TrainDecoder", "restoreSnapshot", "()I"⟩ ∈ lw_tbl := List.mem_of_getElem? (i := 1398) (by decide +kernel)
theorem okL_restoreSnapshot : MOkH mL_restoreSnapshot 2 := ⟨by decide +kernel, q1395, q108, ⟨by decide +kernel, by decide +kernel⟩, by decide +kernel, by decide +kernel⟩
theorem sL_restoreSnapshot_3 {G : Gl} {κ : Kx} {d : Nat} {Q : Option Value → Hp → Prop} {X : String → Hp → Prop} {cs ss : Nat} {L : List (Option LV)} {st : List Value} {σ : Hp} {b : Nat} {fs : List Value} (hΓ : Ok G κ mL_restoreSnapshot (d + 1) Q X) (mc ms : Nat) (X2 : String → Hp → Prop) (hX : ∀ (E : String) (σ1 : Hp), X2 E σ1 → ∃ h, CatchAt κ mL_restoreSnapshot 3 E h ∧ ∀ q : Nat, AW G κ cs ss h L [.ref q] σ1) (hst : (st.map fun v => v.category).sum ≤ 8) (hσ : σ b = some (.inr (9, fs))) (body : ∀ κ2 : Kx, Ok G κ2 mX12_restoreSnapshot d (KV G κ cs ss 6 L st) X2 → AW G κ2 mc ms 0 [some (.inr (some b))] [] σ) : AW G κ (cs + mc) (ss + ms) 3 L (.ref b :: st) σ := aw_invVH hΓ (M2 := mX12_restoreSnapshot) [] mc ms X2 hX okX12_restoreSnapshot ckX12 rfl q1397 q1398 q1396 rfl (Nat.le_of_ble_eq_true rfl) hst dL_restoreSnapshot_3 hσ body
theorem cL_restoreSnapshot_0 {κ : Kx} (hN : NcK κ) : CatchAt κ mL_restoreSnapshot 3 "java/lang/IllegalStateException" 11 := by
  obtain ⟨p, l, e, R, s, m, args, below, meth, c, Z⟩ := κ
  have hN : NcS s := hN
  exact ⟨[], ⟨0, 8, 11, 101⟩, [], "java/lang/IllegalStateException", rfl, (fun z hz => by cases hz), rfl, by decide, q1190, hN.2.1, rfl⟩
theorem wL_restoreSnapshot {G : Gl} {κ : Kx} {d : Nat} {Q : Option Value → Hp → Prop} {X : String → Hp → Prop} {cs ss : Nat} {σ : Hp} {x o : Nat} {fs : List Value} {f : Nat → Int64} (hΓ : Ok G κ mL_restoreSnapshot (d + 1) Q X) (hN : NcK κ) (mc ms : Nat) (hx : σ x = some (.inr (9, fs))) (RT : Int32 → Hp → Prop) (TH : String → Hp → Prop) (body : ∀ (κ2 : Kx) (Q2 : Option Value → Hp → Prop) (X2 : String → Hp → Prop), Ok G κ2 mX12_restoreSnapshot d Q2 X2 → (∀ v σ1, RT v σ1 → Q2 (some (.int v)) σ1) → (∀ E σ1, TH E σ1 → X2 E σ1) → AW G κ2 mc ms 0 [lR x] [] σ) (hR : ∀ v σ1, RT v σ1 → σ1 o = some (eL G 1 f) ∧ Q (some (.int 0)) (hset σ1 o (eL G 1 (vp_updL f 0 v.toInt64)))) (hT : ∀ E σ1, TH E σ1 → (E = "java/lang/IllegalStateException" ∧ Q (some (.int 1)) σ1)) : AW G κ (cs + mc) (ss + ms) 0 [lR x, lR o, none] [] σ := by
  refine sL_restoreSnapshot_0 hΓ rfl ?_
  refine sL_restoreSnapshot_1 hΓ ?_
  refine sL_restoreSnapshot_2 hΓ rfl ?_
  suffices after : ∀ (v : Int32) (σ1 : Hp), RT v σ1 → AW G κ cs ss 6 [lR x, lR o, none] [.int v, .int 0, .ref o] σ1 by
    refine sL_restoreSnapshot_3 hΓ mc ms TH (fun E σ1 hE => ?_) (Nat.le_of_ble_eq_true rfl) hx (fun κ2 hok => body κ2 _ _ hok (fun v σ1 hv => after v σ1 hv) (fun E σ1 hE => hE))
    rcases hT E σ1 hE with ⟨rfl, hq⟩
    · refine ⟨11, cL_restoreSnapshot_0 hN, fun q9 => ?_⟩
      refine sL_restoreSnapshot_11 hΓ ?_
      refine sL_restoreSnapshot_12 hΓ ?_
      exact sL_restoreSnapshot_13 hΓ hq
  intro v σ1 hv
  obtain ⟨ho, hq⟩ := hR v σ1 hv
  refine sL_restoreSnapshot_6 hΓ ?_
  refine sL_restoreSnapshot_7 hΓ ho (j := 0) rfl (by decide) (by decide) ?_
  refine sL_restoreSnapshot_8 hΓ ?_
  refine sL_restoreSnapshot_14 hΓ ?_
  exact sL_restoreSnapshot_15 hΓ hq
