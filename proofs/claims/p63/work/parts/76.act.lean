/-! the law: act -/
theorem sL_act_177d {G : Gl} {κ : Kx} {d : Nat} {Q : Option Value → Hp → Prop} {X : String → Hp → Prop} {cs ss : Nat} {L : List (Option LV)} {st : List Value} {σ : Hp} {x y : Int32} (hΓ : Ok G κ mL_act d Q X) (k : AW G κ cs ss 185 L (.int (if x = y then 1 else 0) :: st) σ) : AW G κ cs ss 177 L (.int y :: .int x :: st) σ := by
  refine sL_act_177 hΓ (fun c => ?_) (fun c => ?_)
  · refine sL_act_184 hΓ ?_
    rw [if_neg c] at k
    exact k
  · refine sL_act_180 hΓ ?_
    refine sL_act_181 hΓ ?_
    rw [if_pos c] at k
    exact k
theorem sL_act_395d {G : Gl} {κ : Kx} {d : Nat} {Q : Option Value → Hp → Prop} {X : String → Hp → Prop} {cs ss : Nat} {L : List (Option LV)} {st : List Value} {σ : Hp} {x : Int32} (hΓ : Ok G κ mL_act d Q X) (k : AW G κ cs ss 403 L (.int (if x = 0 then 1 else 0) :: st) σ) : AW G κ cs ss 395 L (.int x :: st) σ := by
  refine sL_act_395 hΓ (fun c => ?_) (fun c => ?_)
  · refine sL_act_402 hΓ ?_
    rw [if_neg c] at k
    exact k
  · refine sL_act_398 hΓ ?_
    refine sL_act_399 hΓ ?_
    rw [if_pos c] at k
    exact k
theorem sL_act_435d {G : Gl} {κ : Kx} {d : Nat} {Q : Option Value → Hp → Prop} {X : String → Hp → Prop} {cs ss : Nat} {L : List (Option LV)} {st : List Value} {σ : Hp} {x : Int32} (hΓ : Ok G κ mL_act d Q X) (k : AW G κ cs ss 443 L (.int (if x = 0 then 0 else 1) :: st) σ) : AW G κ cs ss 435 L (.int x :: st) σ := by
  refine sL_act_435 hΓ (fun c => ?_) (fun c => ?_)
  · refine sL_act_442 hΓ ?_
    rw [if_pos c] at k
    exact k
  · refine sL_act_438 hΓ ?_
    refine sL_act_439 hΓ ?_
    rw [if_neg c] at k
    exact k
theorem sL_act_464d {G : Gl} {κ : Kx} {d : Nat} {Q : Option Value → Hp → Prop} {X : String → Hp → Prop} {cs ss : Nat} {L : List (Option LV)} {st : List Value} {σ : Hp} {x : Int32} (hΓ : Ok G κ mL_act d Q X) (k : AW G κ cs ss 472 L (.int (if x = 0 then 0 else 1) :: st) σ) : AW G κ cs ss 464 L (.int x :: st) σ := by
  refine sL_act_464 hΓ (fun c => ?_) (fun c => ?_)
  · refine sL_act_471 hΓ ?_
    rw [if_pos c] at k
    exact k
  · refine sL_act_467 hΓ ?_
    refine sL_act_468 hΓ ?_
    rw [if_neg c] at k
    exact k
theorem sL_act_587d {G : Gl} {κ : Kx} {d : Nat} {Q : Option Value → Hp → Prop} {X : String → Hp → Prop} {cs ss : Nat} {L : List (Option LV)} {st : List Value} {σ : Hp} {x : Int32} (hΓ : Ok G κ mL_act d Q X) (k : AW G κ cs ss 597 L (.int (if x = 0 then 60 else 9) :: st) σ) : AW G κ cs ss 587 L (.int x :: st) σ := by
  refine sL_act_587 hΓ (fun c => ?_) (fun c => ?_)
  · refine sL_act_595 hΓ ?_
    rw [if_neg c] at k
    exact k
  · refine sL_act_590 hΓ ?_
    refine sL_act_592 hΓ ?_
    rw [if_pos c] at k
    exact k
/-- the numbers that an act draws -/
def aU (v : Int32) : Int32 := v >>> ((4 : Int32) &&& 31)
def aS (u : Int32) (i : Int32) (m : Nat) : Nat := mo (u >>> (i &&& 31)) m
def aA (ρ : Nat → Int32) (n : Nat) (u : Int32) : Nat := if aS u 2 6 = 0 then 0 else (ρ (58 + 15 * mo u n + 0)).toNatClampNeg
theorem aA_le {ρ : Nat → Int32} {n s τ : Nat} (h : GR ρ n s τ) (u : Int32) : aA ρ n u ≤ 127 ∧ (¬ aS u 2 6 = 0 → ρ (58 + 15 * mo u n + 0) = nI (aA ρ n u)) := by
  have hn1 : 1 ≤ n := h.1.2.1
  obtain ⟨a, a1, a2, a3⟩ := (h.2.2.2.2.2.2.1 (mo u n) (mo_lt u (by omega))).1
  unfold aA
  by_cases e : aS u 2 6 = 0
  · rw [if_pos e]; exact ⟨by decide, fun e9 => absurd e e9⟩
  · rw [if_neg e, show ρ (58 + 15 * mo u n + 0) = nI a from a3, nI_clamp (by omega)]
    exact ⟨a2, fun _ => rfl⟩
section LawAct
variable {G : Gl} {κ : Kx} {d : Nat} {Q : Option Value → Hp → Prop} {X : String → Hp → Prop} {cs ss pc : Nat} {σ σ1 : Hp} {c c1 A : Nat → Nat} {x am n s τ k q m kk ad wc mk : Nat} {z z1 : Nat → Int32} {B B1 : Nat → Nat → Int32} {F F1 : Hp} {v w2 u : Int32} {ρ : Nat → Int32} {C : Ct}
theorem st_gen {o : Op} {y : Nat → Int32} {row : Nat → Int32} (ho : o = (0, y, row)) (h12 : y 12 = z 12) (hS1 : LwS G σ1 c1 x am A (fZ o kk) (fB B o kk) F) : ∃ z1 B1, LwS G σ1 c1 x am A z1 B1 F ∧ AcO (B 0) row true kk z B z1 B1 ∧ B1 0 = row := ⟨_, _, hS1, AcO.op ho h12, (AcO.op (z := z) ho h12).1⟩
theorem eqI {a b : Int32} : bI (a == b) = if b = a then 1 else 0 := by
  by_cases e : a = b
  · rw [e, beq_self_eq_true, if_pos rfl]; rfl
  · rw [beq_eq_false_iff_ne.mpr e, if_neg (fun e9 => e e9.symm)]; rfl
theorem b_if {y : Int32} (h : y = 0 ∨ y = 1) : bI (y == 1) = y := by rcases h with e | e <;> rw [e] <;> rfl
theorem oI_ge {n : Nat} {ρ : Nat → Int32} {y : Int32} (hn : n ≤ 6) (h : ¬ rFirst ρ n 0 y = none) : 0 ≤ oI (rFirst ρ n 0 y) := by
  cases hf : rFirst ρ n 0 y with
  | none => exact absurd hf h
  | some k =>
    have hk : k < n := by unfold rFirst at hf; exact (fsB_lt _ hf).1
    exact nI_pos' (by omega)
theorem br_send (hΓ : Ok G κ mL_act (d + 10) Q X) (hS : LwS G σ c x am A z B F) (h : GR (B 0) n s τ) (hk8 : kk ≤ 8) (hz8 : z 8 = nI kk) (h6 : B 0 6 = nI q) (hq12 : q ≤ 12) (hqn : q < 12) (ha : ad ≤ 127) (hw : wc ≤ 255) (hm : mk ≤ 255) (hq : ∀ (σ1 : Hp) (c1 : Nat → Nat) (z1 : Nat → Int32) (B1 : Nat → Nat → Int32), LwS G σ1 c1 x am A z1 B1 F → AcO (B 0) (rPut (B 0) q (nI ad) (nI wc) (nI mk)) true kk z B z1 B1 → Q (some (.int 1)) σ1) : AW G κ (cs + 2 + 1 + 1 + 11) (ss + 12 + 6 + 6 + 120) 131 [lR x, lI v, lI w2, lI u, lI (nI k), lI (nI q), lI (nI ad), lI (nI wc), none, none, none, none, none, none, none, none] [.int (nI mk)] σ := by
  obtain ⟨fs, ho⟩ := hS.o
  have hn6 := h.1.n6
  have hs24 := h.1.s4.2.2
  have hQ := rQ_lt h6 hq12
  have n12 : ¬ B 0 6 = 12 := fun e => by
    have := (nI_eq (a := q) (b := 12) (by omega) (by decide)).mp (h6.symm.trans e)
    omega
  have hxb : ad ^^^ wc ≤ 255 := by
    have := Nat.xor_lt_two_pow (n := 8) (show ad < 2 ^ 8 by omega) (show wc < 2 ^ 8 by omega)
    omega
  have hO : oPut (upd z 9 0) (B 0) (rQ (B 0)) (nI ad) (nI wc) (nI mk) = (0, upd (upd z 9 0) 11 (B 0 6 + 1), rPut (B 0) q (nI ad) (nI wc) (nI mk)) := by rw [hQ]; exact if_neg n12
  have e11 : (oPut (upd z 9 0) (B 0) (rQ (B 0)) (nI ad) (nI wc) (nI mk)).2.1 11 = nI q + 1 := by rw [hO, ← h6]; rfl
  refine sL_act_131 hΓ ?_
  refine sL_act_133 hΓ rfl ?_
  refine sL_act_134 hΓ rfl ?_
  refine sL_act_136 hΓ rfl ?_
  refine sL_act_138 hΓ rfl ?_
  refine sL_act_140 hΓ 11 120 (Nat.le_of_ble_eq_true rfl) ho (fun κ_140 hΓ_140 => ct_sendPacket hΓ_140 hS h.1 hk8 hz8 (byte_n (show ad ≤ 255 by omega)) (byte_n hw) (byte_n hm) (by rw [hO]) (fun σ1 c1 hS9 => ?_))
  show AW G κ _ _ 143 _ _ _
  obtain ⟨z1, B1, hS1, hA, eB⟩ := st_gen hO rfl hS9
  rw [e11]
  obtain ⟨fs1, ho1⟩ := hS1.o
  have hV1 : RV (B1 0) n s := by rw [eB]; exact (h.put h6 hqn (Nat.le_refl q) (show ad ≤ 255 by omega) hw hm).1
  have h61 : B1 0 6 = nI (q + 1) := by rw [eB, rPut_6, h6, nI_1]
  refine sL_act_143 hΓ rfl ?_
  refine sL_act_145 hΓ ?_
  refine sL_act_146 hΓ ?_
  refine sL_act_147 hΓ (fun c147 => absurd rfl c147) (fun c147 => ?_)
  refine sL_act_150 hΓ rfl ?_
  refine sL_act_151 hΓ rfl ?_
  refine sL_act_153 hΓ 1 6 (Nat.le_of_ble_eq_true rfl) ho1 (fun κ_153 hΓ_153 => ct_packetCommand hΓ_153 hS1 hV1 h61 hqn (Nat.lt_succ_self q) ?_)
  show AW G κ _ _ 156 _ _ _
  refine sL_act_156 hΓ rfl ?_
  refine sL_act_158 hΓ (fun c158 => absurd (by rw [eB]; exact rPut_p.2.1) c158) (fun c158 => ?_)
  refine sL_act_161 hΓ rfl ?_
  refine sL_act_162 hΓ rfl ?_
  refine sL_act_164 hΓ 1 6 (Nat.le_of_ble_eq_true rfl) ho1 (fun κ_164 hΓ_164 => ct_isIntact hΓ_164 hS1 hV1 h61 hqn (Nat.lt_succ_self q) ?_)
  show AW G κ _ _ 167 _ _ _
  refine sL_act_167 hΓ rfl ?_
  refine sL_act_169 hΓ rfl ?_
  refine sL_act_170 hΓ rfl ?_
  refine sL_act_172 hΓ rfl ?_
  refine sL_act_174 hΓ 2 12 (Nat.le_of_ble_eq_true rfl) ho1 (fun κ_174 hΓ_174 => ct_checkOf hΓ_174 hS1 hV1 (byte_n (show ad ≤ 255 by omega)) (byte_n hw) ?_)
  show AW G κ _ _ 177 _ _ _
  refine sL_act_177d hΓ ?_
  refine sL_act_185 hΓ (fun c185 => absurd (by rw [eB, rPut_w]; exact eqI) c185) (fun c185 => ?_)
  refine sL_act_188 hΓ ?_
  refine sL_act_189 hΓ ?_
  exact sL_act_193 hΓ (Or.inr rfl) (hq _ _ _ _ hS1 hA)
theorem br_speed (hΓ : Ok G κ mL_act (d + 10) Q X) (hS : LwS G σ c x am A z B F) (h : GR (B 0) n s τ) (hk8 : kk ≤ 8) (hz8 : z 8 = nI kk) (h6 : B 0 6 = nI q) (hq12 : q ≤ 12) (hqn : q < 12) (ha : ad ≤ 127) (hw : aS u 3 29 = wc) (hq : ∀ (σ1 : Hp) (c1 : Nat → Nat) (z1 : Nat → Int32) (B1 : Nat → Nat → Int32), LwS G σ1 c1 x am A z1 B1 F → AcO (B 0) (rPut (B 0) q (nI ad) (nI wc) (nI ad ^^^ nI wc)) true kk z B z1 B1 → Q (some (.int 1)) σ1) : AW G κ (cs + 1 + 1 + 1 + 10) (ss + 6 + 6 + 6 + 114) 200 [lR x, lI v, lI w2, lI u, lI (nI k), lI (nI q), lI (nI ad), none, none, none, none, none, none, none, none, none] [] σ := by
  have hw28 : wc ≤ 28 := by rw [← hw]; exact Nat.le_of_lt_succ (mo_lt _ (by decide))
  obtain ⟨fs, ho⟩ := hS.o
  have hn6 := h.1.n6
  have hs24 := h.1.s4.2.2
  have hQ := rQ_lt h6 hq12
  have n12 : ¬ B 0 6 = 12 := fun e => by
    have := (nI_eq (a := q) (b := 12) (by omega) (by decide)).mp (h6.symm.trans e)
    omega
  have hxb : ad ^^^ wc ≤ 255 := by
    have := Nat.xor_lt_two_pow (n := 8) (show ad < 2 ^ 8 by omega) (show wc < 2 ^ 8 by omega)
    omega
  have hG : GR (rPut (B 0) q (nI ad) (nI wc) (nI ad ^^^ nI wc)) n s τ := by rw [xorI]; exact h.put h6 hqn (Nat.le_refl q) (show ad ≤ 255 by omega) (show wc ≤ 255 by omega) hxb
  have hO : oInt (upd z 9 0) (B 0) (rQ (B 0)) (nI ad) (nI wc) = (0, upd (upd z 9 0) 11 (B 0 6 + 1), rPut (B 0) q (nI ad) (nI wc) (nI ad ^^^ nI wc)) := by unfold oInt; rw [hQ]; exact if_neg n12
  have e11 : (oInt (upd z 9 0) (B 0) (rQ (B 0)) (nI ad) (nI wc)).2.1 11 = nI q + 1 := by rw [hO, ← h6]; rfl
  refine sL_act_200 hΓ rfl ?_
  refine sL_act_201 hΓ ?_
  refine sL_act_202 hΓ ?_
  refine sL_act_203 hΓ ?_
  refine sL_act_205 hΓ 0 0 (Nat.le_of_ble_eq_true rfl) (fun κ_205 hΓ_205 => lm_most hΓ_205 (m := 29) (by decide) (by decide) ?_)
  show AW G κ _ _ 208 _ _ _
  rw [show nI (mo (u >>> ((3 : Int32) &&& 31)) 29) = nI wc from congrArg nI hw]
  refine sL_act_208 hΓ ?_
  refine sL_act_210 hΓ rfl ?_
  refine sL_act_211 hΓ rfl ?_
  refine sL_act_213 hΓ rfl ?_
  refine sL_act_215 hΓ 10 114 (Nat.le_of_ble_eq_true rfl) ho (fun κ_215 hΓ_215 => ct_setSpeed hΓ_215 hS h.1 hk8 hz8 (byte_7 ha) (in_b (a := 0) (b := 28) (Nat.zero_le _) hw28 (by decide)) (by rw [hO]) (fun σ1 c1 hS9 => ?_))
  show AW G κ _ _ 218 _ _ _
  obtain ⟨z1, B1, hS1, hA, eB⟩ := st_gen hO rfl hS9
  rw [e11]
  obtain ⟨fs1, ho1⟩ := hS1.o
  have hV1 : RV (B1 0) n s := by rw [eB]; exact (hG).1
  have h61 : B1 0 6 = nI (q + 1) := by rw [eB, rPut_6, h6, nI_1]
  refine sL_act_218 hΓ rfl ?_
  refine sL_act_220 hΓ ?_
  refine sL_act_221 hΓ ?_
  refine sL_act_222 hΓ (fun c222 => absurd rfl c222) (fun c222 => ?_)
  refine sL_act_225 hΓ rfl ?_
  refine sL_act_226 hΓ rfl ?_
  refine sL_act_228 hΓ 1 6 (Nat.le_of_ble_eq_true rfl) ho1 (fun κ_228 hΓ_228 => ct_isIntact hΓ_228 hS1 hV1 h61 hqn (Nat.lt_succ_self q) ?_)
  show AW G κ _ _ 231 _ _ _
  refine sL_act_231 hΓ (fun c231 => absurd c231 (by rw [eB, rPut_w, beq_self_eq_true]; decide)) (fun c231 => ?_)
  refine sL_act_234 hΓ rfl ?_
  refine sL_act_235 hΓ rfl ?_
  refine sL_act_237 hΓ 1 6 (Nat.le_of_ble_eq_true rfl) ho1 (fun κ_237 hΓ_237 => ct_packetAddress hΓ_237 hS1 hV1 h61 hqn (Nat.lt_succ_self q) ?_)
  show AW G κ _ _ 240 _ _ _
  refine sL_act_240 hΓ rfl ?_
  refine sL_act_242 hΓ (fun c242 => absurd (by rw [eB]; exact rPut_p.1) c242) (fun c242 => ?_)
  refine sL_act_245 hΓ rfl ?_
  refine sL_act_246 hΓ rfl ?_
  refine sL_act_248 hΓ 1 6 (Nat.le_of_ble_eq_true rfl) ho1 (fun κ_248 hΓ_248 => ct_packetCommand hΓ_248 hS1 hV1 h61 hqn (Nat.lt_succ_self q) ?_)
  show AW G κ _ _ 251 _ _ _
  refine sL_act_251 hΓ rfl ?_
  refine sL_act_253 hΓ (fun c253 => absurd (by rw [eB]; exact rPut_p.2.1) c253) (fun c253 => ?_)
  refine sL_act_256 hΓ ?_
  refine sL_act_257 hΓ ?_
  exact sL_act_261 hΓ (Or.inr rfl) (hq _ _ _ _ hS1 hA)
theorem br_lamp (hΓ : Ok G κ mL_act (d + 10) Q X) (hS : LwS G σ c x am A z B F) (h : GR (B 0) n s τ) (hk8 : kk ≤ 8) (hz8 : z 8 = nI kk) (h6 : B 0 6 = nI q) (hq12 : q ≤ 12) (hqn : q < 12) (ha : ad ≤ 127) (hw : aS u 3 16 = wc) (hq : ∀ (σ1 : Hp) (c1 : Nat → Nat) (z1 : Nat → Int32) (B1 : Nat → Nat → Int32), LwS G σ1 c1 x am A z1 B1 F → AcO (B 0) (rPut (B 0) q (nI ad) (nI (64 + wc)) (nI ad ^^^ nI (64 + wc))) true kk z B z1 B1 → Q (some (.int 1)) σ1) : AW G κ (cs + 1 + 1 + 10) (ss + 6 + 6 + 114) 268 [lR x, lI v, lI w2, lI u, lI (nI k), lI (nI q), lI (nI ad), none, none, none, none, none, none, none, none, none] [] σ := by
  have hw15 : wc ≤ 15 := by rw [← hw]; exact Nat.le_of_lt_succ (mo_lt _ (by decide))
  obtain ⟨fs, ho⟩ := hS.o
  have hn6 := h.1.n6
  have hs24 := h.1.s4.2.2
  have hQ := rQ_lt h6 hq12
  have n12 : ¬ B 0 6 = 12 := fun e => by
    have := (nI_eq (a := q) (b := 12) (by omega) (by decide)).mp (h6.symm.trans e)
    omega
  have hxb : ad ^^^ (64 + wc) ≤ 255 := by
    have := Nat.xor_lt_two_pow (n := 8) (show ad < 2 ^ 8 by omega) (show (64 + wc) < 2 ^ 8 by omega)
    omega
  have hG : GR (rPut (B 0) q (nI ad) (nI (64 + wc)) (nI ad ^^^ nI (64 + wc))) n s τ := by rw [xorI]; exact h.put h6 hqn (Nat.le_refl q) (show ad ≤ 255 by omega) (show 64 + wc ≤ 255 by omega) hxb
  have hO : oInt (upd z 9 0) (B 0) (rQ (B 0)) (nI ad) (64 + nI wc) = (0, upd (upd z 9 0) 11 (B 0 6 + 1), rPut (B 0) q (nI ad) (nI (64 + wc)) (nI ad ^^^ nI (64 + wc))) := by
    rw [show (64 : Int32) + nI wc = nI (64 + wc) from nI_add 64 wc]
    unfold oInt; rw [hQ]; exact if_neg n12
  have e11 : (oInt (upd z 9 0) (B 0) (rQ (B 0)) (nI ad) (64 + nI wc)).2.1 11 = nI q + 1 := by rw [hO, ← h6]; rfl
  refine sL_act_268 hΓ rfl ?_
  refine sL_act_269 hΓ rfl ?_
  refine sL_act_271 hΓ rfl ?_
  refine sL_act_272 hΓ ?_
  refine sL_act_273 hΓ ?_
  refine sL_act_274 hΓ ?_
  refine sL_act_276 hΓ 0 0 (Nat.le_of_ble_eq_true rfl) (fun κ_276 hΓ_276 => lm_most hΓ_276 (m := 16) (by decide) (by decide) ?_)
  show AW G κ _ _ 279 _ _ _
  rw [show nI (mo (u >>> ((3 : Int32) &&& 31)) 16) = nI wc from congrArg nI hw]
  refine sL_act_279 hΓ 10 114 (Nat.le_of_ble_eq_true rfl) ho (fun κ_279 hΓ_279 => ct_setLamp hΓ_279 hS h.1 hk8 hz8 (byte_7 ha) (in_b (a := 0) (b := 15) (Nat.zero_le _) hw15 (by decide)) (by rw [hO]) (fun σ1 c1 hS9 => ?_))
  show AW G κ _ _ 282 _ _ _
  obtain ⟨z1, B1, hS1, hA, eB⟩ := st_gen hO rfl hS9
  rw [e11]
  obtain ⟨fs1, ho1⟩ := hS1.o
  have hV1 : RV (B1 0) n s := by rw [eB]; exact (hG).1
  have h61 : B1 0 6 = nI (q + 1) := by rw [eB, rPut_6, h6, nI_1]
  refine sL_act_282 hΓ rfl ?_
  refine sL_act_284 hΓ ?_
  refine sL_act_285 hΓ ?_
  refine sL_act_286 hΓ (fun c286 => absurd rfl c286) (fun c286 => ?_)
  refine sL_act_289 hΓ rfl ?_
  refine sL_act_290 hΓ rfl ?_
  refine sL_act_292 hΓ 1 6 (Nat.le_of_ble_eq_true rfl) ho1 (fun κ_292 hΓ_292 => ct_isIntact hΓ_292 hS1 hV1 h61 hqn (Nat.lt_succ_self q) ?_)
  show AW G κ _ _ 295 _ _ _
  refine sL_act_295 hΓ (fun c295 => absurd c295 (by rw [eB, rPut_w, beq_self_eq_true]; decide)) (fun c295 => ?_)
  refine sL_act_298 hΓ rfl ?_
  refine sL_act_299 hΓ rfl ?_
  refine sL_act_301 hΓ 1 6 (Nat.le_of_ble_eq_true rfl) ho1 (fun κ_301 hΓ_301 => ct_packetCommand hΓ_301 hS1 hV1 h61 hqn (Nat.lt_succ_self q) ?_)
  show AW G κ _ _ 304 _ _ _
  refine sL_act_304 hΓ ?_
  refine sL_act_306 hΓ rfl ?_
  refine sL_act_307 hΓ ?_
  refine sL_act_308 hΓ ?_
  refine sL_act_309 hΓ ?_
  refine sL_act_311 hΓ 0 0 (Nat.le_of_ble_eq_true rfl) (fun κ_311 hΓ_311 => lm_most hΓ_311 (m := 16) (by decide) (by decide) ?_)
  show AW G κ _ _ 314 _ _ _
  refine sL_act_314 hΓ ?_
  refine sL_act_315 hΓ (fun c315 => absurd (by rw [eB, show nI (mo (u >>> ((3 : Int32) &&& 31)) 16) = nI wc from congrArg nI hw, show (64 : Int32) + nI wc = nI (64 + wc) from nI_add 64 wc]; exact rPut_p.2.1) c315) (fun c315 => ?_)
  refine sL_act_318 hΓ ?_
  refine sL_act_319 hΓ ?_
  exact sL_act_323 hΓ (Or.inr rfl) (hq _ _ _ _ hS1 hA)
theorem br_stop (hΓ : Ok G κ mL_act (d + 10) Q X) (hS : LwS G σ c x am A z B F) (h : GR (B 0) n s τ) (hk8 : kk ≤ 8) (hz8 : z 8 = nI kk) (h6 : B 0 6 = nI q) (hq12 : q ≤ 12) (hqn : q < 12) (ha : ad ≤ 127) (hq : ∀ (σ1 : Hp) (c1 : Nat → Nat) (z1 : Nat → Int32) (B1 : Nat → Nat → Int32), LwS G σ1 c1 x am A z1 B1 F → AcO (B 0) (rPut (B 0) 0 (nI ad) (nI 128) (nI ad ^^^ nI 128)) true kk z B z1 B1 → Q (some (.int 1)) σ1) : AW G κ (cs + 1 + 1 + 1 + 9) (ss + 6 + 6 + 6 + 108) 324 [lR x, lI v, lI w2, lI u, lI (nI k), lI (nI q), lI (nI ad), none, none, none, none, none, none, none, none, none] [] σ := by
  obtain ⟨fs, ho⟩ := hS.o
  have hn6 := h.1.n6
  have hs24 := h.1.s4.2.2
  have hQ := rQ_lt h6 hq12
  have n12 : ¬ B 0 6 = 12 := fun e => by
    have := (nI_eq (a := q) (b := 12) (by omega) (by decide)).mp (h6.symm.trans e)
    omega
  have hxb : ad ^^^ 128 ≤ 255 := by
    have := Nat.xor_lt_two_pow (n := 8) (show ad < 2 ^ 8 by omega) (show 128 < 2 ^ 8 by omega)
    omega
  have hG : GR (rPut (B 0) 0 (nI ad) (nI 128) (nI ad ^^^ nI 128)) n s τ := by rw [xorI]; exact h.put h6 hqn (Nat.zero_le q) (show ad ≤ 255 by omega) (show 128 ≤ 255 by omega) hxb
  have hO : oInt (upd z 9 0) (B 0) 0 (nI ad) 128 = (0, upd (upd z 9 0) 11 (B 0 6 + 1), rPut (B 0) 0 (nI ad) (nI 128) (nI ad ^^^ nI 128)) := by unfold oInt; exact if_neg n12
  have e11 : (oInt (upd z 9 0) (B 0) 0 (nI ad) 128).2.1 11 = nI q + 1 := by rw [hO, ← h6]; rfl
  refine sL_act_324 hΓ rfl ?_
  refine sL_act_325 hΓ rfl ?_
  refine sL_act_327 hΓ 9 108 (Nat.le_of_ble_eq_true rfl) ho (fun κ_327 hΓ_327 => ct_stop hΓ_327 hS h.1 hk8 hz8 (byte_7 ha) (by rw [hO]) (fun σ1 c1 hS9 => ?_))
  show AW G κ _ _ 330 _ _ _
  obtain ⟨z1, B1, hS1, hA, eB⟩ := st_gen hO rfl hS9
  rw [e11]
  obtain ⟨fs1, ho1⟩ := hS1.o
  have hV1 : RV (B1 0) n s := by rw [eB]; exact (hG).1
  have h61 : B1 0 6 = nI (q + 1) := by rw [eB, rPut_6, h6, nI_1]
  refine sL_act_330 hΓ rfl ?_
  refine sL_act_332 hΓ ?_
  refine sL_act_333 hΓ ?_
  refine sL_act_334 hΓ (fun c334 => absurd rfl c334) (fun c334 => ?_)
  refine sL_act_337 hΓ rfl ?_
  refine sL_act_338 hΓ ?_
  refine sL_act_339 hΓ 1 6 (Nat.le_of_ble_eq_true rfl) ho1 (fun κ_339 hΓ_339 => ct_isIntact hΓ_339 hS1 hV1 (k := 0) h61 hqn (Nat.succ_pos q) ?_)
  show AW G κ _ _ 342 _ _ _
  refine sL_act_342 hΓ (fun c342 => absurd c342 (by rw [eB, rPut_w, beq_self_eq_true]; decide)) (fun c342 => ?_)
  refine sL_act_345 hΓ rfl ?_
  refine sL_act_346 hΓ ?_
  refine sL_act_347 hΓ 1 6 (Nat.le_of_ble_eq_true rfl) ho1 (fun κ_347 hΓ_347 => ct_packetCommand hΓ_347 hS1 hV1 (k := 0) h61 hqn (Nat.succ_pos q) ?_)
  show AW G κ _ _ 350 _ _ _
  refine sL_act_350 hΓ ?_
  refine sL_act_353 hΓ (fun c353 => absurd (by rw [eB]; exact rPut_p.2.1) c353) (fun c353 => ?_)
  refine sL_act_356 hΓ rfl ?_
  refine sL_act_357 hΓ ?_
  refine sL_act_358 hΓ 1 6 (Nat.le_of_ble_eq_true rfl) ho1 (fun κ_358 hΓ_358 => ct_packetAddress hΓ_358 hS1 hV1 (k := 0) h61 hqn (Nat.succ_pos q) ?_)
  show AW G κ _ _ 361 _ _ _
  refine sL_act_361 hΓ rfl ?_
  refine sL_act_363 hΓ (fun c363 => absurd (by rw [eB]; exact rPut_p.1) c363) (fun c363 => ?_)
  refine sL_act_366 hΓ ?_
  refine sL_act_367 hΓ ?_
  exact sL_act_371 hΓ (Or.inr rfl) (hq _ _ _ _ hS1 hA)
theorem br_clear (hΓ : Ok G κ mL_act (d + 10) Q X) (hS : LwS G σ c x am A z B F) (h : GR (B 0) n s τ) (hk8 : kk ≤ 8) (hz8 : z 8 = nI kk) (h6 : B 0 6 = nI 12) (hq : ∀ (σ1 : Hp) (c1 : Nat → Nat) (z1 : Nat → Int32) (B1 : Nat → Nat → Int32), LwS G σ1 c1 x am A z1 B1 F → AcO (B 0) (upd (upd (B 0) 9 (B 0 9 + B 0 6)) 6 0) true kk z B z1 B1 → Q (some (.int 1)) σ1) : AW G κ (cs + 7) (ss + 96) 63 [lR x, lI v, lI w2, lI u, lI (nI k), lI (nI q), lI (nI ad), none, none, none, none, none, none, none, none, none] [] σ := by
  obtain ⟨fs, ho⟩ := hS.o
  have hn6 := h.1.n6
  have hs24 := h.1.s4.2.2
  have hO : oClear z (B 0) = (0, upd z 11 (B 0 6), upd (upd (B 0) 9 (B 0 9 + B 0 6)) 6 0) := rfl
  have e11 : (oClear z (B 0)).2.1 11 = nI 12 := by rw [hO, ← h6]; rfl
  refine sL_act_63 hΓ rfl ?_
  refine sL_act_64 hΓ 7 96 (Nat.le_of_ble_eq_true rfl) ho (fun κ_64 hΓ_64 => ct_clearQueue hΓ_64 hS h.1 hk8 hz8 rfl (fun σ1 c1 hS9 => ?_))
  show AW G κ _ _ 67 _ _ _
  obtain ⟨z1, B1, hS1, hA, eB⟩ := st_gen hO rfl hS9
  rw [e11]
  obtain ⟨fs1, ho1⟩ := hS1.o
  have hV1 : RV (B1 0) n s := by rw [eB]; exact (h.clear).1
  refine sL_act_67 hΓ ?_
  refine sL_act_69 hΓ (fun c69 => absurd rfl c69) (fun c69 => ?_)
  refine sL_act_72 hΓ rfl ?_
  refine sL_act_73 hΓ 0 0 (Nat.le_of_ble_eq_true rfl) ho1 (fun κ_73 hΓ_73 => ct_queueLength hΓ_73 hS1 hV1 ?_)
  show AW G κ _ _ 76 _ _ _
  refine sL_act_76 hΓ (fun c76 => absurd (by rw [eB]; rfl) c76) (fun c76 => ?_)
  refine sL_act_79 hΓ ?_
  refine sL_act_80 hΓ ?_
  exact sL_act_84 hΓ (Or.inr rfl) (hq _ _ _ _ hS1 hA)
theorem br_shL (hΓ : Ok G κ mL_act (d + 10) Q X) (hS : LwS G σ c x am A z B F) (h : GR (B 0) n s τ) (hk8 : kk ≤ 8) (hz8 : z 8 = nI kk) {j : Nat} {b : Bool} (hj : j < s) (kx : AW G κ cs ss 452 [lR x, lI v, lI w2, lI u, lI (nI k), lI (nI q), lI (nI ad), lI (nI j), lI (bI b), lI (sumN (fun i => if i = j then 0 else B 0 (34 + i)) s), lI (nI s), none, none, none, none, none] [] σ) : ∀ i p, p + i = s → AW G κ (cs + 1 * i) (ss + 6 * i) 411 [lR x, lI v, lI w2, lI u, lI (nI k), lI (nI q), lI (nI ad), lI (nI j), lI (bI b), lI (sumN (fun i => if i = j then 0 else B 0 (34 + i)) p), lI (nI p), none, none, none, none, none] [] σ := by
  obtain ⟨fs, ho⟩ := hS.o
  have hn6 := h.1.n6
  have hs24 := h.1.s4.2.2
  have e1 := h.1.s4.1
  intro i
  induction i with
  | zero =>
    intro p hp
    obtain rfl : p = s := by omega
    refine sL_act_411 hΓ rfl ?_
    refine sL_act_413 hΓ rfl ?_
    refine sL_act_414 hΓ 0 0 (Nat.le_of_ble_eq_true rfl) ho (fun κ_414 hΓ_414 => ct_sectionCount hΓ_414 hS h.1 ?_)
    show AW G κ _ _ 417 _ _ _
    refine sL_act_417 hΓ (fun c417 => ?_) (fun c417 => absurd (by rw [e1]; exact Int32.le_refl _) c417)
    exact kx
  | succ i ih =>
    intro p hp
    have hps : p < s := by omega
    show AW G κ (cs + 1 * i + 1) (ss + 6 * i + 6) 411 _ [] σ
    have go : ∀ y : Int32, y = (fun i => if i = j then 0 else B 0 (34 + i)) p → AW G κ (cs + 1 * i) (ss + 6 * i) 443 [lR x, lI v, lI w2, lI u, lI (nI k), lI (nI q), lI (nI ad), lI (nI j), lI (bI b), lI (sumN (fun i => if i = j then 0 else B 0 (34 + i)) p), lI (nI p), none, none, none, none, none] [.int y, .int (sumN (fun i => if i = j then 0 else B 0 (34 + i)) p)] σ := fun y hy => by
      subst hy
      refine sL_act_443 hΓ ?_
      refine sL_act_444 hΓ ?_
      refine sL_act_446 hΓ rfl ?_
      refine sL_act_449 hΓ ?_
      skip
      show AW G κ (cs + 1 * i) (ss + 6 * i) 411 [lR x, lI v, lI w2, lI u, lI (nI k), lI (nI q), lI (nI ad), lI (nI j), lI (bI b), lI (sumN (fun i => if i = j then 0 else B 0 (34 + i)) (p + 1)), lI (nI p + 1), none, none, none, none, none] [] σ
      rw [nI_1]
      exact ih (p + 1) (by omega)
    refine sL_act_411 hΓ rfl ?_
    refine sL_act_413 hΓ rfl ?_
    refine sL_act_414 hΓ 0 0 (Nat.le_of_ble_eq_true rfl) ho (fun κ_414 hΓ_414 => ct_sectionCount hΓ_414 hS h.1 ?_)
    show AW G κ _ _ 417 _ _ _
    refine sL_act_417 hΓ (fun c417 => absurd c417 (by rw [e1]; exact nI_ge hps (by omega))) (fun c417 => ?_)
    refine sL_act_420 hΓ rfl ?_
    refine sL_act_422 hΓ rfl ?_
    refine sL_act_424 hΓ rfl ?_
    refine sL_act_426 hΓ (fun c426 => ?_) (fun c426 => ?_)
    · have ep : p = j := (nI_eq (by omega) (by omega)).mp c426
      refine aw_less (cs2 := cs + 1 * i) (ss2 := ss + 6 * i) (by omega) (by omega) ?_
      exact sL_act_442 hΓ (go 0 (if_pos ep).symm)
    · have ep : ¬ p = j := fun e9 => c426 (congrArg nI e9)
      refine sL_act_429 hΓ rfl ?_
      refine sL_act_430 hΓ rfl ?_
      refine sL_act_432 hΓ 1 6 (Nat.le_of_ble_eq_true rfl) ho (fun κ_432 hΓ_432 => ct_hasShort hΓ_432 hS h.1 hps ?_)
      show AW G κ _ _ 435 _ _ _
      refine sL_act_435d hΓ ?_
      exact go _ (by rw [bI_if]; exact (b_if (h.1.b01 (by omega) (by omega))).trans (if_neg ep).symm)
theorem br_short (hΓ : Ok G κ mL_act (d + 10) Q X) (hS : LwS G σ c x am A z B F) (h : GR (B 0) n s τ) (hk8 : kk ≤ 8) (hz8 : z 8 = nI kk) {j : Nat} {b : Bool} (hj : mo u s = j) (hb : bI b = if nI (aS u 3 3) = 0 then 1 else 0) (hq : ∀ (σ1 : Hp) (c1 : Nat → Nat) (z1 : Nat → Int32) (B1 : Nat → Nat → Int32), LwS G σ1 c1 x am A z1 B1 F → AcO (B 0) (upd (B 0) (34 + j) (bI b)) true kk z B z1 B1 → Q (some (.int 1)) σ1) : AW G κ (cs + 1 + 8 + 1 * s) (ss + 6 + 102 + 6 * s) 378 [lR x, lI v, lI w2, lI u, lI (nI k), lI (nI q), lI (nI ad), none, none, none, none, none, none, none, none, none] [] σ := by
  have hs4 := h.1.s4.2.1
  have hjs : j < s := by rw [← hj]; exact mo_lt u (by omega)
  obtain ⟨fs, ho⟩ := hS.o
  have hn6 := h.1.n6
  have hs24 := h.1.s4.2.2
  have hI : rIsS (B 0) (nI j) = true := isS_n h.1 hjs
  have hO : oShort z (B 0) s (nI j) (bI b) = (0, upd z 11 (rCnt (upd (B 0) (34 + j) (bI b)) 34 s), upd (B 0) (34 + j) (bI b)) := by
    unfold oShort
    rw [if_pos hI, nI_clamp (by omega)]
  have e11 : (oShort z (B 0) s (nI j) (bI b)).2.1 11 = sumN (fun i => if i = j then 0 else B 0 (34 + i)) s + bI b := by
    rw [hO]
    show rCnt (upd (B 0) (34 + j) (bI b)) 34 s = _
    unfold rCnt
    rw [sum_short s, if_pos hjs]
  refine sL_act_378 hΓ rfl ?_
  refine sL_act_379 hΓ rfl ?_
  refine sL_act_380 hΓ 0 0 (Nat.le_of_ble_eq_true rfl) ho (fun κ_380 hΓ_380 => ct_sectionCount hΓ_380 hS h.1 ?_)
  show AW G κ _ _ 383 _ _ _
  rw [h.1.s4.1]
  refine sL_act_383 hΓ 0 0 (Nat.le_of_ble_eq_true rfl) (fun κ_383 hΓ_383 => lm_most hΓ_383 (m := s) (by omega) (by omega) ?_)
  show AW G κ _ _ 386 _ _ _
  rw [hj]
  refine sL_act_386 hΓ ?_
  refine sL_act_388 hΓ rfl ?_
  refine sL_act_389 hΓ ?_
  refine sL_act_390 hΓ ?_
  refine sL_act_391 hΓ ?_
  refine sL_act_392 hΓ 0 0 (Nat.le_of_ble_eq_true rfl) (fun κ_392 hΓ_392 => lm_most hΓ_392 (m := 3) (by decide) (by decide) ?_)
  show AW G κ _ _ 395 _ _ _
  refine sL_act_395d hΓ ?_
  rw [show (if nI (mo (u >>> ((3 : Int32) &&& 31)) 3) = 0 then (1 : Int32) else 0) = bI b from hb.symm]
  refine sL_act_403 hΓ ?_
  refine sL_act_405 hΓ ?_
  refine sL_act_406 hΓ ?_
  refine sL_act_408 hΓ ?_
  refine sL_act_409 hΓ ?_
  skip
  refine br_shL hΓ hS h hk8 hz8 hjs ?_ s 0 (Nat.zero_add s)
  refine sL_act_452 hΓ rfl ?_
  refine sL_act_453 hΓ rfl ?_
  refine sL_act_455 hΓ rfl ?_
  refine sL_act_457 hΓ 8 102 (Nat.le_of_ble_eq_true rfl) ho (fun κ_457 hΓ_457 => ct_setShort hΓ_457 hS h.1 hk8 hz8 (bI_01 b) (by rw [hO]) (fun σ1 c1 hS9 => ?_))
  show AW G κ _ _ 460 _ _ _
  obtain ⟨z1, B1, hS1, hA, eB⟩ := st_gen hO rfl hS9
  rw [e11]
  obtain ⟨fs1, ho1⟩ := hS1.o
  have hV1 : RV (B1 0) n s := by rw [eB]; exact (h.short hjs b).1
  refine sL_act_460 hΓ rfl ?_
  refine sL_act_462 hΓ rfl ?_
  refine sL_act_464d hΓ ?_
  refine sL_act_472 hΓ ?_
  refine sL_act_473 hΓ (fun c473 => absurd (by rw [bI_if]) c473) (fun c473 => ?_)
  refine sL_act_476 hΓ rfl ?_
  refine sL_act_477 hΓ rfl ?_
  refine sL_act_479 hΓ 1 6 (Nat.le_of_ble_eq_true rfl) ho1 (fun κ_479 hΓ_479 => ct_hasShort hΓ_479 hS1 hV1 hjs ?_)
  show AW G κ _ _ 482 _ _ _
  refine sL_act_482 hΓ rfl ?_
  refine sL_act_484 hΓ (fun c484 => absurd (by rw [eB, upd_same]; exact b_if (bI_01 b)) c484) (fun c484 => ?_)
  refine sL_act_487 hΓ ?_
  refine sL_act_488 hΓ ?_
  exact sL_act_492 hΓ (Or.inr rfl) (hq _ _ _ _ hS1 hA)
theorem br_read (hΓ : Ok G κ mL_act (d + 10) Q X) (hS : LwS G σ c x am A z B F) (h : GR (B 0) n s τ) (hk8 : kk ≤ 8) (hz8 : z 8 = nI kk) (hk : k < n) (hm : aS u 2 127 = m) (g5 : B 0 (58 + 15 * k + 5) = 0) (gN : rFirst (B 0) n 0 (nI (1 + m)) = none) (hq : ∀ (σ1 : Hp) (c1 : Nat → Nat) (z1 : Nat → Int32) (B1 : Nat → Nat → Int32), LwS G σ1 c1 x am A z1 B1 F → AcO (B 0) (upd (B 0) (58 + 15 * k + 0) (nI (1 + m))) true kk z B z1 B1 → Q (some (.int 1)) σ1) : AW G κ (cs + 1 + 10 + 1 + 1) (ss + 6 + 114 + 6 + 6) 499 [lR x, lI v, lI w2, lI u, lI (nI k), lI (nI q), lI (nI ad), none, none, none, none, none, none, none, none, none] [] σ := by
  have hm9 : m < 127 := by rw [← hm]; exact mo_lt _ (by decide)
  obtain ⟨fs, ho⟩ := hS.o
  have hn6 := h.1.n6
  have hs24 := h.1.s4.2.2
  have hO : oRead (upd z 9 0) (B 0) n (nI k) (nI (1 + m)) = (0, upd (upd z 9 0) 11 (B 0 (58 + 15 * k + 0)), upd (B 0) (58 + 15 * k + 0) (nI (1 + m))) := by
    unfold oRead
    rw [nI_clamp (show k < 2 ^ 31 by omega), if_pos ⟨g5, gN⟩]
  have e11 : (oRead (upd z 9 0) (B 0) n (nI k) (nI (1 + m))).2.1 11 = B 0 (58 + 15 * k + 0) := by rw [hO]; rfl
  refine sL_act_499 hΓ rfl ?_
  refine sL_act_500 hΓ rfl ?_
  refine sL_act_502 hΓ 1 6 (Nat.le_of_ble_eq_true rfl) ho (fun κ_502 hΓ_502 => ct_address hΓ_502 hS h.1 hk ?_)
  show AW G κ _ _ 505 _ _ _
  refine sL_act_505 hΓ ?_
  refine sL_act_507 hΓ ?_
  refine sL_act_508 hΓ rfl ?_
  refine sL_act_509 hΓ ?_
  refine sL_act_510 hΓ ?_
  refine sL_act_511 hΓ ?_
  refine sL_act_513 hΓ 0 0 (Nat.le_of_ble_eq_true rfl) (fun κ_513 hΓ_513 => lm_most hΓ_513 (m := 127) (by decide) (by decide) ?_)
  show AW G κ _ _ 516 _ _ _
  refine sL_act_516 hΓ ?_
  rw [show nI (mo (u >>> ((2 : Int32) &&& 31)) 127) = nI m from congrArg nI hm, show (1 : Int32) + nI m = nI (1 + m) from nI_add 1 m]
  refine sL_act_517 hΓ ?_
  refine sL_act_519 hΓ rfl ?_
  refine sL_act_520 hΓ rfl ?_
  refine sL_act_522 hΓ 1 6 (Nat.le_of_ble_eq_true rfl) ho (fun κ_522 hΓ_522 => ct_speed hΓ_522 hS h.1 hk ?_)
  show AW G κ _ _ 525 _ _ _
  refine sL_act_525 hΓ (fun c525 => absurd c525 (by rw [g5]; decide)) (fun c525 => ?_)
  refine sL_act_528 hΓ rfl ?_
  refine sL_act_529 hΓ rfl ?_
  refine sL_act_531 hΓ 0 0 (Nat.le_of_ble_eq_true rfl) ho (fun κ_531 hΓ_531 => ct_trainWith hΓ_531 hS h.1 ?_)
  show AW G κ _ _ 534 _ _ _
  refine sL_act_534 hΓ (fun c534 => absurd c534 (by rw [gN]; decide)) (fun c534 => ?_)
  refine sL_act_537 hΓ rfl ?_
  refine sL_act_538 hΓ rfl ?_
  refine sL_act_540 hΓ rfl ?_
  refine sL_act_542 hΓ 10 114 (Nat.le_of_ble_eq_true rfl) ho (fun κ_542 hΓ_542 => ct_readdress hΓ_542 hS h.1 hk8 hz8 (isT_n h.1 hk) (in_b (a := 1) (b := 127) (by omega) (by omega) (by decide)) (by rw [hO]) (fun σ1 c1 hS9 => ?_))
  show AW G κ _ _ 545 _ _ _
  obtain ⟨z1, B1, hS1, hA, eB⟩ := st_gen hO rfl hS9
  rw [e11]
  obtain ⟨fs1, ho1⟩ := hS1.o
  have hV1 : RV (B1 0) n s := by rw [eB]; exact (h.addr hk (by omega) (by omega) gN).1
  refine sL_act_545 hΓ rfl ?_
  refine sL_act_547 hΓ (fun c547 => absurd rfl c547) (fun c547 => ?_)
  refine sL_act_550 hΓ rfl ?_
  refine sL_act_551 hΓ rfl ?_
  refine sL_act_553 hΓ 1 6 (Nat.le_of_ble_eq_true rfl) ho1 (fun κ_553 hΓ_553 => ct_address hΓ_553 hS1 hV1 hk ?_)
  show AW G κ _ _ 556 _ _ _
  refine sL_act_556 hΓ rfl ?_
  refine sL_act_558 hΓ (fun c558 => absurd (by rw [eB]; exact upd_same _ _ _) c558) (fun c558 => ?_)
  refine sL_act_561 hΓ ?_
  refine sL_act_562 hΓ ?_
  exact sL_act_566 hΓ (Or.inr rfl) (hq _ _ _ _ hS1 hA)
theorem br_read0 (hΓ : Ok G κ mL_act (d + 10) Q X) (hS : LwS G σ c x am A z B F) (h : GR (B 0) n s τ) (hk8 : kk ≤ 8) (hz8 : z 8 = nI kk) (hk : k < n) (hm : aS u 2 127 = m) (g : B 0 (58 + 15 * k + 5) = 0 → ¬ rFirst (B 0) n 0 (nI (1 + m)) = none) (hq : Q (some (.int 1)) σ) : AW G κ (cs + 1 + 1) (ss + 6 + 6) 499 [lR x, lI v, lI w2, lI u, lI (nI k), lI (nI q), lI (nI ad), none, none, none, none, none, none, none, none, none] [] σ := by
  obtain ⟨fs, ho⟩ := hS.o
  have hn6 := h.1.n6
  have hs24 := h.1.s4.2.2
  obtain ⟨a5, g5, e5⟩ := h.1.2.2.t (k := k) (w := 5) (M := 28) (by omega) (by decide) rfl
  refine sL_act_499 hΓ rfl ?_
  refine sL_act_500 hΓ rfl ?_
  refine sL_act_502 hΓ 1 6 (Nat.le_of_ble_eq_true rfl) ho (fun κ_502 hΓ_502 => ct_address hΓ_502 hS h.1 hk ?_)
  show AW G κ _ _ 505 _ _ _
  refine sL_act_505 hΓ ?_
  refine sL_act_507 hΓ ?_
  refine sL_act_508 hΓ rfl ?_
  refine sL_act_509 hΓ ?_
  refine sL_act_510 hΓ ?_
  refine sL_act_511 hΓ ?_
  refine sL_act_513 hΓ 0 0 (Nat.le_of_ble_eq_true rfl) (fun κ_513 hΓ_513 => lm_most hΓ_513 (m := 127) (by decide) (by decide) ?_)
  show AW G κ _ _ 516 _ _ _
  refine sL_act_516 hΓ ?_
  rw [show nI (mo (u >>> ((2 : Int32) &&& 31)) 127) = nI m from congrArg nI hm, show (1 : Int32) + nI m = nI (1 + m) from nI_add 1 m]
  refine sL_act_517 hΓ ?_
  refine sL_act_519 hΓ rfl ?_
  refine sL_act_520 hΓ rfl ?_
  refine sL_act_522 hΓ 1 6 (Nat.le_of_ble_eq_true rfl) ho (fun κ_522 hΓ_522 => ct_speed hΓ_522 hS h.1 hk ?_)
  show AW G κ _ _ 525 _ _ _
  refine sL_act_525 hΓ (fun c525 => ?_) (fun c525 => ?_)
  · refine sL_act_561 hΓ ?_
    refine sL_act_562 hΓ ?_
    exact sL_act_566 hΓ (Or.inr rfl) hq
  · have z5 : B 0 (58 + 15 * k + 5) = 0 := by
      rcases Nat.eq_zero_or_pos a5 with e9 | e9
      · rw [e5, e9]; rfl
      · exact absurd (by rw [e5]; exact show nI 0 < nI a5 from nI_lt e9 (by omega)) c525
    refine sL_act_528 hΓ rfl ?_
    refine sL_act_529 hΓ rfl ?_
    refine sL_act_531 hΓ 0 0 (Nat.le_of_ble_eq_true rfl) ho (fun κ_531 hΓ_531 => ct_trainWith hΓ_531 hS h.1 ?_)
    show AW G κ _ _ 534 _ _ _
    refine sL_act_534 hΓ (fun c534 => ?_) (fun c534 => absurd (oI_ge h.1.n6 (g z5)) c534)
    refine sL_act_561 hΓ ?_
    refine sL_act_562 hΓ ?_
    exact sL_act_566 hΓ (Or.inr rfl) hq
theorem br_wait (hΓ : Ok G κ mL_act (d + 10) Q X) (hS : LwS G σ c x am A z B F) (h : GR (B 0) n s τ) (hk8 : kk ≤ 8) (hz8 : z 8 = nI kk) (hC : CR (B 0) n s C) (h6 : B 0 6 = nI q) (hq12 : q ≤ 12) (hk : k < n) (hm : 1 + mo u (if aS u 3 3 = 0 then 60 else 9) = m) (hm60 : m ≤ 60) (hτ : τ + m ≤ 10000) (hq : ∀ (σ1 : Hp) (c1 : Nat → Nat) (z1 : Nat → Int32) (B1 : Nat → Nat → Int32), LwS G σ1 c1 x am A z1 B1 F → AcO (B 0) (rPs n s (B 0) m) true kk z B z1 B1 → Q (some (.int 1)) σ1) : AW G κ (cs + 1 + 1 + 1 + 9 + 1 + 1 + 7 + 9 + 9) (ss + 6 + 6 + 6 + 108 + 6 + 6 + 96 + 108 + 108) 578 [lR x, lI v, lI w2, lI u, lI (nI k), lI (nI q), lI (nI ad), none, none, none, none, none, none, none, none, none] [] σ := by
  obtain ⟨fs, ho⟩ := hS.o
  have hn6 := h.1.n6
  have hs24 := h.1.s4.2.2
  have hm1 : 1 ≤ m := by omega
  have eM : (if nI (mo (u >>> ((3 : Int32) &&& 31)) 3) = 0 then (60 : Int32) else 9) = nI (if aS u 3 3 = 0 then 60 else 9) := by
    by_cases e : aS u 3 3 = 0
    · rw [if_pos e, if_pos (show nI (mo (u >>> ((3 : Int32) &&& 31)) 3) = 0 from congrArg nI e)]; rfl
    · rw [if_neg e, if_neg (show ¬ nI (mo (u >>> ((3 : Int32) &&& 31)) 3) = 0 from fun e9 => e ((nI_eq (b := 0) (Nat.lt_trans (mo_lt _ (by decide)) (by decide)) (by decide)).mp e9))]; rfl
  have eM2 : (1 : Int32) + nI (mo u (if aS u 3 3 = 0 then 60 else 9)) = nI m := by rw [← hm]; exact nI_add 1 _
  obtain ⟨hG, -, hD⟩ := GR.ticks h hC m hτ
  obtain ⟨δ, d1, d2, d3⟩ := hD k hk
  obtain ⟨a6, b6, s1, s2, s3⟩ := sent_n h hC h6 hq12 m hτ
  have hcut := cut_iff h hC hτ (show m ≤ 200 by omega)
  obtain ⟨en, n1, n2⟩ := (h.2.2.2.2.2.2.1 k hk).2.2.2.1
  have hsec := h.sec hk
  have hsec1 := hG.sec hk
  have hτ0 := h.2.2.1
  have hO : oWait n s (upd z 9 0) (B 0) (nI m) = (0, upd (upd z 9 0) 11 (nI b6), rPs n s (B 0) m) := by
    unfold oWait
    rw [if_neg (by rw [h.2.1, nI_add]; exact show ¬ nI 10000 < nI (τ + m) from nI_nlt (by omega) (by decide)), nI_clamp (show m < 2 ^ 31 by omega), s3]
  have e11 : (oWait n s (upd z 9 0) (B 0) (nI m)).2.1 11 = nI b6 := by rw [hO]; rfl
  refine sL_act_578 hΓ ?_
  refine sL_act_579 hΓ rfl ?_
  refine sL_act_580 hΓ rfl ?_
  refine sL_act_581 hΓ ?_
  refine sL_act_582 hΓ ?_
  refine sL_act_583 hΓ ?_
  refine sL_act_584 hΓ 0 0 (Nat.le_of_ble_eq_true rfl) (fun κ_584 hΓ_584 => lm_most hΓ_584 (m := 3) (by decide) (by decide) ?_)
  show AW G κ _ _ 587 _ _ _
  refine sL_act_587d hΓ ?_
  rw [eM]
  refine sL_act_597 hΓ 0 0 (Nat.le_of_ble_eq_true rfl) (fun κ_597 hΓ_597 => lm_most hΓ_597 (m := (if aS u 3 3 = 0 then 60 else 9)) (by split <;> decide) (by split <;> decide) ?_)
  show AW G κ _ _ 600 _ _ _
  refine sL_act_600 hΓ ?_
  rw [eM2]
  refine sL_act_601 hΓ ?_
  refine sL_act_603 hΓ rfl ?_
  refine sL_act_604 hΓ rfl ?_
  refine sL_act_606 hΓ rfl ?_
  refine sL_act_608 hΓ 9 108 (Nat.le_of_ble_eq_true rfl) ho (fun κ_608 hΓ_608 => ct_sectionAfter hΓ_608 hS h.1 (w := m) hk (by omega) (fun σ2 c2 hS2 => ?_))
  show AW G κ _ _ 611 _ _ _
  obtain ⟨fs2, ho2⟩ := hS2.o
  refine sL_act_611 hΓ ?_
  refine sL_act_613 hΓ rfl ?_
  refine sL_act_614 hΓ rfl ?_
  refine sL_act_616 hΓ rfl ?_
  refine sL_act_618 hΓ 9 108 (Nat.le_of_ble_eq_true rfl) ho2 (fun κ_618 hΓ_618 => ct_speedAfter hΓ_618 hS2 h.1 (w := m) hk (by omega) (fun σ3 c3 hS3 => ?_))
  show AW G κ _ _ 621 _ _ _
  obtain ⟨fs3, ho3⟩ := hS3.o
  refine sL_act_621 hΓ ?_
  refine sL_act_623 hΓ rfl ?_
  refine sL_act_624 hΓ 7 96 (Nat.le_of_ble_eq_true rfl) ho3 (fun κ_624 hΓ_624 => ct_ticksToCutoff hΓ_624 hS3 h.1 (fun σ4 c4 hS4 => ?_))
  show AW G κ _ _ 627 _ _ _
  obtain ⟨fs4, ho4⟩ := hS4.o
  refine sL_act_627 hΓ ?_
  refine sL_act_629 hΓ rfl ?_
  refine sL_act_630 hΓ 0 0 (Nat.le_of_ble_eq_true rfl) ho4 (fun κ_630 hΓ_630 => ct_cutoffs hΓ_630 hS4 h.1 ?_)
  show AW G κ _ _ 633 _ _ _
  refine sL_act_633 hΓ ?_
  refine sL_act_635 hΓ rfl ?_
  refine sL_act_636 hΓ rfl ?_
  refine sL_act_638 hΓ 1 6 (Nat.le_of_ble_eq_true rfl) ho4 (fun κ_638 hΓ_638 => ct_sectionsEntered hΓ_638 hS4 h.1 hk ?_)
  show AW G κ _ _ 641 _ _ _
  refine sL_act_641 hΓ ?_
  refine sL_act_643 hΓ rfl ?_
  refine sL_act_644 hΓ rfl ?_
  refine sL_act_646 hΓ 1 6 (Nat.le_of_ble_eq_true rfl) ho4 (fun κ_646 hΓ_646 => ct_sectionOf hΓ_646 hS4 h.1 hk ?_)
  show AW G κ _ _ 649 _ _ _
  refine sL_act_649 hΓ ?_
  refine sL_act_651 hΓ rfl ?_
  refine sL_act_652 hΓ 0 0 (Nat.le_of_ble_eq_true rfl) ho4 (fun κ_652 hΓ_652 => ct_tick hΓ_652 hS4 h.1 ?_)
  show AW G κ _ _ 655 _ _ _
  refine sL_act_655 hΓ ?_
  refine sL_act_657 hΓ rfl ?_
  refine sL_act_658 hΓ rfl ?_
  refine sL_act_660 hΓ 9 108 (Nat.le_of_ble_eq_true rfl) ho4 (fun κ_660 hΓ_660 => ct_passTicks hΓ_660 hS4 h.1 hk8 hz8 (in_b (a := 1) (b := 60) hm1 hm60 (by decide)) (by rw [hO]) (fun σ1 c1 hS9 => ?_))
  show AW G κ _ _ 663 _ _ _
  obtain ⟨z1, B1, hS1, hA, eB⟩ := st_gen hO rfl hS9
  rw [e11]
  obtain ⟨fs1, ho1⟩ := hS1.o
  have hV1 : RV (B1 0) n s := by rw [eB]; exact (hG).1
  refine sL_act_663 hΓ ?_
  refine sL_act_665 hΓ rfl ?_
  refine sL_act_666 hΓ rfl ?_
  refine sL_act_668 hΓ 1 6 (Nat.le_of_ble_eq_true rfl) ho1 (fun κ_668 hΓ_668 => ct_sectionOf hΓ_668 hS1 hV1 hk ?_)
  show AW G κ _ _ 671 _ _ _
  refine sL_act_671 hΓ rfl ?_
  refine sL_act_673 hΓ (fun c673 => absurd (by rw [eB]) c673) (fun c673 => ?_)
  refine sL_act_676 hΓ rfl ?_
  refine sL_act_677 hΓ rfl ?_
  refine sL_act_679 hΓ 1 6 (Nat.le_of_ble_eq_true rfl) ho1 (fun κ_679 hΓ_679 => ct_speed hΓ_679 hS1 hV1 hk ?_)
  show AW G κ _ _ 682 _ _ _
  refine sL_act_682 hΓ rfl ?_
  refine sL_act_684 hΓ (fun c684 => absurd (by rw [eB]) c684) (fun c684 => ?_)
  refine sL_act_687 hΓ rfl ?_
  refine sL_act_688 hΓ 0 0 (Nat.le_of_ble_eq_true rfl) ho1 (fun κ_688 hΓ_688 => ct_cutoffs hΓ_688 hS1 hV1 ?_)
  show AW G κ _ _ 691 _ _ _
  refine sL_act_691 hΓ rfl ?_
  skip
  have eR : B 0 (58 + 15 * k + 3) + B1 0 (58 + 15 * k + 10) - B 0 (58 + 15 * k + 10) - (B 0 (58 + 15 * k + 3) + B1 0 (58 + 15 * k + 10) - B 0 (58 + 15 * k + 10)) / B1 0 1 * B1 0 1 = rPs n s (B 0) m (58 + 15 * k + 3) := by
    rw [hV1.s4.1, eB, show rPs n s (B 0) m (58 + 15 * k + 10) = _ from d2, show rPs n s (B 0) m (58 + 15 * k + 3) = _ from hsec1.2, show B 0 (58 + 15 * k + 3) = _ from hsec.2, d3, show tf (B 0) k 10 = _ from n2, show B 0 (58 + 15 * k + 10) = _ from n2, nI_add, nI_add, show nI (rSec (B 0) k + (en + δ)) - nI en = nI (rSec (B 0) k + δ) from (pk_sub (by omega)).trans (congrArg nI (by omega))]
    exact pk_rem (by omega) (by omega) (by omega)
  have g721 : AW G κ (cs + 1) (ss + 6) 721 [lR x, lI v, lI w2, lI u, lI (nI k), lI (nI q), lI (nI ad), lI (nI m), lI (rPs n s (B 0) m (58 + 15 * k + 3)), lI (rPs n s (B 0) m (58 + 15 * k + 5)), lI (rUntil n s (B 0 5) 200 1 (B 0)), lI (B 0 5), lI (B 0 (58 + 15 * k + 10)), lI (B 0 (58 + 15 * k + 3)), lI (B 0 0), lI (nI b6)] [] σ1 := by
    refine sL_act_721 hΓ rfl ?_
    refine sL_act_722 hΓ 0 0 (Nat.le_of_ble_eq_true rfl) ho1 (fun κ_722 hΓ_722 => ct_tick hΓ_722 hS1 hV1 ?_)
    show AW G κ _ _ 725 _ _ _
    refine sL_act_725 hΓ rfl ?_
    refine sL_act_727 hΓ rfl ?_
    refine sL_act_729 hΓ ?_
    refine sL_act_730 hΓ (fun c730 => absurd (by rw [eB, hG.2.1, h.2.1, nI_add]) c730) (fun c730 => ?_)
    refine sL_act_733 hΓ rfl ?_
    refine sL_act_735 hΓ rfl ?_
    refine sL_act_737 hΓ (fun c737 => absurd c737 (nI_nlt (by omega) (by omega))) (fun c737 => ?_)
    refine sL_act_740 hΓ rfl ?_
    refine sL_act_741 hΓ 0 0 (Nat.le_of_ble_eq_true rfl) ho1 (fun κ_741 hΓ_741 => ct_queueLength hΓ_741 hS1 hV1 ?_)
    show AW G κ _ _ 744 _ _ _
    refine sL_act_744 hΓ rfl ?_
    refine sL_act_746 hΓ rfl ?_
    refine sL_act_748 hΓ ?_
    refine sL_act_749 hΓ (fun c749 => absurd (by rw [eB, s2, show nI q - nI b6 = nI (q - b6) from pk_sub (by omega), show q - b6 = a6 by omega]) c749) (fun c749 => ?_)
    refine sL_act_752 hΓ rfl ?_
    refine sL_act_754 hΓ rfl ?_
    refine sL_act_755 hΓ rfl ?_
    refine sL_act_757 hΓ 1 6 (Nat.le_of_ble_eq_true rfl) ho1 (fun κ_757 hΓ_757 => ct_sectionsEntered hΓ_757 hS1 hV1 hk ?_)
    show AW G κ _ _ 760 _ _ _
    refine sL_act_760 hΓ ?_
    refine sL_act_761 hΓ rfl ?_
    refine sL_act_763 hΓ ?_
    refine sL_act_764 hΓ rfl ?_
    refine sL_act_765 hΓ 0 0 (Nat.le_of_ble_eq_true rfl) ho1 (fun κ_765 hΓ_765 => ct_sectionCount hΓ_765 hS1 hV1 ?_)
    show AW G κ _ _ 768 _ _ _
    refine sL_act_768 hΓ (by rw [hV1.s4.1]; exact nI_ne0 (by omega) (by omega)) ?_
    refine sL_act_769 hΓ rfl ?_
    refine sL_act_771 hΓ (fun c771 => absurd eR c771) (fun c771 => ?_)
    refine sL_act_774 hΓ ?_
    refine sL_act_775 hΓ ?_
    exact sL_act_779 hΓ (Or.inr rfl) (hq _ _ _ _ hS1 hA)
  by_cases hb : B 0 5 < rPs n s (B 0) m 5
  · obtain ⟨u1, u2⟩ := hcut.mp hb
    refine sL_act_693 hΓ (fun c693 => absurd (by rw [eB] at c693; exact c693) (Int32.not_le.mpr hb)) (fun c693 => ?_)
    refine sL_act_696 hΓ ?_
    refine sL_act_697 hΓ ?_
    refine sL_act_701 hΓ rfl ?_
    refine sL_act_703 hΓ (fun c703 => absurd c703 (Int32.not_le.mpr u1)) (fun c703 => ?_)
    refine sL_act_706 hΓ rfl ?_
    refine sL_act_708 hΓ rfl ?_
    refine sL_act_710 hΓ (fun c710 => absurd c710 (Int32.not_lt.mpr u2)) (fun c710 => ?_)
    refine sL_act_713 hΓ ?_
    refine sL_act_714 hΓ ?_
    refine sL_act_718 hΓ (fun c718 => absurd rfl c718) (fun c718 => ?_)
    exact g721
  · have hno : ¬ (0 < rUntil n s (B 0 5) 200 1 (B 0) ∧ rUntil n s (B 0 5) 200 1 (B 0) ≤ nI m) := fun e => hb (hcut.mpr e)
    refine sL_act_693 hΓ (fun c693 => ?_) (fun c693 => absurd (by rw [eB]; exact Int32.not_lt.mp hb) c693)
    refine sL_act_700 hΓ ?_
    refine sL_act_701 hΓ rfl ?_
    refine sL_act_703 hΓ (fun c703 => ?_) (fun c703 => ?_)
    · refine sL_act_717 hΓ ?_
      refine sL_act_718 hΓ (fun c718 => absurd rfl c718) (fun c718 => ?_)
      exact g721
    · refine sL_act_706 hΓ rfl ?_
      refine sL_act_708 hΓ rfl ?_
      refine sL_act_710 hΓ (fun c710 => ?_) (fun c710 => absurd ⟨Int32.not_le.mp c703, Int32.not_lt.mp c710⟩ hno)
      refine sL_act_717 hΓ ?_
      refine sL_act_718 hΓ (fun c718 => absurd rfl c718) (fun c718 => ?_)
      exact g721
end LawAct
