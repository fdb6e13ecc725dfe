/-! the law: all that is told -/
theorem sL_all_334d {G : Gl} {κ : Kx} {d : Nat} {Q : Option Value → Hp → Prop} {X : String → Hp → Prop} {cs ss : Nat} {L : List (Option LV)} {st : List Value} {σ : Hp} {x : Int32} (hΓ : Ok G κ mL_all d Q X) (k : AW G κ cs ss 342 L (.int (if x = 0 then 0 else 1) :: st) σ) : AW G κ cs ss 334 L (.int x :: st) σ := by
  refine sL_all_334 hΓ (fun c => ?_) (fun c => ?_)
  · refine sL_all_341 hΓ ?_
    rw [if_pos c] at k
    exact k
  · refine sL_all_337 hΓ ?_
    refine sL_all_338 hΓ ?_
    rw [if_neg c] at k
    exact k
theorem sL_all_373d {G : Gl} {κ : Kx} {d : Nat} {Q : Option Value → Hp → Prop} {X : String → Hp → Prop} {cs ss : Nat} {L : List (Option LV)} {st : List Value} {σ : Hp} {x : Int32} (hΓ : Ok G κ mL_all d Q X) (k : AW G κ cs ss 381 L (.int (if x = 0 then 0 else 1) :: st) σ) : AW G κ cs ss 373 L (.int x :: st) σ := by
  refine sL_all_373 hΓ (fun c => ?_) (fun c => ?_)
  · refine sL_all_380 hΓ ?_
    rw [if_pos c] at k
    exact k
  · refine sL_all_376 hΓ ?_
    refine sL_all_377 hΓ ?_
    rw [if_neg c] at k
    exact k
def al0 (ρ : Nat → Int32) (n q s : Nat) : Nat → Int32 := upd (upd (upd (upd (upd (upd (upd (fun _ => 0) 0 (ρ 0)) 1 (ρ 4)) 2 (ρ 5)) 3 (ρ 8)) 4 (nI q)) 5 (nI n)) 6 (nI s)
def alT (ρ f : Nat → Int32) : Nat → (Nat → Int32)
  | 0 => f
  | k + 1 => upd (upd (upd (upd (upd (upd (upd (upd (upd (upd (upd (upd (upd (alT ρ f k) (7 + 13 * k) (ρ (58 + 15 * k + 0))) (7 + 13 * k + 1) (ρ (58 + 15 * k + 3))) (7 + 13 * k + 2) (ρ (58 + 15 * k + 4))) (7 + 13 * k + 3) (ρ (58 + 15 * k + 5))) (7 + 13 * k + 4) (ρ (58 + 15 * k + 6))) (7 + 13 * k + 5) (ρ (58 + 15 * k + 7))) (7 + 13 * k + 6) (ρ (58 + 15 * k + 8))) (7 + 13 * k + 7) (ρ (58 + 15 * k + 9))) (7 + 13 * k + 8) (ρ (58 + 15 * k + 10))) (7 + 13 * k + 9) (ρ (58 + 15 * k + 11))) (7 + 13 * k + 10) (ρ (58 + 15 * k + 12))) (7 + 13 * k + 11) (ρ (58 + 15 * k + 13))) (7 + 13 * k + 12) (ρ (58 + 15 * k + 14))
def alP (ρ f : Nat → Int32) (b : Nat) : Nat → (Nat → Int32)
  | 0 => f
  | k + 1 => upd (upd (upd (alP ρ f b k) (b + 3 * k) (ρ (148 + 3 * k + 0))) (b + 3 * k + 1) (ρ (148 + 3 * k + 1))) (b + 3 * k + 2) (if bI (rWhole ρ k) = 0 then 0 else 1)
def alS (ρ f : Nat → Int32) (b : Nat) : Nat → (Nat → Int32)
  | 0 => f
  | k + 1 => upd (alS ρ f b k) (b + k) (if bI (ρ (34 + k) == 1) = 0 then 0 else 1)
def alN (n q s : Nat) : Nat := 7 + 13 * n + 3 * q + s
def alF (ρ : Nat → Int32) (n q s : Nat) : Nat → Int32 := alS ρ (alP ρ (alT ρ (al0 ρ n q s) n) (7 + 13 * n) q) (7 + 13 * n + 3 * q) s
theorem alF_0 (ρ : Nat → Int32) (n q s : Nat) : alF ρ n q s 0 = ρ 0 := by
  have t1 : ∀ f k, alT ρ f k 0 = f 0 := fun f k => by
    induction k with
    | zero => rfl
    | succ k ih =>
      unfold alT
      repeat rw [upd_ne (by omega)]
      exact ih
  have t2 : ∀ f b k, 7 ≤ b → alP ρ f b k 0 = f 0 := fun f b k hb => by
    induction k with
    | zero => rfl
    | succ k ih =>
      unfold alP
      repeat rw [upd_ne (by omega)]
      exact ih
  have t3 : ∀ f b k, 7 ≤ b → alS ρ f b k 0 = f 0 := fun f b k hb => by
    induction k with
    | zero => rfl
    | succ k ih =>
      unfold alS
      repeat rw [upd_ne (by omega)]
      exact ih
  unfold alF
  rw [t3 _ _ _ (by omega), t2 _ _ _ (by omega), t1]
  unfold al0
  repeat rw [upd_ne (by decide)]
  exact upd_same _ _ _
section LawAll
variable {G : Gl} {κ : Kx} {d : Nat} {Q : Option Value → Hp → Prop} {X : String → Hp → Prop} {cs ss pc : Nat} {σ σ1 : Hp} {c c1 A : Nat → Nat} {x am n s τ k q a m : Nat} {z z1 : Nat → Int32} {B B1 : Nat → Nat → Int32} {F F1 : Hp} {f : Nat → Int32} {o5 : Option LV}
theorem al_T (hΓ : Ok G κ mL_all (d + 8) Q X) (hS : LwS G σ c x am A z B F) (hV : RV (B 0) n s) (ha : σ a = none) (kk : AW G κ cs ss 287 [lR x, lI (nI n), lI (nI q), lR a, lI (nI (7 + 13 * n)), lI (nI n)] [] (hset σ a (eI G (alN n q s) (alT (B 0) f n)))) (hq : q ≤ 12) : ∀ j k, k + j = n → AW G κ (cs + 13 * j) (ss + 78 * j) 106 [lR x, lI (nI n), lI (nI q), lR a, lI (nI (7 + 13 * k)), lI (nI k)] [] (hset σ a (eI G (alN n q s) (alT (B 0) f k))) := by
  obtain ⟨fs, ho0⟩ := hS.o
  have hxa : x ≠ a := fun e => by rw [e, ha] at ho0; cases ho0
  have ho : ∀ e, hset σ a e x = some (.inr (10, fs)) := fun e => (hset_ne hxa).trans ho0
  have hn6 := hV.n6
  have hs24 := hV.s4.2.2
  intro j
  induction j with
  | zero =>
    intro k hk
    obtain rfl : k = n := by omega
    refine sL_all_106 hΓ rfl ?_
    refine sL_all_108 hΓ rfl ?_
    refine sL_all_109 hΓ (fun c109 => ?_) (fun c109 => absurd (Int32.le_refl _) c109)
    exact kk
  | succ j ih =>
    intro k hk
    have hkn : k < n := by omega
    show AW G κ (cs + 13 * j + 13) (ss + 78 * j + 78) 106 _ [] _
    refine sL_all_106 hΓ rfl ?_
    refine sL_all_108 hΓ rfl ?_
    refine sL_all_109 hΓ (fun c109 => absurd c109 (nI_ge (by omega) (by omega))) (fun c109 => ?_)
    refine sL_all_112 hΓ rfl ?_
    refine sL_all_113 hΓ rfl ?_
    refine sL_all_115 hΓ rfl ?_
    rw [nI_1]
    refine sL_all_118 hΓ rfl ?_
    refine sL_all_119 hΓ rfl ?_
    refine sL_all_121 hΓ 1 6 (Nat.le_of_ble_eq_true rfl) (ho _) (fun κ_121 hΓ_121 => ct_address hΓ_121 (hS.new ha _) hV hkn ?_)
    show AW G κ _ _ 124 _ _ _
    refine sL_all_124w hΓ (j := 7 + 13 * k + 0) rfl (by unfold alN; omega) (by unfold alN; omega) ?_
    refine sL_all_125 hΓ rfl ?_
    refine sL_all_126 hΓ rfl ?_
    refine sL_all_128 hΓ rfl ?_
    rw [nI_1]
    refine sL_all_131 hΓ rfl ?_
    refine sL_all_132 hΓ rfl ?_
    refine sL_all_134 hΓ 1 6 (Nat.le_of_ble_eq_true rfl) (ho _) (fun κ_134 hΓ_134 => ct_sectionOf hΓ_134 (hS.new ha _) hV hkn ?_)
    show AW G κ _ _ 137 _ _ _
    refine sL_all_137w hΓ (j := 7 + 13 * k + 1) rfl (by unfold alN; omega) (by unfold alN; omega) ?_
    refine sL_all_138 hΓ rfl ?_
    refine sL_all_139 hΓ rfl ?_
    refine sL_all_141 hΓ rfl ?_
    rw [nI_1]
    refine sL_all_144 hΓ rfl ?_
    refine sL_all_145 hΓ rfl ?_
    refine sL_all_147 hΓ 1 6 (Nat.le_of_ble_eq_true rfl) (ho _) (fun κ_147 hΓ_147 => ct_advance hΓ_147 (hS.new ha _) hV hkn ?_)
    show AW G κ _ _ 150 _ _ _
    refine sL_all_150w hΓ (j := 7 + 13 * k + 2) rfl (by unfold alN; omega) (by unfold alN; omega) ?_
    refine sL_all_151 hΓ rfl ?_
    refine sL_all_152 hΓ rfl ?_
    refine sL_all_154 hΓ rfl ?_
    rw [nI_1]
    refine sL_all_157 hΓ rfl ?_
    refine sL_all_158 hΓ rfl ?_
    refine sL_all_160 hΓ 1 6 (Nat.le_of_ble_eq_true rfl) (ho _) (fun κ_160 hΓ_160 => ct_speed hΓ_160 (hS.new ha _) hV hkn ?_)
    show AW G κ _ _ 163 _ _ _
    refine sL_all_163w hΓ (j := 7 + 13 * k + 3) rfl (by unfold alN; omega) (by unfold alN; omega) ?_
    refine sL_all_164 hΓ rfl ?_
    refine sL_all_165 hΓ rfl ?_
    refine sL_all_167 hΓ rfl ?_
    rw [nI_1]
    refine sL_all_170 hΓ rfl ?_
    refine sL_all_171 hΓ rfl ?_
    refine sL_all_173 hΓ 1 6 (Nat.le_of_ble_eq_true rfl) (ho _) (fun κ_173 hΓ_173 => ct_targetSpeed hΓ_173 (hS.new ha _) hV hkn ?_)
    show AW G κ _ _ 176 _ _ _
    refine sL_all_176w hΓ (j := 7 + 13 * k + 4) rfl (by unfold alN; omega) (by unfold alN; omega) ?_
    refine sL_all_177 hΓ rfl ?_
    refine sL_all_178 hΓ rfl ?_
    refine sL_all_180 hΓ rfl ?_
    rw [nI_1]
    refine sL_all_183 hΓ rfl ?_
    refine sL_all_184 hΓ rfl ?_
    refine sL_all_186 hΓ 1 6 (Nat.le_of_ble_eq_true rfl) (ho _) (fun κ_186 hΓ_186 => ct_brightness hΓ_186 (hS.new ha _) hV hkn ?_)
    show AW G κ _ _ 189 _ _ _
    refine sL_all_189w hΓ (j := 7 + 13 * k + 5) rfl (by unfold alN; omega) (by unfold alN; omega) ?_
    refine sL_all_190 hΓ rfl ?_
    refine sL_all_191 hΓ rfl ?_
    refine sL_all_193 hΓ rfl ?_
    rw [nI_1]
    refine sL_all_196 hΓ rfl ?_
    refine sL_all_197 hΓ rfl ?_
    refine sL_all_199 hΓ 1 6 (Nat.le_of_ble_eq_true rfl) (ho _) (fun κ_199 hΓ_199 => ct_duty hΓ_199 (hS.new ha _) hV hkn ?_)
    show AW G κ _ _ 202 _ _ _
    refine sL_all_202w hΓ (j := 7 + 13 * k + 6) rfl (by unfold alN; omega) (by unfold alN; omega) ?_
    refine sL_all_203 hΓ rfl ?_
    refine sL_all_204 hΓ rfl ?_
    refine sL_all_206 hΓ rfl ?_
    rw [nI_1]
    refine sL_all_209 hΓ rfl ?_
    refine sL_all_210 hΓ rfl ?_
    refine sL_all_212 hΓ 1 6 (Nat.le_of_ble_eq_true rfl) (ho _) (fun κ_212 hΓ_212 => ct_silence hΓ_212 (hS.new ha _) hV hkn ?_)
    show AW G κ _ _ 215 _ _ _
    refine sL_all_215w hΓ (j := 7 + 13 * k + 7) rfl (by unfold alN; omega) (by unfold alN; omega) ?_
    refine sL_all_216 hΓ rfl ?_
    refine sL_all_217 hΓ rfl ?_
    refine sL_all_219 hΓ rfl ?_
    rw [nI_1]
    refine sL_all_222 hΓ rfl ?_
    refine sL_all_223 hΓ rfl ?_
    refine sL_all_225 hΓ 1 6 (Nat.le_of_ble_eq_true rfl) (ho _) (fun κ_225 hΓ_225 => ct_sectionsEntered hΓ_225 (hS.new ha _) hV hkn ?_)
    show AW G κ _ _ 228 _ _ _
    refine sL_all_228w hΓ (j := 7 + 13 * k + 8) rfl (by unfold alN; omega) (by unfold alN; omega) ?_
    refine sL_all_229 hΓ rfl ?_
    refine sL_all_230 hΓ rfl ?_
    refine sL_all_232 hΓ rfl ?_
    rw [nI_1]
    refine sL_all_235 hΓ rfl ?_
    refine sL_all_236 hΓ rfl ?_
    refine sL_all_238 hΓ 1 6 (Nat.le_of_ble_eq_true rfl) (ho _) (fun κ_238 hΓ_238 => ct_obeyed hΓ_238 (hS.new ha _) hV hkn ?_)
    show AW G κ _ _ 241 _ _ _
    refine sL_all_241w hΓ (j := 7 + 13 * k + 9) rfl (by unfold alN; omega) (by unfold alN; omega) ?_
    refine sL_all_242 hΓ rfl ?_
    refine sL_all_243 hΓ rfl ?_
    refine sL_all_245 hΓ rfl ?_
    rw [nI_1]
    refine sL_all_248 hΓ rfl ?_
    refine sL_all_249 hΓ rfl ?_
    refine sL_all_251 hΓ 1 6 (Nat.le_of_ble_eq_true rfl) (ho _) (fun κ_251 hΓ_251 => ct_rejected hΓ_251 (hS.new ha _) hV hkn ?_)
    show AW G κ _ _ 254 _ _ _
    refine sL_all_254w hΓ (j := 7 + 13 * k + 10) rfl (by unfold alN; omega) (by unfold alN; omega) ?_
    refine sL_all_255 hΓ rfl ?_
    refine sL_all_256 hΓ rfl ?_
    refine sL_all_258 hΓ rfl ?_
    rw [nI_1]
    refine sL_all_261 hΓ rfl ?_
    refine sL_all_262 hΓ rfl ?_
    refine sL_all_264 hΓ 1 6 (Nat.le_of_ble_eq_true rfl) (ho _) (fun κ_264 hΓ_264 => ct_unheard hΓ_264 (hS.new ha _) hV hkn ?_)
    show AW G κ _ _ 267 _ _ _
    refine sL_all_267w hΓ (j := 7 + 13 * k + 11) rfl (by unfold alN; omega) (by unfold alN; omega) ?_
    refine sL_all_268 hΓ rfl ?_
    refine sL_all_269 hΓ rfl ?_
    refine sL_all_271 hΓ rfl ?_
    rw [nI_1]
    refine sL_all_274 hΓ rfl ?_
    refine sL_all_275 hΓ rfl ?_
    refine sL_all_277 hΓ 1 6 (Nat.le_of_ble_eq_true rfl) (ho _) (fun κ_277 hΓ_277 => ct_blockedTicks hΓ_277 (hS.new ha _) hV hkn ?_)
    show AW G κ _ _ 280 _ _ _
    refine sL_all_280w hΓ (j := 7 + 13 * k + 12) rfl (by unfold alN; omega) (by unfold alN; omega) ?_
    refine sL_all_281 hΓ rfl ?_
    refine sL_all_284 hΓ ?_
    skip
    show AW G κ (cs + 13 * j) (ss + 78 * j) 106 [lR x, lI (nI n), lI (nI q), lR a, lI (nI (7 + 13 * k + 13)), lI (nI k + 1)] [] (hset σ a (eI G (alN n q s) (alT (B 0) f (k + 1))))
    rw [nI_1, show 7 + 13 * k + 13 = 7 + 13 * (k + 1) by omega]
    exact ih (k + 1) (by omega)
theorem al_P (hΓ : Ok G κ mL_all (d + 8) Q X) (hS : LwS G σ c x am A z B F) (hV : RV (B 0) n s) (ha : σ a = none) (h6 : B 0 6 = nI q) (hq : q ≤ 12) (kk : AW G κ cs ss 349 [lR x, lI (nI n), lI (nI q), lR a, lI (nI (7 + 13 * n + 3 * q)), lI (nI q)] [] (hset σ a (eI G (alN n q s) (alP (B 0) f (7 + 13 * n) q)))) : ∀ j k, k + j = q → AW G κ (cs + 3 * j) (ss + 18 * j) 290 [lR x, lI (nI n), lI (nI q), lR a, lI (nI (7 + 13 * n + 3 * k)), lI (nI k)] [] (hset σ a (eI G (alN n q s) (alP (B 0) f (7 + 13 * n) k))) := by
  obtain ⟨fs, ho0⟩ := hS.o
  have hxa : x ≠ a := fun e => by rw [e, ha] at ho0; cases ho0
  have ho : ∀ e, hset σ a e x = some (.inr (10, fs)) := fun e => (hset_ne hxa).trans ho0
  have hn6 := hV.n6
  have hs24 := hV.s4.2.2
  intro j
  induction j with
  | zero =>
    intro k hk
    obtain rfl : k = q := by omega
    refine sL_all_290 hΓ rfl ?_
    refine sL_all_292 hΓ rfl ?_
    refine sL_all_293 hΓ (fun c293 => ?_) (fun c293 => absurd (Int32.le_refl _) c293)
    exact kk
  | succ j ih =>
    intro k hk
    have hkq : k < q := by omega
    show AW G κ (cs + 3 * j + 3) (ss + 18 * j + 18) 290 _ [] _
    refine sL_all_290 hΓ rfl ?_
    refine sL_all_292 hΓ rfl ?_
    refine sL_all_293 hΓ (fun c293 => absurd c293 (nI_ge (by omega) (by omega))) (fun c293 => ?_)
    refine sL_all_296 hΓ rfl ?_
    refine sL_all_297 hΓ rfl ?_
    refine sL_all_299 hΓ rfl ?_
    rw [nI_1]
    refine sL_all_302 hΓ rfl ?_
    refine sL_all_303 hΓ rfl ?_
    refine sL_all_305 hΓ 1 6 (Nat.le_of_ble_eq_true rfl) (ho _) (fun κ_305 hΓ_305 => ct_packetAddress hΓ_305 (hS.new ha _) hV h6 hq hkq ?_)
    show AW G κ _ _ 308 _ _ _
    refine sL_all_308w hΓ (j := 7 + 13 * n + 3 * k + 0) rfl (by unfold alN; omega) (by unfold alN; omega) ?_
    refine sL_all_309 hΓ rfl ?_
    refine sL_all_310 hΓ rfl ?_
    refine sL_all_312 hΓ rfl ?_
    rw [nI_1]
    refine sL_all_315 hΓ rfl ?_
    refine sL_all_316 hΓ rfl ?_
    refine sL_all_318 hΓ 1 6 (Nat.le_of_ble_eq_true rfl) (ho _) (fun κ_318 hΓ_318 => ct_packetCommand hΓ_318 (hS.new ha _) hV h6 hq hkq ?_)
    show AW G κ _ _ 321 _ _ _
    refine sL_all_321w hΓ (j := 7 + 13 * n + 3 * k + 1) rfl (by unfold alN; omega) (by unfold alN; omega) ?_
    refine sL_all_322 hΓ rfl ?_
    refine sL_all_323 hΓ rfl ?_
    refine sL_all_325 hΓ rfl ?_
    rw [nI_1]
    refine sL_all_328 hΓ rfl ?_
    refine sL_all_329 hΓ rfl ?_
    refine sL_all_331 hΓ 1 6 (Nat.le_of_ble_eq_true rfl) (ho _) (fun κ_331 hΓ_331 => ct_isIntact hΓ_331 (hS.new ha _) hV h6 hq hkq ?_)
    show AW G κ _ _ 334 _ _ _
    refine sL_all_334d hΓ ?_
    refine sL_all_342w hΓ (j := 7 + 13 * n + 3 * k + 2) rfl (by unfold alN; omega) (by unfold alN; omega) ?_
    refine sL_all_343 hΓ rfl ?_
    refine sL_all_346 hΓ ?_
    skip
    show AW G κ (cs + 3 * j) (ss + 18 * j) 290 [lR x, lI (nI n), lI (nI q), lR a, lI (nI (7 + 13 * n + 3 * k + 3)), lI (nI k + 1)] [] (hset σ a (eI G (alN n q s) (alP (B 0) f (7 + 13 * n) (k + 1))))
    rw [nI_1, show 7 + 13 * n + 3 * k + 3 = 7 + 13 * n + 3 * (k + 1) by omega]
    exact ih (k + 1) (by omega)
theorem al_S (hΓ : Ok G κ mL_all (d + 8) Q X) (hS : LwS G σ c x am A z B F) (hV : RV (B 0) n s) (ha : σ a = none) (hq : q ≤ 12) (kk : AW G κ cs ss 388 [lR x, lI (nI n), lI (nI q), lR a, lI (nI (7 + 13 * n + 3 * q + s)), lI (nI s)] [] (hset σ a (eI G (alN n q s) (alS (B 0) f (7 + 13 * n + 3 * q) s)))) : ∀ j k, k + j = s → AW G κ (cs + 1 * j) (ss + 6 * j) 352 [lR x, lI (nI n), lI (nI q), lR a, lI (nI (7 + 13 * n + 3 * q + k)), lI (nI k)] [] (hset σ a (eI G (alN n q s) (alS (B 0) f (7 + 13 * n + 3 * q) k))) := by
  obtain ⟨fs, ho0⟩ := hS.o
  have hxa : x ≠ a := fun e => by rw [e, ha] at ho0; cases ho0
  have ho : ∀ e, hset σ a e x = some (.inr (10, fs)) := fun e => (hset_ne hxa).trans ho0
  have hn6 := hV.n6
  have hs24 := hV.s4.2.2
  have e1 := hV.s4.1
  intro j
  induction j with
  | zero =>
    intro k hk
    obtain rfl : k = s := by omega
    refine sL_all_352 hΓ rfl ?_
    refine sL_all_354 hΓ rfl ?_
    refine sL_all_355 hΓ 0 0 (Nat.le_of_ble_eq_true rfl) (ho _) (fun κ_355 hΓ_355 => ct_sectionCount hΓ_355 (hS.new ha _) hV ?_)
    show AW G κ _ _ 358 _ _ _
    refine sL_all_358 hΓ (fun c358 => ?_) (fun c358 => absurd (by rw [e1]; exact Int32.le_refl _) c358)
    exact kk
  | succ j ih =>
    intro k hk
    have hks : k < s := by omega
    show AW G κ (cs + 1 * j + 1) (ss + 6 * j + 6) 352 _ [] _
    refine sL_all_352 hΓ rfl ?_
    refine sL_all_354 hΓ rfl ?_
    refine sL_all_355 hΓ 0 0 (Nat.le_of_ble_eq_true rfl) (ho _) (fun κ_355 hΓ_355 => ct_sectionCount hΓ_355 (hS.new ha _) hV ?_)
    show AW G κ _ _ 358 _ _ _
    refine sL_all_358 hΓ (fun c358 => absurd c358 (by rw [e1]; exact nI_ge (by omega) (by omega))) (fun c358 => ?_)
    refine sL_all_361 hΓ rfl ?_
    refine sL_all_362 hΓ rfl ?_
    refine sL_all_364 hΓ rfl ?_
    rw [nI_1]
    refine sL_all_367 hΓ rfl ?_
    refine sL_all_368 hΓ rfl ?_
    refine sL_all_370 hΓ 1 6 (Nat.le_of_ble_eq_true rfl) (ho _) (fun κ_370 hΓ_370 => ct_hasShort hΓ_370 (hS.new ha _) hV hks ?_)
    show AW G κ _ _ 373 _ _ _
    refine sL_all_373d hΓ ?_
    refine sL_all_381w hΓ (j := 7 + 13 * n + 3 * q + k) rfl (by unfold alN; omega) (by unfold alN; omega) ?_
    refine sL_all_382 hΓ rfl ?_
    refine sL_all_385 hΓ ?_
    skip
    show AW G κ (cs + 1 * j) (ss + 6 * j) 352 [lR x, lI (nI n), lI (nI q), lR a, lI (nI (7 + 13 * n + 3 * q + k + 1)), lI (nI k + 1)] [] (hset σ a (eI G (alN n q s) (alS (B 0) f (7 + 13 * n + 3 * q) (k + 1))))
    rw [nI_1, show 7 + 13 * n + 3 * q + k + 1 = 7 + 13 * n + 3 * q + (k + 1) by omega]
    exact ih (k + 1) (by omega)
theorem ct_all (hΓ : Ok G κ mL_all (d + 8) Q X) (hS : LwS G σ c x am A z B F) (hV : RV (B 0) n s) (h6 : B 0 6 = nI q) (hq : q ≤ 12) (hk : ∀ a : Nat, σ a = none → gB G ≤ a → Q (some (.ref a)) (hset σ a (eI G (alN n q s) (alF (B 0) n q s)))) : AW G κ (cs + 140) (ss + 1000) 0 [lR x, none, none, none, none, none] [] σ := by
  obtain ⟨fs, ho0⟩ := hS.o
  have hn6 := hV.n6
  have hs24 := hV.s4.2.2
  have hN : alN n q s ≤ 150 := by unfold alN; omega
  refine aw_less (cs2 := cs + s + 3 * q + 13 * n + 1) (ss2 := ss + 6 * s + 18 * q + 78 * n + alN n q s) (by omega) (by omega) ?_
  have eN : (7 : Int32) + 13 * nI n + 3 * nI q + nI s = nI (alN n q s) := by
    rw [show (7 : Int32) = nI 7 from rfl, show (13 : Int32) = nI 13 from rfl, show (3 : Int32) = nI 3 from rfl, pk_mul, pk_mul, nI_add, nI_add, nI_add]
    rfl
  refine sL_all_0 hΓ rfl ?_
  refine sL_all_1 hΓ 0 0 (Nat.le_of_ble_eq_true rfl) ho0 (fun κ_1 hΓ_1 => ct_trainCount hΓ_1 hS hV ?_)
  show AW G κ _ _ 4 _ _ _
  rw [hV.1.1.1]
  refine sL_all_4 hΓ ?_
  refine sL_all_5 hΓ rfl ?_
  refine sL_all_6 hΓ 0 0 (Nat.le_of_ble_eq_true rfl) ho0 (fun κ_6 hΓ_6 => ct_queueLength hΓ_6 hS hV ?_)
  show AW G κ _ _ 9 _ _ _
  rw [h6]
  refine sL_all_9 hΓ ?_
  refine sL_all_10 hΓ ?_
  refine sL_all_12 hΓ ?_
  refine sL_all_14 hΓ rfl ?_
  refine sL_all_15 hΓ ?_
  refine sL_all_16 hΓ ?_
  refine sL_all_17 hΓ ?_
  refine sL_all_18 hΓ rfl ?_
  refine sL_all_19 hΓ ?_
  refine sL_all_20 hΓ ?_
  refine sL_all_21 hΓ rfl ?_
  refine sL_all_22 hΓ 0 0 (Nat.le_of_ble_eq_true rfl) ho0 (fun κ_22 hΓ_22 => ct_sectionCount hΓ_22 hS hV ?_)
  show AW G κ _ _ 25 _ _ _
  rw [hV.s4.1]
  refine sL_all_25 hΓ ?_
  refine sL_all_26 hΓ eN (by omega) (fun a ha ga => ?_)
  skip
  have hxa : x ≠ a := fun e => by rw [e, ha] at ho0; cases ho0
  have ho : ∀ e, hset σ a e x = some (.inr (10, fs)) := fun e => (hset_ne hxa).trans ho0
  refine sL_all_28 hΓ ?_
  refine sL_all_29 hΓ ?_
  refine sL_all_30 hΓ ?_
  refine sL_all_32 hΓ rfl ?_
  refine sL_all_33 hΓ rfl ?_
  refine sL_all_35 hΓ rfl ?_
  refine sL_all_38 hΓ rfl ?_
  refine sL_all_39 hΓ 0 0 (Nat.le_of_ble_eq_true rfl) (ho _) (fun κ_39 hΓ_39 => ct_tick hΓ_39 (hS.new ha _) hV ?_)
  show AW G κ _ _ 42 _ _ _
  refine sL_all_42w hΓ (j := 0) rfl (by unfold alN; omega) (by omega) ?_
  refine sL_all_43 hΓ rfl ?_
  refine sL_all_44 hΓ rfl ?_
  refine sL_all_46 hΓ rfl ?_
  refine sL_all_49 hΓ rfl ?_
  refine sL_all_50 hΓ 0 0 (Nat.le_of_ble_eq_true rfl) (ho _) (fun κ_50 hΓ_50 => ct_remainingCutoff hΓ_50 (hS.new ha _) hV ?_)
  show AW G κ _ _ 53 _ _ _
  refine sL_all_53w hΓ (j := 1) rfl (by unfold alN; omega) (by omega) ?_
  refine sL_all_54 hΓ rfl ?_
  refine sL_all_55 hΓ rfl ?_
  refine sL_all_57 hΓ rfl ?_
  refine sL_all_60 hΓ rfl ?_
  refine sL_all_61 hΓ 0 0 (Nat.le_of_ble_eq_true rfl) (ho _) (fun κ_61 hΓ_61 => ct_cutoffs hΓ_61 (hS.new ha _) hV ?_)
  show AW G κ _ _ 64 _ _ _
  refine sL_all_64w hΓ (j := 2) rfl (by unfold alN; omega) (by omega) ?_
  refine sL_all_65 hΓ rfl ?_
  refine sL_all_66 hΓ rfl ?_
  refine sL_all_68 hΓ rfl ?_
  refine sL_all_71 hΓ rfl ?_
  refine sL_all_72 hΓ 0 0 (Nat.le_of_ble_eq_true rfl) (ho _) (fun κ_72 hΓ_72 => ct_sentPackets hΓ_72 (hS.new ha _) hV ?_)
  show AW G κ _ _ 75 _ _ _
  refine sL_all_75w hΓ (j := 3) rfl (by unfold alN; omega) (by omega) ?_
  refine sL_all_76 hΓ rfl ?_
  refine sL_all_77 hΓ rfl ?_
  refine sL_all_79 hΓ rfl ?_
  refine sL_all_82 hΓ rfl ?_
  refine sL_all_83w hΓ (j := 4) rfl (by unfold alN; omega) (by omega) ?_
  refine sL_all_84 hΓ rfl ?_
  refine sL_all_85 hΓ rfl ?_
  refine sL_all_87 hΓ rfl ?_
  refine sL_all_90 hΓ rfl ?_
  refine sL_all_91w hΓ (j := 5) rfl (by unfold alN; omega) (by omega) ?_
  refine sL_all_92 hΓ rfl ?_
  refine sL_all_93 hΓ rfl ?_
  refine sL_all_95 hΓ rfl ?_
  refine sL_all_98 hΓ rfl ?_
  refine sL_all_99 hΓ 0 0 (Nat.le_of_ble_eq_true rfl) (ho _) (fun κ_99 hΓ_99 => ct_sectionCount hΓ_99 (hS.new ha _) hV ?_)
  show AW G κ _ _ 102 _ _ _
  rw [hV.s4.1]
  refine sL_all_102w hΓ (j := 6) rfl (by unfold alN; omega) (by omega) ?_
  refine sL_all_103 hΓ ?_
  refine sL_all_104 hΓ ?_
  refine al_T (f := al0 (B 0) n q s) hΓ hS hV ha ?_ hq n 0 (Nat.zero_add n)
  refine sL_all_287 hΓ ?_
  refine sL_all_288 hΓ ?_
  refine al_P hΓ hS hV ha h6 hq ?_ q 0 (Nat.zero_add q)
  refine sL_all_349 hΓ ?_
  refine sL_all_350 hΓ ?_
  refine aw_less (cs2 := cs + 1 * s) (ss2 := ss + 6 * s) (by omega) (by omega) ?_
  refine al_S hΓ hS hV ha hq ?_ s 0 (Nat.zero_add s)
  refine sL_all_388 hΓ rfl ?_
  exact sL_all_389 hΓ (hk a ha ga)
end LawAll
