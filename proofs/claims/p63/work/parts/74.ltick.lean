/-! the law: tick -/
theorem sL_tick_63d {G : Gl} {κ : Kx} {d : Nat} {Q : Option Value → Hp → Prop} {X : String → Hp → Prop} {cs ss : Nat} {L : List (Option LV)} {st : List Value} {σ : Hp} {x : Int32} (hΓ : Ok G κ mL_tick d Q X) (k : AW G κ cs ss 71 L (.int (if x = 0 then 0 else 1) :: st) σ) : AW G κ cs ss 63 L (.int x :: st) σ := by
  refine sL_tick_63 hΓ (fun c => ?_) (fun c => ?_)
  · refine sL_tick_70 hΓ ?_
    rw [if_pos c] at k
    exact k
  · refine sL_tick_66 hΓ ?_
    refine sL_tick_67 hΓ ?_
    rw [if_neg c] at k
    exact k
theorem sL_tick_184d {G : Gl} {κ : Kx} {d : Nat} {Q : Option Value → Hp → Prop} {X : String → Hp → Prop} {cs ss : Nat} {L : List (Option LV)} {st : List Value} {σ : Hp} {x : Int32} (hΓ : Ok G κ mL_tick d Q X) (k : AW G κ cs ss 192 L (.int (if x = 0 then 0 else 1) :: st) σ) : AW G κ cs ss 184 L (.int x :: st) σ := by
  refine sL_tick_184 hΓ (fun c => ?_) (fun c => ?_)
  · refine sL_tick_191 hΓ ?_
    rw [if_pos c] at k
    exact k
  · refine sL_tick_187 hΓ ?_
    refine sL_tick_188 hΓ ?_
    rw [if_neg c] at k
    exact k
theorem sL_tick_202d {G : Gl} {κ : Kx} {d : Nat} {Q : Option Value → Hp → Prop} {X : String → Hp → Prop} {cs ss : Nat} {L : List (Option LV)} {st : List Value} {σ : Hp} {x : Int32} (hΓ : Ok G κ mL_tick d Q X) (k : AW G κ cs ss 210 L (.int (if x = 0 then 0 else 1) :: st) σ) : AW G κ cs ss 202 L (.int x :: st) σ := by
  refine sL_tick_202 hΓ (fun c => ?_) (fun c => ?_)
  · refine sL_tick_209 hΓ ?_
    rw [if_pos c] at k
    exact k
  · refine sL_tick_205 hΓ ?_
    refine sL_tick_206 hΓ ?_
    rw [if_neg c] at k
    exact k
theorem bI_if {b : Bool} : (if bI b = 0 then (0 : Int32) else 1) = bI b := by cases b <;> rfl
theorem hset_none {σ : Hp} {a b : Nat} {e : va_E} (h : hset σ a e b = none) : b ≠ a ∧ σ b = none := by
  have hn : b ≠ a := fun e9 => by rw [e9, hset_same] at h; cases h
  rw [hset_ne hn] at h
  exact ⟨hn, h⟩
/-- what the law's tick remembers -/
def TkA (G : Gl) (F : Hp) (ρ : Nat → Int32) (n k a1 a2 a3 a4 a5 : Nat) : Prop := ∃ f1 f2 f3 f4 f5 : Nat → Int32, F a1 = some (eI G n f1) ∧ F a2 = some (eI G n f2) ∧ F a3 = some (eI G n f3) ∧ F a4 = some (eI G n f4) ∧ F a5 = some (eZ G n f5) ∧ ∀ j, j < k → f1 j = tf ρ j 11 ∧ f2 j = tf ρ j 13 ∧ f3 j = tf ρ j 12 ∧ f4 j = tf ρ j 6 ∧ f5 j = bI (tunB ρ j)
section LawTick
variable {G : Gl} {κ : Kx} {d : Nat} {Q : Option Value → Hp → Prop} {X : String → Hp → Prop} {cs ss pc : Nat} {σ σ1 : Hp} {c c1 A : Nat → Nat} {x am n s τ k q a m a1 a2 a3 a4 a5 kk : Nat} {z z1 : Nat → Int32} {B B1 : Nat → Nat → Int32} {F F0 F1 : Hp} {l2 l3 l4 l5 l11 : Int32} {ρ : Nat → Int32} {C : Ct}
theorem tk_A (hΓ : Ok G κ mL_tick (d + 9) Q X) (hS : LwS G σ c x am A z B F) (hV : RV (B 0) n s) (h6 : B 0 6 = nI q) (hq : q ≤ 12) (kk : AW G κ cs ss 73 [lR x, lI (nI n), lI (bI (snd (B 0))), lI (if snd (B 0) = true then B 0 148 else -1), lI (if snd (B 0) = true then B 0 149 else 0), lI (if snd (B 0) = true then bI (rWhole (B 0) 0) else 0), none, none, none, none, none, none, none, none, none, none] [] σ) : AW G κ (cs + 3) (ss + 18) 0 [lR x, none, none, none, none, none, none, none, none, none, none, none, none, none, none, none] [] σ := by
  obtain ⟨fs, ho⟩ := hS.o
  have hn6 := hV.n6
  by_cases hs : snd (B 0) = true
  · obtain ⟨p4, p6⟩ := snd_p.mp hs
    have hq0 : 0 < q := by
      rcases Nat.eq_zero_or_pos q with e | e
      · exact absurd (by rw [h6, e]; rfl) p6
      · exact e
    rw [hs, if_pos rfl, if_pos rfl, if_pos rfl] at kk
    refine sL_tick_0 hΓ rfl ?_
    refine sL_tick_1 hΓ 0 0 (Nat.le_of_ble_eq_true rfl) ho (fun κ_1 hΓ_1 => ct_trainCount hΓ_1 hS hV ?_)
    show AW G κ _ _ 4 _ _ _
    rw [hV.1.1.1]
    refine sL_tick_4 hΓ ?_
    refine sL_tick_5 hΓ rfl ?_
    refine sL_tick_6 hΓ 0 0 (Nat.le_of_ble_eq_true rfl) ho (fun κ_6 hΓ_6 => ct_isPowerOn hΓ_6 hS hV ?_)
    show AW G κ _ _ 9 _ _ _
    refine sL_tick_9 hΓ (fun c9 => absurd c9 (by rw [p4]; decide)) (fun c9 => ?_)
    refine sL_tick_12 hΓ rfl ?_
    refine sL_tick_13 hΓ 0 0 (Nat.le_of_ble_eq_true rfl) ho (fun κ_13 hΓ_13 => ct_queueLength hΓ_13 hS hV ?_)
    show AW G κ _ _ 16 _ _ _
    refine sL_tick_16 hΓ (fun c16 => absurd c16 (by rw [h6]; exact nI_ge (a := 0) hq0 (by omega))) (fun c16 => ?_)
    refine sL_tick_19 hΓ ?_
    refine sL_tick_20 hΓ ?_
    refine sL_tick_24 hΓ ?_
    refine sL_tick_25 hΓ rfl ?_
    refine sL_tick_26 hΓ (fun c26 => absurd c26 (by decide)) (fun c26 => ?_)
    refine sL_tick_29 hΓ rfl ?_
    refine sL_tick_30 hΓ ?_
    refine sL_tick_31 hΓ 1 6 (Nat.le_of_ble_eq_true rfl) ho (fun κ_31 hΓ_31 => ct_packetAddress hΓ_31 hS hV (k := 0) h6 hq hq0 ?_)
    show AW G κ _ _ 34 _ _ _
    refine sL_tick_34 hΓ ?_
    refine sL_tick_38 hΓ ?_
    refine sL_tick_39 hΓ rfl ?_
    refine sL_tick_40 hΓ (fun c40 => absurd c40 (by decide)) (fun c40 => ?_)
    refine sL_tick_43 hΓ rfl ?_
    refine sL_tick_44 hΓ ?_
    refine sL_tick_45 hΓ 1 6 (Nat.le_of_ble_eq_true rfl) ho (fun κ_45 hΓ_45 => ct_packetCommand hΓ_45 hS hV (k := 0) h6 hq hq0 ?_)
    show AW G κ _ _ 48 _ _ _
    refine sL_tick_48 hΓ ?_
    refine sL_tick_52 hΓ ?_
    refine sL_tick_54 hΓ rfl ?_
    refine sL_tick_55 hΓ (fun c55 => absurd c55 (by decide)) (fun c55 => ?_)
    refine sL_tick_58 hΓ rfl ?_
    refine sL_tick_59 hΓ ?_
    refine sL_tick_60 hΓ 1 6 (Nat.le_of_ble_eq_true rfl) ho (fun κ_60 hΓ_60 => ct_isIntact hΓ_60 hS hV (k := 0) h6 hq hq0 ?_)
    show AW G κ _ _ 63 _ _ _
    refine sL_tick_63d hΓ ?_
    rw [bI_if]
    refine sL_tick_71 hΓ ?_
    exact kk
  · rw [Bool.eq_false_iff.mpr hs, if_neg (by decide), if_neg (by decide), if_neg (by decide)] at kk
    refine aw_less (cs2 := cs) (ss2 := ss) (by omega) (by omega) ?_
    have g : AW G κ cs ss 23 [lR x, lI (nI n), none, none, none, none, none, none, none, none, none, none, none, none, none, none] [] σ := by
      refine sL_tick_23 hΓ ?_
      refine sL_tick_24 hΓ ?_
      refine sL_tick_25 hΓ rfl ?_
      refine sL_tick_26 hΓ (fun c26 => ?_) (fun c26 => absurd rfl c26)
      refine sL_tick_37 hΓ ?_
      refine sL_tick_38 hΓ ?_
      refine sL_tick_39 hΓ rfl ?_
      refine sL_tick_40 hΓ (fun c40 => ?_) (fun c40 => absurd rfl c40)
      refine sL_tick_51 hΓ ?_
      refine sL_tick_52 hΓ ?_
      refine sL_tick_54 hΓ rfl ?_
      refine sL_tick_55 hΓ (fun c55 => ?_) (fun c55 => absurd rfl c55)
      refine sL_tick_70 hΓ ?_
      refine sL_tick_71 hΓ ?_
      exact kk
    refine sL_tick_0 hΓ rfl ?_
    refine sL_tick_1 hΓ 0 0 (Nat.le_of_ble_eq_true rfl) ho (fun κ_1 hΓ_1 => ct_trainCount hΓ_1 hS hV ?_)
    show AW G κ _ _ 4 _ _ _
    rw [hV.1.1.1]
    refine sL_tick_4 hΓ ?_
    refine sL_tick_5 hΓ rfl ?_
    refine sL_tick_6 hΓ 0 0 (Nat.le_of_ble_eq_true rfl) ho (fun κ_6 hΓ_6 => ct_isPowerOn hΓ_6 hS hV ?_)
    show AW G κ _ _ 9 _ _ _
    refine sL_tick_9 hΓ (fun c9 => ?_) (fun c9 => ?_)
    · exact g
    · refine sL_tick_12 hΓ rfl ?_
      refine sL_tick_13 hΓ 0 0 (Nat.le_of_ble_eq_true rfl) ho (fun κ_13 hΓ_13 => ct_queueLength hΓ_13 hS hV ?_)
      show AW G κ _ _ 16 _ _ _
      refine sL_tick_16 hΓ (fun c16 => ?_) (fun c16 => absurd (show B 0 6 ≤ 0 from by rw [show B 0 6 = 0 from Classical.byContradiction (fun e => hs (snd_p.mpr ⟨beq_iff_eq.mp (bI_n0 c9), e⟩))]; exact Int32.le_refl _) c16)
      exact g
theorem nar_bI {b : Bool} : vp_nar .boolean (bI b) = bI b := by cases b <;> rfl
theorem tk_B (hΓ : Ok G κ mL_tick (d + 9) Q X) (hV : RV (B 0) n s) (h12 : a1 ≠ a2) (h13 : a1 ≠ a3) (h14 : a1 ≠ a4) (h15 : a1 ≠ a5) (h23 : a2 ≠ a3) (h24 : a2 ≠ a4) (h25 : a2 ≠ a5) (h34 : a3 ≠ a4) (h35 : a3 ≠ a5) (h45 : a4 ≠ a5) (n1 : F0 a1 = none) (n2 : F0 a2 = none) (n3 : F0 a3 = none) (n4 : F0 a4 = none) (n5 : F0 a5 = none) (kk : ∀ (σ : Hp) (F : Hp), LwS G σ c x am A z B F → TkA G F (B 0) n n a1 a2 a3 a4 a5 → (∀ y e, F0 y = some e → F y = some e) → AW G κ cs ss 172 [lR x, lI (nI n), lI l2, lI l3, lI l4, lI l5, lR a1, lR a2, lR a3, lR a4, lR a5, lI (nI n), none, none, none, none] [] σ) : ∀ j k, k + j = n → ∀ (σ : Hp) (F : Hp), LwS G σ c x am A z B F → TkA G F (B 0) n k a1 a2 a3 a4 a5 → (∀ y e, F0 y = some e → F y = some e) → AW G κ (cs + 6 * j) (ss + 36 * j) 101 [lR x, lI (nI n), lI l2, lI l3, lI l4, lI l5, lR a1, lR a2, lR a3, lR a4, lR a5, lI (nI k), none, none, none, none] [] σ := by
  have hn6 := hV.n6
  intro j
  induction j with
  | zero =>
    intro k hk σ F hS hT hF
    obtain rfl : k = n := by omega
    refine sL_tick_101 hΓ rfl ?_
    refine sL_tick_103 hΓ rfl ?_
    refine sL_tick_104 hΓ (fun c104 => ?_) (fun c104 => absurd (Int32.le_refl _) c104)
    exact kk σ F hS hT hF
  | succ j ih =>
    intro k hk σ F hS hT hF
    have hkn : k < n := by omega
    obtain ⟨f1, f2, f3, f4, f5, q1, g2, g3, g4, g5, hf⟩ := hT
    obtain ⟨fs, ho⟩ := hS.o
    show AW G κ (cs + 6 * j + 6) (ss + 36 * j + 36) 101 _ [] _
    refine sL_tick_101 hΓ rfl ?_
    refine sL_tick_103 hΓ rfl ?_
    refine sL_tick_104 hΓ (fun c104 => absurd c104 (nI_ge hkn (by omega))) (fun c104 => ?_)
    refine sL_tick_107 hΓ rfl ?_
    refine sL_tick_109 hΓ rfl ?_
    refine sL_tick_111 hΓ rfl ?_
    refine sL_tick_112 hΓ rfl ?_
    refine sL_tick_114 hΓ 1 6 (Nat.le_of_ble_eq_true rfl) ho (fun κ_114 hΓ_114 => ct_obeyed hΓ_114 hS hV hkn ?_)
    show AW G κ _ _ 117 _ _ _
    refine sL_tick_117 hΓ (hS.at q1) rfl hkn (by omega) ?_
    have hS1 := hS.put q1 (eI G n (upd f1 k (B 0 (58 + 15 * k + 11))))
    obtain ⟨fs1, ho1⟩ := hS1.o
    refine sL_tick_118 hΓ rfl ?_
    refine sL_tick_120 hΓ rfl ?_
    refine sL_tick_122 hΓ rfl ?_
    refine sL_tick_123 hΓ rfl ?_
    refine sL_tick_125 hΓ 1 6 (Nat.le_of_ble_eq_true rfl) ho1 (fun κ_125 hΓ_125 => ct_unheard hΓ_125 hS1 hV hkn ?_)
    show AW G κ _ _ 128 _ _ _
    refine sL_tick_128 hΓ (hS1.at ((hset_ne h12.symm).trans (g2))) rfl hkn (by omega) ?_
    have hS2 := hS1.put ((hset_ne h12.symm).trans (g2)) (eI G n (upd f2 k (B 0 (58 + 15 * k + 13))))
    obtain ⟨fs2, ho2⟩ := hS2.o
    refine sL_tick_129 hΓ rfl ?_
    refine sL_tick_131 hΓ rfl ?_
    refine sL_tick_133 hΓ rfl ?_
    refine sL_tick_134 hΓ rfl ?_
    refine sL_tick_136 hΓ 1 6 (Nat.le_of_ble_eq_true rfl) ho2 (fun κ_136 hΓ_136 => ct_rejected hΓ_136 hS2 hV hkn ?_)
    show AW G κ _ _ 139 _ _ _
    refine sL_tick_139 hΓ (hS2.at ((hset_ne h23.symm).trans ((hset_ne h13.symm).trans (g3)))) rfl hkn (by omega) ?_
    have hS3 := hS2.put ((hset_ne h23.symm).trans ((hset_ne h13.symm).trans (g3))) (eI G n (upd f3 k (B 0 (58 + 15 * k + 12))))
    obtain ⟨fs3, ho3⟩ := hS3.o
    refine sL_tick_140 hΓ rfl ?_
    refine sL_tick_142 hΓ rfl ?_
    refine sL_tick_144 hΓ rfl ?_
    refine sL_tick_145 hΓ rfl ?_
    refine sL_tick_147 hΓ 1 6 (Nat.le_of_ble_eq_true rfl) ho3 (fun κ_147 hΓ_147 => ct_targetSpeed hΓ_147 hS3 hV hkn ?_)
    show AW G κ _ _ 150 _ _ _
    refine sL_tick_150 hΓ (hS3.at ((hset_ne h34.symm).trans ((hset_ne h24.symm).trans ((hset_ne h14.symm).trans (g4))))) rfl hkn (by omega) ?_
    have hS4 := hS3.put ((hset_ne h34.symm).trans ((hset_ne h24.symm).trans ((hset_ne h14.symm).trans (g4)))) (eI G n (upd f4 k (B 0 (58 + 15 * k + 6))))
    obtain ⟨fs4, ho4⟩ := hS4.o
    refine sL_tick_151 hΓ rfl ?_
    refine sL_tick_153 hΓ rfl ?_
    refine sL_tick_155 hΓ rfl ?_
    refine sL_tick_156 hΓ rfl ?_
    refine sL_tick_157 hΓ rfl ?_
    refine sL_tick_159 hΓ 1 6 (Nat.le_of_ble_eq_true rfl) ho4 (fun κ_159 hΓ_159 => ct_sectionOf hΓ_159 hS4 hV hkn ?_)
    show AW G κ _ _ 162 _ _ _
    rw [show B 0 (58 + 15 * k + 3) = nI (rSec (B 0) k) from (hV.1.1.at3 hkn).2]
    refine sL_tick_162 hΓ 1 6 (Nat.le_of_ble_eq_true rfl) ho4 (fun κ_162 hΓ_162 => ct_isTunnel hΓ_162 hS4 hV (hV.1.1.at3 hkn).1 ?_)
    show AW G κ _ _ 165 _ _ _
    refine sL_tick_165 hΓ (hS4.at ((hset_ne h45.symm).trans ((hset_ne h35.symm).trans ((hset_ne h25.symm).trans ((hset_ne h15.symm).trans (g5)))))) rfl hkn (by omega) nar_bI ?_
    have hS5 := hS4.put ((hset_ne h45.symm).trans ((hset_ne h35.symm).trans ((hset_ne h25.symm).trans ((hset_ne h15.symm).trans (g5))))) (eZ G n (upd f5 k (bI (B 0 (10 + rSec (B 0) k) == 1))))
    obtain ⟨fs5, ho5⟩ := hS5.o
    refine sL_tick_166 hΓ rfl ?_
    refine sL_tick_169 hΓ ?_
    skip
    show AW G κ (cs + 6 * j) (ss + 36 * j) 101 [lR x, lI (nI n), lI l2, lI l3, lI l4, lI l5, lR a1, lR a2, lR a3, lR a4, lR a5, lI (nI k + 1), none, none, none, none] [] _
    rw [nI_1]
    refine ih (k + 1) (by omega) _ _ hS5 ⟨upd f1 k (B 0 (58 + 15 * k + 11)), upd f2 k (B 0 (58 + 15 * k + 13)), upd f3 k (B 0 (58 + 15 * k + 12)), upd f4 k (B 0 (58 + 15 * k + 6)), upd f5 k (bI (B 0 (10 + rSec (B 0) k) == 1)), (hset_ne h15).trans ((hset_ne h14).trans ((hset_ne h13).trans ((hset_ne h12).trans (hset_same _ _ _)))), (hset_ne h25).trans ((hset_ne h24).trans ((hset_ne h23).trans (hset_same _ _ _))), (hset_ne h35).trans ((hset_ne h34).trans (hset_same _ _ _)), (hset_ne h45).trans (hset_same _ _ _), hset_same _ _ _, fun i hi => ?_⟩ (fun y e hy => ?_)
    · by_cases ei : i = k
      · subst ei
        rw [upd_same, upd_same, upd_same, upd_same, upd_same]
        exact ⟨rfl, rfl, rfl, rfl, rfl⟩
      · rw [upd_ne ei, upd_ne ei, upd_ne ei, upd_ne ei, upd_ne ei]
        exact hf i (by omega)
    · have hy1 : ∀ a, F0 a = none → y ≠ a := fun a ha e9 => by rw [e9, ha] at hy; cases hy
      exact (hset_ne (hy1 a5 n5)).trans ((hset_ne (hy1 a4 n4)).trans ((hset_ne (hy1 a3 n3)).trans ((hset_ne (hy1 a2 n2)).trans ((hset_ne (hy1 a1 n1)).trans (hF y e hy)))))
theorem min_cm {y : Int32} : (if y < 28 then y else 28) = if 28 < y then 28 else y := by
  by_cases c1 : y < 28
  · rw [if_pos c1, if_neg (Int32.not_lt.mpr (Int32.le_of_lt c1))]
  · rw [if_neg c1]
    by_cases c2 : 28 < y
    · rw [if_pos c2]
    · rw [if_neg c2]
      exact Int32.le_antisymm (Int32.not_lt.mp c1) (Int32.not_lt.mp c2)
theorem le39 {x : Int32} (h : x ≤ 39) : x < 40 := Int32.lt_of_le_of_lt h (by decide)
theorem gt39 {x : Int32} (h : ¬ x ≤ 39) : ¬ x < 40 := fun h9 => h (by
  rw [Int32.le_iff_toInt_le]
  rw [Int32.lt_iff_toInt_lt] at h9
  have e1 : (40 : Int32).toInt = 40 := by decide
  have e2 : (39 : Int32).toInt = 39 := by decide
  omega)
theorem tk_D (hΓ : Ok G κ mL_tick (d + 9) Q X) (h : GR ρ n s τ) (hC : CR ρ n s C) (h0 : ¬ ρ 0 = 10000) (hS : LwS G σ c x am A z B F) (eB : B 0 = rT n s ρ) (hV : RV (B 0) n s) (hT : TkA G F ρ n n a1 a2 a3 a4 a5) (hl : snd ρ = true → l3 = ρ 148 ∧ l4 = ρ 149 ∧ l5 = bI (rWhole ρ 0)) (hq : Q (some (.int 1)) σ) : ∀ j k, k + j = n → ∀ o13 o14 o15, AW G κ (cs + 7 * j) (ss + 42 * j) 219 [lR x, lI (nI n), lI (bI (snd ρ)), lI l3, lI l4, lI l5, lR a1, lR a2, lR a3, lR a4, lR a5, lI l11, lI (nI (k)), o13, o14, o15] [] σ := by
  have hn6 := hV.n6
  obtain ⟨fs, ho⟩ := hS.o
  obtain ⟨f1, f2, f3, f4, f5, g1, g2, g3, g4, g5, hf⟩ := hT
  intro j
  induction j with
  | zero =>
    intro k hk o13 o14 o15
    obtain rfl : k = n := by omega
    refine sL_tick_219 hΓ rfl ?_
    refine sL_tick_221 hΓ rfl ?_
    refine sL_tick_222 hΓ (fun c222 => ?_) (fun c222 => absurd (Int32.le_refl _) c222)
    refine sL_tick_478 hΓ ?_
    exact sL_tick_479 hΓ (Or.inr rfl) hq
  | succ j ih =>
    intro k hk o13 o14 o15
    have hkn : k < n := by omega
    obtain ⟨f1e, f2e, f3e, f4e, f5e⟩ := hf k hkn
    obtain ⟨t11, t13, t12, t9, t6, t0⟩ := tickL h.1 hC h0 hkn
    obtain ⟨-, -, ⟨a, a_, ea, -⟩, -, -⟩ := h.2.2.2.2.2.2.1 k hkn
    have hτ := h.2.2.1
    have t5 : ∀ o13 o14 o15, AW G κ (cs + 7 * j) (ss + 42 * j) 472 [lR x, lI (nI n), lI (bI (snd ρ)), lI l3, lI l4, lI l5, lR a1, lR a2, lR a3, lR a4, lR a5, lI l11, lI (nI (k)), o13, o14, o15] [] σ := fun o13 o14 o15 => by
      refine sL_tick_472 hΓ rfl ?_
      refine sL_tick_475 hΓ ?_
      skip
      show AW G κ (cs + 7 * j) (ss + 42 * j) 219 [lR x, lI (nI n), lI (bI (snd ρ)), lI l3, lI l4, lI l5, lR a1, lR a2, lR a3, lR a4, lR a5, lI l11, lI (nI k + 1), o13, o14, o15] [] σ
      rw [nI_1]
      exact ih (k + 1) (by omega) _ _ _
    have g248 : ∀ v : Int32, v = bI (itsB ρ k) → AW G κ (cs + 7 * j + 6) (ss + 42 * j + 36) 248 [lR x, lI (nI n), lI (bI (snd ρ)), lI l3, lI l4, lI l5, lR a1, lR a2, lR a3, lR a4, lR a5, lI l11, lI (nI (k)), o13, o14, o15] [.int v] σ := fun v hv => by
      subst hv
      by_cases ci : itsB ρ k = true
      · have hs : snd ρ = true := by unfold itsB at ci; rw [Bool.and_eq_true] at ci; exact ci.1
        obtain ⟨e3, e4, e5_⟩ := hl hs
        subst e3 e4 e5_
        rw [ci]
        show AW G κ (cs + 7 * j + 6) (ss + 42 * j + 36) 248 _ [.int 1] σ
        by_cases ct : tunB ρ k = true
        · have eo : obB ρ k = false := by unfold obB; rw [ci, ct]; rfl
          have q11 : B 0 (58 + 15 * k + 11) = f1 k + 0 := by rw [eB, show rT n s ρ (58 + 15 * k + 11) = _ from t11, eo, f1e]; rfl
          have q13 : B 0 (58 + 15 * k + 13) = f2 k + 1 := by rw [eB, show rT n s ρ (58 + 15 * k + 13) = _ from t13, ci, ct, f2e]; rfl
          have q12 : B 0 (58 + 15 * k + 12) = f3 k + 0 := by rw [eB, show rT n s ρ (58 + 15 * k + 12) = _ from t12, ci, ct, f3e]; rfl
          have e5 : f5 k = 1 := by rw [f5e, ct]; rfl
          have q9 : B 0 (58 + 15 * k + 9) = nI (a + 1) := by rw [eB, show rT n s ρ (58 + 15 * k + 9) = _ from t9, eo, if_neg (by decide), ea, nI_1]
          have q6a : B 0 (58 + 15 * k + 6) = if nI (a + 1) < 40 then tf ρ k 6 else 0 := by rw [eB, show rT n s ρ (58 + 15 * k + 6) = _ from t6, eo, if_neg (by decide), ea, nI_1]
          refine sL_tick_248 hΓ ?_
          refine sL_tick_250 hΓ rfl ?_
          refine sL_tick_252 hΓ (fun c252 => absurd c252 (by decide)) (fun c252 => ?_)
          refine sL_tick_255 hΓ rfl ?_
          refine sL_tick_257 hΓ rfl ?_
          refine sL_tick_259 hΓ (hS.at g5) rfl hkn (by omega) ?_
          rw [e5]
          refine sL_tick_260 hΓ (fun c260 => ?_) (fun c260 => absurd c260 (by decide))
          refine sL_tick_272 hΓ ?_
          refine sL_tick_273 hΓ ?_
          refine sL_tick_275 hΓ rfl ?_
          refine sL_tick_277 hΓ (fun c277 => absurd rfl c277) (fun c277 => ?_)
          refine sL_tick_280 hΓ rfl ?_
          refine sL_tick_282 hΓ rfl ?_
          refine sL_tick_284 hΓ (hS.at g4) rfl hkn (by omega) ?_
          refine sL_tick_285 hΓ ?_
          refine sL_tick_327 hΓ ?_
          refine sL_tick_329 hΓ rfl ?_
          refine sL_tick_330 hΓ rfl ?_
          refine sL_tick_332 hΓ 1 6 (Nat.le_of_ble_eq_true rfl) ho (fun κ_332 hΓ_332 => ct_obeyed hΓ_332 hS hV hkn ?_)
          show AW G κ _ _ 335 _ _ _
          refine sL_tick_335 hΓ rfl ?_
          refine sL_tick_337 hΓ rfl ?_
          refine sL_tick_339 hΓ (hS.at g1) rfl hkn (by omega) ?_
          refine sL_tick_340 hΓ rfl ?_
          refine sL_tick_342 hΓ (fun c342 => ?_) (fun c342 => absurd rfl c342)
          refine sL_tick_349 hΓ ?_
          refine sL_tick_350 hΓ ?_
          refine sL_tick_351 hΓ (fun c351 => absurd q11 c351) (fun c351 => ?_)
          refine sL_tick_354 hΓ rfl ?_
          refine sL_tick_355 hΓ rfl ?_
          refine sL_tick_357 hΓ 1 6 (Nat.le_of_ble_eq_true rfl) ho (fun κ_357 hΓ_357 => ct_unheard hΓ_357 hS hV hkn ?_)
          show AW G κ _ _ 360 _ _ _
          refine sL_tick_360 hΓ rfl ?_
          refine sL_tick_362 hΓ rfl ?_
          refine sL_tick_364 hΓ (hS.at g2) rfl hkn (by omega) ?_
          refine sL_tick_365 hΓ rfl ?_
          refine sL_tick_367 hΓ (fun c367 => absurd c367 (by decide)) (fun c367 => ?_)
          refine sL_tick_370 hΓ rfl ?_
          refine sL_tick_372 hΓ rfl ?_
          refine sL_tick_374 hΓ (hS.at g5) rfl hkn (by omega) ?_
          rw [e5]
          refine sL_tick_375 hΓ (fun c375 => absurd c375 (by decide)) (fun c375 => ?_)
          refine sL_tick_378 hΓ ?_
          refine sL_tick_379 hΓ ?_
          refine sL_tick_383 hΓ ?_
          refine sL_tick_384 hΓ (fun c384 => absurd q13 c384) (fun c384 => ?_)
          refine sL_tick_387 hΓ rfl ?_
          refine sL_tick_388 hΓ rfl ?_
          refine sL_tick_390 hΓ 1 6 (Nat.le_of_ble_eq_true rfl) ho (fun κ_390 hΓ_390 => ct_rejected hΓ_390 hS hV hkn ?_)
          show AW G κ _ _ 393 _ _ _
          refine sL_tick_393 hΓ rfl ?_
          refine sL_tick_395 hΓ rfl ?_
          refine sL_tick_397 hΓ (hS.at g3) rfl hkn (by omega) ?_
          refine sL_tick_398 hΓ rfl ?_
          refine sL_tick_400 hΓ (fun c400 => absurd c400 (by decide)) (fun c400 => ?_)
          refine sL_tick_403 hΓ rfl ?_
          refine sL_tick_405 hΓ rfl ?_
          refine sL_tick_407 hΓ (hS.at g5) rfl hkn (by omega) ?_
          rw [e5]
          refine sL_tick_408 hΓ (fun c408 => ?_) (fun c408 => absurd c408 (by decide))
          refine sL_tick_420 hΓ ?_
          refine sL_tick_421 hΓ ?_
          refine sL_tick_422 hΓ (fun c422 => absurd q12 c422) (fun c422 => ?_)
          refine sL_tick_425 hΓ rfl ?_
          refine sL_tick_426 hΓ rfl ?_
          refine sL_tick_428 hΓ 1 6 (Nat.le_of_ble_eq_true rfl) ho (fun κ_428 hΓ_428 => ct_silence hΓ_428 hS hV hkn ?_)
          show AW G κ _ _ 431 _ _ _
          rw [q9]
          refine sL_tick_431 hΓ (fun c431 => ?_) (fun c431 => absurd c431 (nI_ne0 (by omega) (by omega)))
          refine sL_tick_438 hΓ ?_
          refine sL_tick_439 hΓ rfl ?_
          refine sL_tick_441 hΓ (fun c441 => absurd rfl c441) (fun c441 => ?_)
          refine sL_tick_444 hΓ rfl ?_
          refine sL_tick_445 hΓ rfl ?_
          refine sL_tick_447 hΓ 1 6 (Nat.le_of_ble_eq_true rfl) ho (fun κ_447 hΓ_447 => ct_targetSpeed hΓ_447 hS hV hkn ?_)
          show AW G κ _ _ 450 _ _ _
          refine sL_tick_450 hΓ rfl ?_
          refine sL_tick_451 hΓ rfl ?_
          refine sL_tick_453 hΓ 1 6 (Nat.le_of_ble_eq_true rfl) ho (fun κ_453 hΓ_453 => ct_silence hΓ_453 hS hV hkn ?_)
          show AW G κ _ _ 456 _ _ _
          rw [q9]
          refine sL_tick_456 hΓ ?_
          refine sL_tick_458 hΓ (fun c458 => ?_) (fun c458 => ?_)
          · have q6 : B 0 (58 + 15 * k + 6) = f4 k := by rw [q6a, if_pos (le39 c458), f4e]
            refine sL_tick_465 hΓ rfl ?_
            refine sL_tick_467 hΓ (fun c467 => ?_) (fun c467 => absurd q6 c467)
            exact t5 _ _ _
          · have q6 : B 0 (58 + 15 * k + 6) = 0 := by rw [q6a, if_neg (gt39 c458)]
            refine sL_tick_461 hΓ ?_
            refine sL_tick_462 hΓ ?_
            refine sL_tick_467 hΓ (fun c467 => ?_) (fun c467 => absurd q6 c467)
            exact t5 _ _ _
        · rw [Bool.not_eq_true] at ct
          by_cases cw : rWhole ρ 0 = true
          · have eo : obB ρ k = true := by unfold obB; rw [ci, ct]; rw [cw]; rfl
            have q11 : B 0 (58 + 15 * k + 11) = f1 k + 1 := by rw [eB, show rT n s ρ (58 + 15 * k + 11) = _ from t11, eo, f1e]; rfl
            have q13 : B 0 (58 + 15 * k + 13) = f2 k + 0 := by rw [eB, show rT n s ρ (58 + 15 * k + 13) = _ from t13, ci, ct, f2e]; rfl
            have q12 : B 0 (58 + 15 * k + 12) = f3 k + 0 := by rw [eB, show rT n s ρ (58 + 15 * k + 12) = _ from t12, ci, ct, cw, f3e]; rfl
            have e5 : f5 k = 0 := by rw [f5e, ct]; rfl
            have q9 : B 0 (58 + 15 * k + 9) = 0 := by rw [eB, show rT n s ρ (58 + 15 * k + 9) = _ from t9, eo]; rfl
            have q6 : B 0 (58 + 15 * k + 6) = duT ρ k := by rw [eB, show rT n s ρ (58 + 15 * k + 6) = _ from t6, eo]; rfl
            have g : ∀ v : Int32, v = duT ρ k → AW G κ (cs + 7 * j + 6) (ss + 42 * j + 36) 327 [lR x, lI (nI n), lI (bI (snd ρ)), lI (ρ 148), lI (ρ 149), lI (bI (rWhole ρ 0)), lR a1, lR a2, lR a3, lR a4, lR a5, lI l11, lI (nI (k)), lI 1, lI 1, o15] [.int v] σ := fun v hv => by
              subst hv
              refine sL_tick_327 hΓ ?_
              refine sL_tick_329 hΓ rfl ?_
              refine sL_tick_330 hΓ rfl ?_
              refine sL_tick_332 hΓ 1 6 (Nat.le_of_ble_eq_true rfl) ho (fun κ_332 hΓ_332 => ct_obeyed hΓ_332 hS hV hkn ?_)
              show AW G κ _ _ 335 _ _ _
              refine sL_tick_335 hΓ rfl ?_
              refine sL_tick_337 hΓ rfl ?_
              refine sL_tick_339 hΓ (hS.at g1) rfl hkn (by omega) ?_
              refine sL_tick_340 hΓ rfl ?_
              refine sL_tick_342 hΓ (fun c342 => absurd c342 (by decide)) (fun c342 => ?_)
              refine sL_tick_345 hΓ ?_
              refine sL_tick_346 hΓ ?_
              refine sL_tick_350 hΓ ?_
              refine sL_tick_351 hΓ (fun c351 => absurd q11 c351) (fun c351 => ?_)
              refine sL_tick_354 hΓ rfl ?_
              refine sL_tick_355 hΓ rfl ?_
              refine sL_tick_357 hΓ 1 6 (Nat.le_of_ble_eq_true rfl) ho (fun κ_357 hΓ_357 => ct_unheard hΓ_357 hS hV hkn ?_)
              show AW G κ _ _ 360 _ _ _
              refine sL_tick_360 hΓ rfl ?_
              refine sL_tick_362 hΓ rfl ?_
              refine sL_tick_364 hΓ (hS.at g2) rfl hkn (by omega) ?_
              refine sL_tick_365 hΓ rfl ?_
              refine sL_tick_367 hΓ (fun c367 => absurd c367 (by decide)) (fun c367 => ?_)
              refine sL_tick_370 hΓ rfl ?_
              refine sL_tick_372 hΓ rfl ?_
              refine sL_tick_374 hΓ (hS.at g5) rfl hkn (by omega) ?_
              rw [e5]
              refine sL_tick_375 hΓ (fun c375 => ?_) (fun c375 => absurd rfl c375)
              refine sL_tick_382 hΓ ?_
              refine sL_tick_383 hΓ ?_
              refine sL_tick_384 hΓ (fun c384 => absurd q13 c384) (fun c384 => ?_)
              refine sL_tick_387 hΓ rfl ?_
              refine sL_tick_388 hΓ rfl ?_
              refine sL_tick_390 hΓ 1 6 (Nat.le_of_ble_eq_true rfl) ho (fun κ_390 hΓ_390 => ct_rejected hΓ_390 hS hV hkn ?_)
              show AW G κ _ _ 393 _ _ _
              refine sL_tick_393 hΓ rfl ?_
              refine sL_tick_395 hΓ rfl ?_
              refine sL_tick_397 hΓ (hS.at g3) rfl hkn (by omega) ?_
              refine sL_tick_398 hΓ rfl ?_
              refine sL_tick_400 hΓ (fun c400 => absurd c400 (by decide)) (fun c400 => ?_)
              refine sL_tick_403 hΓ rfl ?_
              refine sL_tick_405 hΓ rfl ?_
              refine sL_tick_407 hΓ (hS.at g5) rfl hkn (by omega) ?_
              rw [e5]
              refine sL_tick_408 hΓ (fun c408 => absurd rfl c408) (fun c408 => ?_)
              refine sL_tick_411 hΓ rfl ?_
              refine sL_tick_413 hΓ (fun c413 => ?_) (fun c413 => absurd c413 (by rw [cw]; decide))
              refine sL_tick_420 hΓ ?_
              refine sL_tick_421 hΓ ?_
              refine sL_tick_422 hΓ (fun c422 => absurd q12 c422) (fun c422 => ?_)
              refine sL_tick_425 hΓ rfl ?_
              refine sL_tick_426 hΓ rfl ?_
              refine sL_tick_428 hΓ 1 6 (Nat.le_of_ble_eq_true rfl) ho (fun κ_428 hΓ_428 => ct_silence hΓ_428 hS hV hkn ?_)
              show AW G κ _ _ 431 _ _ _
              rw [q9]
              refine sL_tick_431 hΓ (fun c431 => absurd rfl c431) (fun c431 => ?_)
              refine sL_tick_434 hΓ ?_
              refine sL_tick_435 hΓ ?_
              refine sL_tick_439 hΓ rfl ?_
              refine sL_tick_441 hΓ (fun c441 => absurd rfl c441) (fun c441 => ?_)
              refine sL_tick_444 hΓ rfl ?_
              refine sL_tick_445 hΓ rfl ?_
              refine sL_tick_447 hΓ 1 6 (Nat.le_of_ble_eq_true rfl) ho (fun κ_447 hΓ_447 => ct_targetSpeed hΓ_447 hS hV hkn ?_)
              show AW G κ _ _ 450 _ _ _
              refine sL_tick_450 hΓ rfl ?_
              refine sL_tick_451 hΓ rfl ?_
              refine sL_tick_453 hΓ 1 6 (Nat.le_of_ble_eq_true rfl) ho (fun κ_453 hΓ_453 => ct_silence hΓ_453 hS hV hkn ?_)
              show AW G κ _ _ 456 _ _ _
              rw [q9]
              refine sL_tick_456 hΓ ?_
              refine sL_tick_458 hΓ (fun c458 => ?_) (fun c458 => absurd (by decide) c458)
              refine sL_tick_465 hΓ rfl ?_
              refine sL_tick_467 hΓ (fun c467 => ?_) (fun c467 => absurd q6 c467)
              exact t5 _ _ _
            refine sL_tick_248 hΓ ?_
            refine sL_tick_250 hΓ rfl ?_
            refine sL_tick_252 hΓ (fun c252 => absurd c252 (by decide)) (fun c252 => ?_)
            refine sL_tick_255 hΓ rfl ?_
            refine sL_tick_257 hΓ rfl ?_
            refine sL_tick_259 hΓ (hS.at g5) rfl hkn (by omega) ?_
            rw [e5]
            refine sL_tick_260 hΓ (fun c260 => absurd rfl c260) (fun c260 => ?_)
            refine sL_tick_263 hΓ rfl ?_
            refine sL_tick_265 hΓ (fun c265 => absurd c265 (by rw [cw]; decide)) (fun c265 => ?_)
            refine sL_tick_268 hΓ ?_
            refine sL_tick_269 hΓ ?_
            refine sL_tick_273 hΓ ?_
            refine sL_tick_275 hΓ rfl ?_
            refine sL_tick_277 hΓ (fun c277 => ?_) (fun c277 => absurd c277 (by decide))
            refine sL_tick_288 hΓ rfl ?_
            refine sL_tick_290 hΓ ?_
            refine sL_tick_292 hΓ (by decide) ?_
            refine sL_tick_293 hΓ (fun c293 => ?_) (fun c293 => ?_)
            · refine sL_tick_309 hΓ rfl ?_
              refine sL_tick_311 hΓ ?_
              refine sL_tick_313 hΓ (by decide) ?_
              refine sL_tick_314 hΓ ?_
              refine sL_tick_315 hΓ (fun c315 => ?_) (fun c315 => ?_)
              · refine sL_tick_322 hΓ rfl ?_
                refine sL_tick_324 hΓ rfl ?_
                refine sL_tick_326 hΓ (hS.at g4) rfl hkn (by omega) ?_
                exact g _ (by unfold duT; rw [if_neg c293, if_neg c315]; exact f4e)
              · exact sL_tick_318 hΓ (sL_tick_319 hΓ (g _ (by unfold duT; rw [if_neg c293, if_pos c315])))
            · refine sL_tick_296 hΓ ?_
              refine sL_tick_298 hΓ rfl ?_
              refine sL_tick_300 hΓ ?_
              refine sL_tick_302 hΓ (by decide) ?_
              refine sL_tick_303 hΓ (Nat.le_of_ble_eq_true rfl) ?_
              refine sL_tick_306 hΓ ?_
              exact g _ (by unfold duT; rw [if_pos c293]; unfold iMin rArg; exact min_cm)
          · rw [Bool.not_eq_true] at cw
            have eo : obB ρ k = false := by unfold obB; rw [ci, ct]; rw [cw]; rfl
            have q11 : B 0 (58 + 15 * k + 11) = f1 k + 0 := by rw [eB, show rT n s ρ (58 + 15 * k + 11) = _ from t11, eo, f1e]; rfl
            have q13 : B 0 (58 + 15 * k + 13) = f2 k + 0 := by rw [eB, show rT n s ρ (58 + 15 * k + 13) = _ from t13, ci, ct, f2e]; rfl
            have q12 : B 0 (58 + 15 * k + 12) = f3 k + 1 := by rw [eB, show rT n s ρ (58 + 15 * k + 12) = _ from t12, ci, ct, cw, f3e]; rfl
            have e5 : f5 k = 0 := by rw [f5e, ct]; rfl
            have q9 : B 0 (58 + 15 * k + 9) = nI (a + 1) := by rw [eB, show rT n s ρ (58 + 15 * k + 9) = _ from t9, eo, if_neg (by decide), ea, nI_1]
            have q6a : B 0 (58 + 15 * k + 6) = if nI (a + 1) < 40 then tf ρ k 6 else 0 := by rw [eB, show rT n s ρ (58 + 15 * k + 6) = _ from t6, eo, if_neg (by decide), ea, nI_1]
            refine sL_tick_248 hΓ ?_
            refine sL_tick_250 hΓ rfl ?_
            refine sL_tick_252 hΓ (fun c252 => absurd c252 (by decide)) (fun c252 => ?_)
            refine sL_tick_255 hΓ rfl ?_
            refine sL_tick_257 hΓ rfl ?_
            refine sL_tick_259 hΓ (hS.at g5) rfl hkn (by omega) ?_
            rw [e5]
            refine sL_tick_260 hΓ (fun c260 => absurd rfl c260) (fun c260 => ?_)
            refine sL_tick_263 hΓ rfl ?_
            refine sL_tick_265 hΓ (fun c265 => ?_) (fun c265 => absurd (by rw [cw]; rfl) c265)
            refine sL_tick_272 hΓ ?_
            refine sL_tick_273 hΓ ?_
            refine sL_tick_275 hΓ rfl ?_
            refine sL_tick_277 hΓ (fun c277 => absurd rfl c277) (fun c277 => ?_)
            refine sL_tick_280 hΓ rfl ?_
            refine sL_tick_282 hΓ rfl ?_
            refine sL_tick_284 hΓ (hS.at g4) rfl hkn (by omega) ?_
            refine sL_tick_285 hΓ ?_
            refine sL_tick_327 hΓ ?_
            refine sL_tick_329 hΓ rfl ?_
            refine sL_tick_330 hΓ rfl ?_
            refine sL_tick_332 hΓ 1 6 (Nat.le_of_ble_eq_true rfl) ho (fun κ_332 hΓ_332 => ct_obeyed hΓ_332 hS hV hkn ?_)
            show AW G κ _ _ 335 _ _ _
            refine sL_tick_335 hΓ rfl ?_
            refine sL_tick_337 hΓ rfl ?_
            refine sL_tick_339 hΓ (hS.at g1) rfl hkn (by omega) ?_
            refine sL_tick_340 hΓ rfl ?_
            refine sL_tick_342 hΓ (fun c342 => ?_) (fun c342 => absurd rfl c342)
            refine sL_tick_349 hΓ ?_
            refine sL_tick_350 hΓ ?_
            refine sL_tick_351 hΓ (fun c351 => absurd q11 c351) (fun c351 => ?_)
            refine sL_tick_354 hΓ rfl ?_
            refine sL_tick_355 hΓ rfl ?_
            refine sL_tick_357 hΓ 1 6 (Nat.le_of_ble_eq_true rfl) ho (fun κ_357 hΓ_357 => ct_unheard hΓ_357 hS hV hkn ?_)
            show AW G κ _ _ 360 _ _ _
            refine sL_tick_360 hΓ rfl ?_
            refine sL_tick_362 hΓ rfl ?_
            refine sL_tick_364 hΓ (hS.at g2) rfl hkn (by omega) ?_
            refine sL_tick_365 hΓ rfl ?_
            refine sL_tick_367 hΓ (fun c367 => absurd c367 (by decide)) (fun c367 => ?_)
            refine sL_tick_370 hΓ rfl ?_
            refine sL_tick_372 hΓ rfl ?_
            refine sL_tick_374 hΓ (hS.at g5) rfl hkn (by omega) ?_
            rw [e5]
            refine sL_tick_375 hΓ (fun c375 => ?_) (fun c375 => absurd rfl c375)
            refine sL_tick_382 hΓ ?_
            refine sL_tick_383 hΓ ?_
            refine sL_tick_384 hΓ (fun c384 => absurd q13 c384) (fun c384 => ?_)
            refine sL_tick_387 hΓ rfl ?_
            refine sL_tick_388 hΓ rfl ?_
            refine sL_tick_390 hΓ 1 6 (Nat.le_of_ble_eq_true rfl) ho (fun κ_390 hΓ_390 => ct_rejected hΓ_390 hS hV hkn ?_)
            show AW G κ _ _ 393 _ _ _
            refine sL_tick_393 hΓ rfl ?_
            refine sL_tick_395 hΓ rfl ?_
            refine sL_tick_397 hΓ (hS.at g3) rfl hkn (by omega) ?_
            refine sL_tick_398 hΓ rfl ?_
            refine sL_tick_400 hΓ (fun c400 => absurd c400 (by decide)) (fun c400 => ?_)
            refine sL_tick_403 hΓ rfl ?_
            refine sL_tick_405 hΓ rfl ?_
            refine sL_tick_407 hΓ (hS.at g5) rfl hkn (by omega) ?_
            rw [e5]
            refine sL_tick_408 hΓ (fun c408 => absurd rfl c408) (fun c408 => ?_)
            refine sL_tick_411 hΓ rfl ?_
            refine sL_tick_413 hΓ (fun c413 => absurd (by rw [cw]; rfl) c413) (fun c413 => ?_)
            refine sL_tick_416 hΓ ?_
            refine sL_tick_417 hΓ ?_
            refine sL_tick_421 hΓ ?_
            refine sL_tick_422 hΓ (fun c422 => absurd q12 c422) (fun c422 => ?_)
            refine sL_tick_425 hΓ rfl ?_
            refine sL_tick_426 hΓ rfl ?_
            refine sL_tick_428 hΓ 1 6 (Nat.le_of_ble_eq_true rfl) ho (fun κ_428 hΓ_428 => ct_silence hΓ_428 hS hV hkn ?_)
            show AW G κ _ _ 431 _ _ _
            rw [q9]
            refine sL_tick_431 hΓ (fun c431 => ?_) (fun c431 => absurd c431 (nI_ne0 (by omega) (by omega)))
            refine sL_tick_438 hΓ ?_
            refine sL_tick_439 hΓ rfl ?_
            refine sL_tick_441 hΓ (fun c441 => absurd rfl c441) (fun c441 => ?_)
            refine sL_tick_444 hΓ rfl ?_
            refine sL_tick_445 hΓ rfl ?_
            refine sL_tick_447 hΓ 1 6 (Nat.le_of_ble_eq_true rfl) ho (fun κ_447 hΓ_447 => ct_targetSpeed hΓ_447 hS hV hkn ?_)
            show AW G κ _ _ 450 _ _ _
            refine sL_tick_450 hΓ rfl ?_
            refine sL_tick_451 hΓ rfl ?_
            refine sL_tick_453 hΓ 1 6 (Nat.le_of_ble_eq_true rfl) ho (fun κ_453 hΓ_453 => ct_silence hΓ_453 hS hV hkn ?_)
            show AW G κ _ _ 456 _ _ _
            rw [q9]
            refine sL_tick_456 hΓ ?_
            refine sL_tick_458 hΓ (fun c458 => ?_) (fun c458 => ?_)
            · have q6 : B 0 (58 + 15 * k + 6) = f4 k := by rw [q6a, if_pos (le39 c458), f4e]
              refine sL_tick_465 hΓ rfl ?_
              refine sL_tick_467 hΓ (fun c467 => ?_) (fun c467 => absurd q6 c467)
              exact t5 _ _ _
            · have q6 : B 0 (58 + 15 * k + 6) = 0 := by rw [q6a, if_neg (gt39 c458)]
              refine sL_tick_461 hΓ ?_
              refine sL_tick_462 hΓ ?_
              refine sL_tick_467 hΓ (fun c467 => ?_) (fun c467 => absurd q6 c467)
              exact t5 _ _ _
      · rw [Bool.not_eq_true] at ci
        rw [ci]
        show AW G κ (cs + 7 * j + 6) (ss + 42 * j + 36) 248 _ [.int 0] σ
        have eo : obB ρ k = false := by unfold obB; rw [ci]; rfl
        have q11 : B 0 (58 + 15 * k + 11) = f1 k + 0 := by rw [eB, show rT n s ρ (58 + 15 * k + 11) = _ from t11, eo, f1e]; rfl
        have q13 : B 0 (58 + 15 * k + 13) = f2 k + 0 := by rw [eB, show rT n s ρ (58 + 15 * k + 13) = _ from t13, ci, f2e]; rfl
        have q12 : B 0 (58 + 15 * k + 12) = f3 k + 0 := by rw [eB, show rT n s ρ (58 + 15 * k + 12) = _ from t12, ci, f3e]; rfl
        have q9 : B 0 (58 + 15 * k + 9) = nI (a + 1) := by rw [eB, show rT n s ρ (58 + 15 * k + 9) = _ from t9, eo, if_neg (by decide), ea, nI_1]
        have q6a : B 0 (58 + 15 * k + 6) = if nI (a + 1) < 40 then tf ρ k 6 else 0 := by rw [eB, show rT n s ρ (58 + 15 * k + 6) = _ from t6, eo, if_neg (by decide), ea, nI_1]
        refine sL_tick_248 hΓ ?_
        refine sL_tick_250 hΓ rfl ?_
        refine sL_tick_252 hΓ (fun c252 => ?_) (fun c252 => absurd rfl c252)
        refine sL_tick_272 hΓ ?_
        refine sL_tick_273 hΓ ?_
        refine sL_tick_275 hΓ rfl ?_
        refine sL_tick_277 hΓ (fun c277 => absurd rfl c277) (fun c277 => ?_)
        refine sL_tick_280 hΓ rfl ?_
        refine sL_tick_282 hΓ rfl ?_
        refine sL_tick_284 hΓ (hS.at g4) rfl hkn (by omega) ?_
        refine sL_tick_285 hΓ ?_
        refine sL_tick_327 hΓ ?_
        refine sL_tick_329 hΓ rfl ?_
        refine sL_tick_330 hΓ rfl ?_
        refine sL_tick_332 hΓ 1 6 (Nat.le_of_ble_eq_true rfl) ho (fun κ_332 hΓ_332 => ct_obeyed hΓ_332 hS hV hkn ?_)
        show AW G κ _ _ 335 _ _ _
        refine sL_tick_335 hΓ rfl ?_
        refine sL_tick_337 hΓ rfl ?_
        refine sL_tick_339 hΓ (hS.at g1) rfl hkn (by omega) ?_
        refine sL_tick_340 hΓ rfl ?_
        refine sL_tick_342 hΓ (fun c342 => ?_) (fun c342 => absurd rfl c342)
        refine sL_tick_349 hΓ ?_
        refine sL_tick_350 hΓ ?_
        refine sL_tick_351 hΓ (fun c351 => absurd q11 c351) (fun c351 => ?_)
        refine sL_tick_354 hΓ rfl ?_
        refine sL_tick_355 hΓ rfl ?_
        refine sL_tick_357 hΓ 1 6 (Nat.le_of_ble_eq_true rfl) ho (fun κ_357 hΓ_357 => ct_unheard hΓ_357 hS hV hkn ?_)
        show AW G κ _ _ 360 _ _ _
        refine sL_tick_360 hΓ rfl ?_
        refine sL_tick_362 hΓ rfl ?_
        refine sL_tick_364 hΓ (hS.at g2) rfl hkn (by omega) ?_
        refine sL_tick_365 hΓ rfl ?_
        refine sL_tick_367 hΓ (fun c367 => ?_) (fun c367 => absurd rfl c367)
        refine sL_tick_382 hΓ ?_
        refine sL_tick_383 hΓ ?_
        refine sL_tick_384 hΓ (fun c384 => absurd q13 c384) (fun c384 => ?_)
        refine sL_tick_387 hΓ rfl ?_
        refine sL_tick_388 hΓ rfl ?_
        refine sL_tick_390 hΓ 1 6 (Nat.le_of_ble_eq_true rfl) ho (fun κ_390 hΓ_390 => ct_rejected hΓ_390 hS hV hkn ?_)
        show AW G κ _ _ 393 _ _ _
        refine sL_tick_393 hΓ rfl ?_
        refine sL_tick_395 hΓ rfl ?_
        refine sL_tick_397 hΓ (hS.at g3) rfl hkn (by omega) ?_
        refine sL_tick_398 hΓ rfl ?_
        refine sL_tick_400 hΓ (fun c400 => ?_) (fun c400 => absurd rfl c400)
        refine sL_tick_420 hΓ ?_
        refine sL_tick_421 hΓ ?_
        refine sL_tick_422 hΓ (fun c422 => absurd q12 c422) (fun c422 => ?_)
        refine sL_tick_425 hΓ rfl ?_
        refine sL_tick_426 hΓ rfl ?_
        refine sL_tick_428 hΓ 1 6 (Nat.le_of_ble_eq_true rfl) ho (fun κ_428 hΓ_428 => ct_silence hΓ_428 hS hV hkn ?_)
        show AW G κ _ _ 431 _ _ _
        rw [q9]
        refine sL_tick_431 hΓ (fun c431 => ?_) (fun c431 => absurd c431 (nI_ne0 (by omega) (by omega)))
        refine sL_tick_438 hΓ ?_
        refine sL_tick_439 hΓ rfl ?_
        refine sL_tick_441 hΓ (fun c441 => absurd rfl c441) (fun c441 => ?_)
        refine sL_tick_444 hΓ rfl ?_
        refine sL_tick_445 hΓ rfl ?_
        refine sL_tick_447 hΓ 1 6 (Nat.le_of_ble_eq_true rfl) ho (fun κ_447 hΓ_447 => ct_targetSpeed hΓ_447 hS hV hkn ?_)
        show AW G κ _ _ 450 _ _ _
        refine sL_tick_450 hΓ rfl ?_
        refine sL_tick_451 hΓ rfl ?_
        refine sL_tick_453 hΓ 1 6 (Nat.le_of_ble_eq_true rfl) ho (fun κ_453 hΓ_453 => ct_silence hΓ_453 hS hV hkn ?_)
        show AW G κ _ _ 456 _ _ _
        rw [q9]
        refine sL_tick_456 hΓ ?_
        refine sL_tick_458 hΓ (fun c458 => ?_) (fun c458 => ?_)
        · have q6 : B 0 (58 + 15 * k + 6) = f4 k := by rw [q6a, if_pos (le39 c458), f4e]
          refine sL_tick_465 hΓ rfl ?_
          refine sL_tick_467 hΓ (fun c467 => ?_) (fun c467 => absurd q6 c467)
          exact t5 _ _ _
        · have q6 : B 0 (58 + 15 * k + 6) = 0 := by rw [q6a, if_neg (gt39 c458)]
          refine sL_tick_461 hΓ ?_
          refine sL_tick_462 hΓ ?_
          refine sL_tick_467 hΓ (fun c467 => ?_) (fun c467 => absurd q6 c467)
          exact t5 _ _ _
    have ad : B 0 (58 + 15 * k + 0) = ρ (58 + 15 * k + 0) := by rw [eB]; exact t0
    show AW G κ (cs + 7 * j + 7) (ss + 42 * j + 42) 219 _ [] σ
    by_cases hs : snd ρ = true
    · obtain ⟨e3, -, -⟩ := hl hs
      subst e3
      refine sL_tick_219 hΓ rfl ?_
      refine sL_tick_221 hΓ rfl ?_
      refine sL_tick_222 hΓ (fun c222 => absurd c222 (nI_ge hkn (by omega))) (fun c222 => ?_)
      refine sL_tick_225 hΓ rfl ?_
      refine sL_tick_226 hΓ (fun c226 => absurd c226 (by rw [hs]; decide)) (fun c226 => ?_)
      refine sL_tick_229 hΓ rfl ?_
      refine sL_tick_230 hΓ (fun c230 => ?_) (fun c230 => ?_)
      · refine aw_less (cs2 := cs + 7 * j + 6) (ss2 := ss + 42 * j + 36) (by omega) (by omega) ?_
        exact sL_tick_243 hΓ (sL_tick_244 hΓ (g248 1 (by unfold itsB rFor; rw [hs, show ρ (148 + 3 * 0 + 0) = 0 from c230]; rfl)))
      · refine sL_tick_233 hΓ rfl ?_
        refine sL_tick_234 hΓ rfl ?_
        refine sL_tick_235 hΓ rfl ?_
        refine sL_tick_237 hΓ 1 6 (Nat.le_of_ble_eq_true rfl) ho (fun κ_237 hΓ_237 => ct_address hΓ_237 hS hV hkn ?_)
        show AW G κ _ _ 240 _ _ _
        refine sL_tick_240 hΓ (fun c240 => ?_) (fun c240 => ?_)
        · exact sL_tick_247 hΓ (g248 0 (by unfold itsB rFor; rw [beq_eq_false_iff_ne.mpr (show ¬ ρ (148 + 3 * 0 + 0) = 0 from c230), beq_eq_false_iff_ne.mpr (show ¬ ρ (148 + 3 * 0 + 0) = ρ (58 + 15 * k + 0) from fun e9 => c240 (e9.trans ad.symm)), hs]; rfl))
        · exact sL_tick_243 hΓ (sL_tick_244 hΓ (g248 1 (by unfold itsB rFor; rw [hs, show ρ (148 + 3 * 0 + 0) = ρ (58 + 15 * k + 0) from (show ρ 148 = _ from c240).trans ad, beq_self_eq_true, Bool.or_true]; rfl)))
    · refine aw_less (cs2 := cs + 7 * j + 6) (ss2 := ss + 42 * j + 36) (by omega) (by omega) ?_
      refine sL_tick_219 hΓ rfl ?_
      refine sL_tick_221 hΓ rfl ?_
      refine sL_tick_222 hΓ (fun c222 => absurd c222 (nI_ge hkn (by omega))) (fun c222 => ?_)
      refine sL_tick_225 hΓ rfl ?_
      refine sL_tick_226 hΓ (fun c226 => ?_) (fun c226 => absurd (by rw [Bool.eq_false_iff.mpr hs]; rfl) c226)
      exact sL_tick_247 hΓ (g248 0 (by unfold itsB; rw [Bool.eq_false_iff.mpr hs]; rfl))
theorem rPsN_1 {ρ : Nat → Int32} {n s : Nat} (h0 : ¬ ρ 0 = 10000) : rPsN n s ρ 1 = bI (snd ρ) := by
  show 0 + rSentN ρ = _
  rw [Int32.zero_add]
  unfold rSentN
  rw [if_neg h0]
  by_cases e : snd ρ = true
  · rw [if_pos (snd_p.mp e), e]; rfl
  · rw [if_neg (fun e9 => e (snd_p.mpr e9)), Bool.eq_false_iff.mpr e]; rfl
theorem oWait_1 {z ρ : Nat → Int32} {n s τ : Nat} (h : GR ρ n s τ) (hτ : τ + 1 ≤ 10000) : oWait n s z ρ 1 = (0, upd z 11 (bI (snd ρ)), rT n s ρ) := by
  have h0 : ¬ ρ 0 = 10000 := fun e => by
    have := (nI_eq (a := τ) (b := 10000) (by omega) (by decide)).mp (h.2.1.symm.trans e)
    omega
  unfold oWait
  rw [if_neg (by rw [h.2.1, nI_1]; exact show ¬ nI 10000 < nI (τ + 1) from nI_nlt (by omega) (by decide)), show (1 : Int32).toNatClampNeg = 1 from rfl, rPsN_1 h0]
  rfl
theorem ct_ltick (hΓ : Ok G κ mL_tick (d + 9) Q X) (hS : LwS G σ c x am A z B F) (h : GR (B 0) n s τ) (hτ : τ + 1 ≤ 10000) {kk : Nat} (hk8 : kk ≤ 8) (hz8 : z 8 = nI kk) (hq : ∀ (σ1 : Hp) (c1 : Nat → Nat), LwS G σ1 c1 x am A (fZ (oWait n s (upd z 9 0) (B 0) 1) kk) (fB B (oWait n s (upd z 9 0) (B 0) 1) kk) F → Q (some (.int 1)) σ1) : AW G κ (cs + 200) (ss + 1000) 0 [lR x, none, none, none, none, none, none, none, none, none, none, none, none, none, none, none] [] σ := by
  obtain ⟨q, hq12, h6⟩ := h.1.ql
  obtain ⟨C, hs_, ol, t_, q_, p_, tr_, -, -, hC⟩ := hS.tell h.1
  have hV := h.1
  have hn6 := hV.n6
  have hO := oWait_1 (z := upd z 9 0) h hτ
  have h0 : ¬ B 0 0 = 10000 := fun e => by
    have := (nI_eq (a := τ) (b := 10000) (by omega) (by decide)).mp (h.2.1.symm.trans e)
    omega
  refine aw_less (cs2 := cs + 7 * n + 9 + 6 * n + 5 + 3) (ss2 := ss + 42 * n + 108 + 36 * n + n + n + n + n + n + 18) (by omega) (by omega) ?_
  refine tk_A hΓ hS hV h6 hq12 ?_
  refine sL_tick_73 hΓ rfl ?_
  refine sL_tick_74 hΓ rfl (by omega) (fun a1 ha1 ga1 => ?_)
  have hS1 := hS.new ha1 (eI G n (fun _ => 0))
  refine sL_tick_76 hΓ ?_
  refine sL_tick_78 hΓ rfl ?_
  refine sL_tick_79 hΓ rfl (by omega) (fun a2 ha2 ga2 => ?_)
  have hS2 := hS1.new ha2 (eI G n (fun _ => 0))
  refine sL_tick_81 hΓ ?_
  refine sL_tick_83 hΓ rfl ?_
  refine sL_tick_84 hΓ rfl (by omega) (fun a3 ha3 ga3 => ?_)
  have hS3 := hS2.new ha3 (eI G n (fun _ => 0))
  refine sL_tick_86 hΓ ?_
  refine sL_tick_88 hΓ rfl ?_
  refine sL_tick_89 hΓ rfl (by omega) (fun a4 ha4 ga4 => ?_)
  have hS4 := hS3.new ha4 (eI G n (fun _ => 0))
  refine sL_tick_91 hΓ ?_
  refine sL_tick_93 hΓ rfl ?_
  refine sL_tick_94 hΓ rfl (by omega) (fun a5 ha5 ga5 => ?_)
  have hS5 := hS4.new ha5 (eZ G n (fun _ => 0))
  refine sL_tick_96 hΓ ?_
  refine sL_tick_98 hΓ ?_
  refine sL_tick_99 hΓ ?_
  skip
  obtain ⟨m12, u12⟩ := hset_none ha2
  have h12 := m12.symm
  obtain ⟨m23, u23⟩ := hset_none ha3
  have h23 := m23.symm
  obtain ⟨m13, u13⟩ := hset_none u23
  have h13 := m13.symm
  obtain ⟨m34, u34⟩ := hset_none ha4
  have h34 := m34.symm
  obtain ⟨m24, u24⟩ := hset_none u34
  have h24 := m24.symm
  obtain ⟨m14, u14⟩ := hset_none u24
  have h14 := m14.symm
  obtain ⟨m45, u45⟩ := hset_none ha5
  have h45 := m45.symm
  obtain ⟨m35, u35⟩ := hset_none u45
  have h35 := m35.symm
  obtain ⟨m25, u25⟩ := hset_none u35
  have h25 := m25.symm
  obtain ⟨m15, u15⟩ := hset_none u25
  have h15 := m15.symm
  have n1 := hS.own ha1
  have n2 := hS.own u12
  have n3 := hS.own u13
  have n4 := hS.own u14
  have n5 := hS.own u15
  refine tk_B (F0 := F) hΓ hV h12 h13 h14 h15 h23 h24 h25 h34 h35 h45 n1 n2 n3 n4 n5 (fun σ6 F6 hS6 hT6 hF6 => ?_) n 0 (Nat.zero_add n) _ _ hS5 ⟨fun _ => 0, fun _ => 0, fun _ => 0, fun _ => 0, fun _ => 0, (hset_ne h15).trans ((hset_ne h14).trans ((hset_ne h13).trans ((hset_ne h12).trans (hset_same _ _ _)))), (hset_ne h25).trans ((hset_ne h24).trans ((hset_ne h23).trans (hset_same _ _ _))), (hset_ne h35).trans ((hset_ne h34).trans (hset_same _ _ _)), (hset_ne h45).trans (hset_same _ _ _), hset_same _ _ _, fun i hi => absurd hi (Nat.not_lt_zero i)⟩ (fun y e hy => ?_)
  rotate_left
  · have hy1 : ∀ a, F a = none → y ≠ a := fun a ha e9 => by rw [e9, ha] at hy; cases hy
    exact (hset_ne (hy1 a5 n5)).trans ((hset_ne (hy1 a4 n4)).trans ((hset_ne (hy1 a3 n3)).trans ((hset_ne (hy1 a2 n2)).trans ((hset_ne (hy1 a1 n1)).trans hy))))
  obtain ⟨fs6, ho6⟩ := hS6.o
  rw [hO] at hq
  refine sL_tick_172 hΓ rfl ?_
  refine sL_tick_173 hΓ 0 0 (Nat.le_of_ble_eq_true rfl) ho6 (fun κ_173 hΓ_173 => ct_sentPackets hΓ_173 hS6 hV ?_)
  show AW G κ _ _ 176 _ _ _
  refine sL_tick_176 hΓ ?_
  refine sL_tick_178 hΓ rfl ?_
  refine sL_tick_179 hΓ ?_
  refine sL_tick_180 hΓ 9 108 (Nat.le_of_ble_eq_true rfl) ho6 (fun κ_180 hΓ_180 => ct_passTicks hΓ_180 hS6 hV hk8 hz8 (y := 1) (by decide) (by rw [hO]) (fun σ7 c7 hS7 => ?_))
  show AW G κ _ _ 183 _ _ _
  rw [hO] at hS7 ⊢
  obtain ⟨fs7, ho7⟩ := hS7.o
  have eB7 : fB B (0, upd (upd z 9 0) 11 (bI (snd (B 0))), rT n s (B 0)) kk 0 = rT n s (B 0) := rfl
  have hV7 : RV (fB B (0, upd (upd z 9 0) 11 (bI (snd (B 0))), rT n s (B 0)) kk 0) n s := by rw [eB7]; exact hV.rT
  have e8 : fB B (0, upd (upd z 9 0) 11 (bI (snd (B 0))), rT n s (B 0)) kk 0 8 = B 0 8 + bI (snd (B 0)) := (rT_6 hV h0).2.2.1
  refine sL_tick_183 hΓ rfl ?_
  refine sL_tick_184d hΓ ?_
  refine sL_tick_192 hΓ (fun c192 => absurd bI_if.symm c192) (fun c192 => ?_)
  refine sL_tick_195 hΓ rfl ?_
  refine sL_tick_196 hΓ 0 0 (Nat.le_of_ble_eq_true rfl) ho7 (fun κ_196 hΓ_196 => ct_sentPackets hΓ_196 hS7 hV7 ?_)
  show AW G κ _ _ 199 _ _ _
  refine sL_tick_199 hΓ rfl ?_
  refine sL_tick_201 hΓ rfl ?_
  refine sL_tick_202d hΓ ?_
  refine sL_tick_210 hΓ ?_
  refine sL_tick_211 hΓ (fun c211 => ?_) (fun c211 => absurd (by rw [e8, bI_if]) c211)
  refine sL_tick_216 hΓ ?_
  refine sL_tick_217 hΓ ?_
  skip
  exact tk_D (ρ := B 0) hΓ h hC h0 hS7 eB7 hV7 hT6 (fun hs => by rw [if_pos hs, if_pos hs, if_pos hs]; exact ⟨rfl, rfl, rfl⟩) (hq σ7 c7 (hS7.less hF6)) n 0 (Nat.zero_add n) _ _ _
end LawTick
