/-! the law's body -/
def lwN (G : Gl) : Nat := 4 + mo (clF G 0) 9
def lwM (G : Gl) : Nat := 1 + mo (clF G 0 >>> ((2 : Int32) &&& 31)) 4
def lwC (G : Gl) : Nat := 1 + mo (clF G 0 >>> ((4 : Int32) &&& 31)) 9
def lwF (G : Gl) (k : Nat) : Bool := mo (clF G (1 + k)) 4 == 0
def lwAd (G : Gl) (k : Nat) : Nat := 1 + 30 * k + mo (clF G (20 + k)) 30
def lwAc (G : Gl) (k : Nat) : Nat := 1 + mo (clF G (20 + k) >>> ((2 : Int32) &&& 31)) 5
def lwDv (G : Gl) (k : Nat) : Nat := 1 + mo (clF G (20 + k) >>> ((4 : Int32) &&& 31)) 9
section LawBody
variable {G : Gl} {κ : Kx} {d : Nat} {Q : Option Value → Hp → Prop} {X : String → Hp → Prop} {cs ss pc : Nat} {σ σ0 : Hp} {c A : Nat → Nat} {x am n m w b : Nat} {v : Int32} {l0 : List Nat}
theorem lb_tun (hΓ : Ok G κ mL_law (d + 11) Q X) (hG3 : gE G 3 ≤ 260) (hn : n ≤ 12) (hl : l0.length ≤ 14) (kx : ∀ σ : Hp, BT G σ0 σ b (l0 ++ tTuns (lwF G) n) → AW G κ cs ss 128 [lR (gE G 2), lR x, lR w, lI v, lI (nI n), lI (nI m), lR b, lI (nI n), none, none, none, none] [] σ) : ∀ j k, k + j = n → ∀ σ : Hp, BT G σ0 σ b (l0 ++ tTuns (lwF G) k) → AW G κ (cs + 3 * j) (ss + 1920 * j) 82 [lR (gE G 2), lR x, lR w, lI v, lI (nI n), lI (nI m), lR b, lI (nI k), none, none, none, none] [] σ := by
  intro j
  induction j with
  | zero =>
    intro k hk σ hB
    obtain rfl : k = n := by omega
    refine sL_law_82 hΓ rfl ?_
    refine sL_law_84 hΓ rfl ?_
    refine sL_law_86 hΓ (fun c86 => ?_) (fun c86 => absurd (Int32.le_refl _) c86)
    exact kx σ hB
  | succ j ih =>
    intro k hk σ hB
    have hkn : k < n := by omega
    have hle := tTuns_le (lwF G) k
    have hlen : (l0 ++ tTuns (lwF G) k).length ≤ 150 := by rw [List.length_append]; omega
    obtain ⟨fs, ho⟩ := hB.o
    have e1 : (1 : Int32) + nI k = nI (1 + k) := nI_add 1 k
    have nx : ∀ σ : Hp, BT G σ0 σ b (l0 ++ tTuns (lwF G) (k + 1)) → AW G κ (cs + 3 * j) (ss + 1920 * j) 122 [lR (gE G 2), lR x, lR w, lI v, lI (nI n), lI (nI m), lR b, lI (nI k), none, none, none, none] [] σ := fun σ hB1 => by
      refine sL_law_122 hΓ rfl ?_
      refine sL_law_125 hΓ ?_
      skip
      show AW G κ (cs + 3 * j) (ss + 1920 * j) 82 [lR (gE G 2), lR x, lR w, lI v, lI (nI n), lI (nI m), lR b, lI (nI k + 1), none, none, none, none] [] σ
      rw [nI_1]
      exact ih (k + 1) (by omega) σ hB1
    have z4 : nI (mo (clF G (1 + k)) 4) = 0 ↔ mo (clF G (1 + k)) 4 = 0 := nI_eq (b := 0) (Nat.lt_trans (mo_lt _ (by decide)) (by decide)) (by decide)
    refine aw_less (cs2 := cs + 3 * j + 1 + 1 + 1) (ss2 := ss + 1920 * j + 640 + 640 + 640) (by omega) (by omega) ?_
    refine sL_law_82 hΓ rfl ?_
    refine sL_law_84 hΓ rfl ?_
    refine sL_law_86 hΓ (fun c86 => absurd c86 (nI_ge hkn (by omega))) (fun c86 => ?_)
    refine sL_law_89 hΓ rfl ?_
    refine sL_law_90 hΓ ?_
    refine sL_law_91 hΓ rfl ?_
    refine sL_law_93 hΓ ?_
    rw [e1]
    refine sL_law_94 hΓ 0 0 (Nat.le_of_ble_eq_true rfl) (fun κ_94 hΓ_94 => lm_cell hΓ_94 hG3 (k := 1 + k) (by omega) ?_)
    show AW G κ _ _ 97 _ _ _
    refine sL_law_97 hΓ ?_
    refine sL_law_98 hΓ 0 0 (Nat.le_of_ble_eq_true rfl) (fun κ_98 hΓ_98 => lm_most hΓ_98 (m := 4) (by decide) (by decide) ?_)
    show AW G κ _ _ 101 _ _ _
    refine sL_law_101 hΓ (fun c101 => ?_) (fun c101 => ?_)
    · have ef : lwF G k = false := beq_eq_false_iff_ne.mpr (fun e9 => c101 (z4.mpr e9))
      refine aw_less (cs2 := cs + 3 * j) (ss2 := ss + 1920 * j) (by omega) (by omega) ?_
      exact nx σ (by show BT G σ0 σ b (l0 ++ (tTuns (lwF G) k ++ if lwF G k = true then tTun k else [])); rw [ef, if_neg (by decide), List.append_nil]; exact hB)
    · have ef : lwF G k = true := beq_iff_eq.mpr (z4.mp c101)
      refine sL_law_104 hΓ rfl ?_
      refine sL_law_106 hΓ ?_
      refine sL_law_108 hΓ 1 640 (Nat.le_of_ble_eq_true rfl) ho (fun κ_108 hΓ_108 => bt_aS hΓ_108 hB (k := 5) (by decide) (by decide) (by omega) (fun σ1 hB1 => ?_))
      show AW G κ _ _ 111 _ _ _
      obtain ⟨fs1, ho1⟩ := hB1.o
      have e5 : (wTx 5).length = 7 := rfl
      have e3 := dgN_3 k
      refine sL_law_111 hΓ rfl ?_
      refine sL_law_113 hΓ 1 640 (Nat.le_of_ble_eq_true rfl) ho1 (fun κ_113 hΓ_113 => bt_aI hΓ_113 hB1 (show k < 1000 by omega) (by rw [List.length_append, e5]; omega) (fun σ2 hB2 => ?_))
      show AW G κ _ _ 116 _ _ _
      obtain ⟨fs2, ho2⟩ := hB2.o
      refine sL_law_116 hΓ ?_
      refine sL_law_118 hΓ 1 640 (Nat.le_of_ble_eq_true rfl) ho2 (fun κ_118 hΓ_118 => bt_aC hΓ_118 hB2 (c := 59) (by decide) (by rw [List.length_append, List.length_append, e5, Dg_len]; omega) (fun σ3 hB3 => ?_))
      show AW G κ _ _ 121 _ _ _
      refine sL_law_121 (v := .inr (some b)) hΓ ?_
      exact nx σ3 (by show BT G σ0 σ3 b (l0 ++ (tTuns (lwF G) k ++ if lwF G k = true then tTun k else [])); rw [ef, if_pos rfl, ← List.append_assoc, ← tTun_eq]; exact hB3)
theorem lb_trn (hΓ : Ok G κ mL_law (d + 11) Q X) (hG3 : gE G 3 ≤ 260) (hm : m ≤ 4) (hl : l0.length ≤ 150) (kx : ∀ σ : Hp, BT G σ0 σ b (l0 ++ tTrns (lwAd G) (lwAc G) (lwDv G) m) → AW G κ cs ss 243 [lR (gE G 2), lR x, lR w, lI v, lI (nI n), lI (nI m), lR b, lI (nI m), none, none, none, none] [] σ) : ∀ j k, k + j = m → ∀ σ : Hp, BT G σ0 σ b (l0 ++ tTrns (lwAd G) (lwAc G) (lwDv G) k) → AW G κ (cs + 9 * j) (ss + 5760 * j) 131 [lR (gE G 2), lR x, lR w, lI v, lI (nI n), lI (nI m), lR b, lI (nI k), none, none, none, none] [] σ := by
  intro j
  induction j with
  | zero =>
    intro k hk σ hB
    obtain rfl : k = m := by omega
    refine sL_law_131 hΓ rfl ?_
    refine sL_law_133 hΓ rfl ?_
    refine sL_law_135 hΓ (fun c135 => ?_) (fun c135 => absurd (Int32.le_refl _) c135)
    exact kx σ hB
  | succ j ih =>
    intro k hk σ hB
    have hkm : k < m := by omega
    have hle := tTrns_le (lwAd G) (lwAc G) (lwDv G) k
    have hlen : (l0 ++ tTrns (lwAd G) (lwAc G) (lwDv G) k).length ≤ 216 := by rw [List.length_append]; omega
    obtain ⟨fs, ho⟩ := hB.o
    have e20 : (20 : Int32) + nI k = nI (20 + k) := nI_add 20 k
    have r1 := mo_lt (clF G (20 + k)) (m := 30) (by decide)
    have r2 := mo_lt (clF G (20 + k) >>> ((2 : Int32) &&& 31)) (m := 5) (by decide)
    have r3 := mo_lt (clF G (20 + k) >>> ((4 : Int32) &&& 31)) (m := 9) (by decide)
    have ea : (1 : Int32) + 30 * nI k + nI (mo (clF G (20 + k)) 30) = nI (lwAd G k) := by
      rw [show (30 : Int32) * nI k = nI (30 * k) from pk_mul 30 k, show (1 : Int32) + nI (30 * k) = nI (1 + 30 * k) from nI_add 1 _, nI_add]
      rfl
    have ec : (1 : Int32) + nI (mo (clF G (20 + k) >>> ((2 : Int32) &&& 31)) 5) = nI (lwAc G k) := nI_add 1 _
    have ed : (1 : Int32) + nI (mo (clF G (20 + k) >>> ((4 : Int32) &&& 31)) 9) = nI (lwDv G k) := nI_add 1 _
    have ba : lwAd G k < 1000 := by unfold lwAd; omega
    have bc : lwAc G k < 1000 := by unfold lwAc; omega
    have bd : lwDv G k < 1000 := by unfold lwDv; omega
    have d1 := dgN_3 k
    have d2 := dgN_3 (lwAd G k)
    have d3 := dgN_3 (lwAc G k)
    have d4 := dgN_3 (lwDv G k)
    have e6 : (wTx 6).length = 6 := rfl
    have nx : ∀ σ : Hp, BT G σ0 σ b (l0 ++ tTrns (lwAd G) (lwAc G) (lwDv G) (k + 1)) → AW G κ (cs + 9 * j) (ss + 5760 * j) 237 [lR (gE G 2), lR x, lR w, lI v, lI (nI n), lI (nI m), lR b, lI (nI k), none, none, none, none] [] σ := fun σ hB1 => by
      refine sL_law_237 hΓ rfl ?_
      refine sL_law_240 hΓ ?_
      skip
      show AW G κ (cs + 9 * j) (ss + 5760 * j) 131 [lR (gE G 2), lR x, lR w, lI v, lI (nI n), lI (nI m), lR b, lI (nI k + 1), none, none, none, none] [] σ
      rw [nI_1]
      exact ih (k + 1) (by omega) σ hB1
    refine aw_less (cs2 := cs + 9 * j + 1 + 1 + 1 + 1 + 1 + 1 + 1 + 1 + 1) (ss2 := ss + 5760 * j + 640 + 640 + 640 + 640 + 640 + 640 + 640 + 640 + 640) (by omega) (by omega) ?_
    refine sL_law_131 hΓ rfl ?_
    refine sL_law_133 hΓ rfl ?_
    refine sL_law_135 hΓ (fun c135 => absurd c135 (nI_ge hkm (by omega))) (fun c135 => ?_)
    refine sL_law_138 hΓ rfl ?_
    refine sL_law_140 hΓ ?_
    refine sL_law_142 hΓ 1 640 (Nat.le_of_ble_eq_true rfl) ho (fun κ_142 hΓ_142 => bt_aS hΓ_142 hB (k := 6) (by decide) (by decide) (by omega) (fun σ1 hB1 => ?_))
    show AW G κ _ _ 145 _ _ _
    obtain ⟨fs1, ho1⟩ := hB1.o
    refine sL_law_145 hΓ ?_
    refine sL_law_146 hΓ ?_
    refine sL_law_148 hΓ rfl ?_
    refine sL_law_150 hΓ ?_
    refine sL_law_151 hΓ ?_
    refine sL_law_152 hΓ rfl ?_
    refine sL_law_153 hΓ ?_
    refine sL_law_155 hΓ rfl ?_
    refine sL_law_157 hΓ ?_
    rw [e20]
    refine sL_law_158 hΓ 0 0 (Nat.le_of_ble_eq_true rfl) (fun κ_158 hΓ_158 => lm_cell hΓ_158 hG3 (k := 20 + k) (by omega) ?_)
    show AW G κ _ _ 161 _ _ _
    refine sL_law_161 hΓ ?_
    refine sL_law_163 hΓ 0 0 (Nat.le_of_ble_eq_true rfl) (fun κ_163 hΓ_163 => lm_most hΓ_163 (m := 30) (by decide) (by decide) ?_)
    show AW G κ _ _ 166 _ _ _
    refine sL_law_166 hΓ ?_
    rw [ea]
    refine sL_law_167 hΓ 1 640 (Nat.le_of_ble_eq_true rfl) ho1 (fun κ_167 hΓ_167 => bt_aI hΓ_167 hB1 ba (by simp only [List.length_append, Dg_len, e6, List.length_singleton]; omega) (fun σ2 hB2 => ?_))
    show AW G κ _ _ 170 _ _ _
    obtain ⟨fs2, ho2⟩ := hB2.o
    refine sL_law_170 hΓ ?_
    refine sL_law_172 hΓ 1 640 (Nat.le_of_ble_eq_true rfl) ho2 (fun κ_172 hΓ_172 => bt_aC hΓ_172 hB2 (c := 32) (by decide) (by simp only [List.length_append, Dg_len, e6, List.length_singleton]; omega) (fun σ3 hB3 => ?_))
    show AW G κ _ _ 175 _ _ _
    obtain ⟨fs3, ho3⟩ := hB3.o
    refine sL_law_175 hΓ ?_
    refine sL_law_176 hΓ rfl ?_
    refine sL_law_177 hΓ ?_
    refine sL_law_179 hΓ rfl ?_
    refine sL_law_181 hΓ ?_
    rw [e20]
    refine sL_law_182 hΓ 0 0 (Nat.le_of_ble_eq_true rfl) (fun κ_182 hΓ_182 => lm_cell hΓ_182 hG3 (k := 20 + k) (by omega) ?_)
    show AW G κ _ _ 185 _ _ _
    refine sL_law_185 hΓ ?_
    refine sL_law_186 hΓ ?_
    refine sL_law_187 hΓ ?_
    refine sL_law_188 hΓ 0 0 (Nat.le_of_ble_eq_true rfl) (fun κ_188 hΓ_188 => lm_most hΓ_188 (m := 5) (by decide) (by decide) ?_)
    show AW G κ _ _ 191 _ _ _
    refine sL_law_191 hΓ ?_
    rw [ec]
    refine sL_law_192 hΓ 1 640 (Nat.le_of_ble_eq_true rfl) ho3 (fun κ_192 hΓ_192 => bt_aI hΓ_192 hB3 bc (by simp only [List.length_append, Dg_len, e6, List.length_singleton]; omega) (fun σ4 hB4 => ?_))
    show AW G κ _ _ 195 _ _ _
    obtain ⟨fs4, ho4⟩ := hB4.o
    refine sL_law_195 hΓ ?_
    refine sL_law_197 hΓ 1 640 (Nat.le_of_ble_eq_true rfl) ho4 (fun κ_197 hΓ_197 => bt_aC hΓ_197 hB4 (c := 32) (by decide) (by simp only [List.length_append, Dg_len, e6, List.length_singleton]; omega) (fun σ5 hB5 => ?_))
    show AW G κ _ _ 200 _ _ _
    obtain ⟨fs5, ho5⟩ := hB5.o
    refine sL_law_200 hΓ ?_
    refine sL_law_201 hΓ rfl ?_
    refine sL_law_202 hΓ ?_
    refine sL_law_204 hΓ rfl ?_
    refine sL_law_206 hΓ ?_
    rw [e20]
    refine sL_law_207 hΓ 0 0 (Nat.le_of_ble_eq_true rfl) (fun κ_207 hΓ_207 => lm_cell hΓ_207 hG3 (k := 20 + k) (by omega) ?_)
    show AW G κ _ _ 210 _ _ _
    refine sL_law_210 hΓ ?_
    refine sL_law_211 hΓ ?_
    refine sL_law_212 hΓ ?_
    refine sL_law_214 hΓ 0 0 (Nat.le_of_ble_eq_true rfl) (fun κ_214 hΓ_214 => lm_most hΓ_214 (m := 9) (by decide) (by decide) ?_)
    show AW G κ _ _ 217 _ _ _
    refine sL_law_217 hΓ ?_
    rw [ed]
    refine sL_law_218 hΓ 1 640 (Nat.le_of_ble_eq_true rfl) ho5 (fun κ_218 hΓ_218 => bt_aI hΓ_218 hB5 bd (by simp only [List.length_append, Dg_len, e6, List.length_singleton]; omega) (fun σ6 hB6 => ?_))
    show AW G κ _ _ 221 _ _ _
    obtain ⟨fs6, ho6⟩ := hB6.o
    refine sL_law_221 hΓ ?_
    refine sL_law_223 hΓ 1 640 (Nat.le_of_ble_eq_true rfl) ho6 (fun κ_223 hΓ_223 => bt_aC hΓ_223 hB6 (c := 32) (by decide) (by simp only [List.length_append, Dg_len, e6, List.length_singleton]; omega) (fun σ7 hB7 => ?_))
    show AW G κ _ _ 226 _ _ _
    obtain ⟨fs7, ho7⟩ := hB7.o
    refine sL_law_226 hΓ rfl ?_
    refine sL_law_228 hΓ 1 640 (Nat.le_of_ble_eq_true rfl) ho7 (fun κ_228 hΓ_228 => bt_aI hΓ_228 hB7 (show k < 1000 by omega) (by simp only [List.length_append, Dg_len, e6, List.length_singleton]; omega) (fun σ8 hB8 => ?_))
    show AW G κ _ _ 231 _ _ _
    obtain ⟨fs8, ho8⟩ := hB8.o
    refine sL_law_231 hΓ ?_
    refine sL_law_233 hΓ 1 640 (Nat.le_of_ble_eq_true rfl) ho8 (fun κ_233 hΓ_233 => bt_aC hΓ_233 hB8 (c := 59) (by decide) (by simp only [List.length_append, Dg_len, e6, List.length_singleton]; omega) (fun σ9 hB9 => ?_))
    show AW G κ _ _ 236 _ _ _
    obtain ⟨fs9, ho9⟩ := hB9.o
    refine sL_law_236 (v := .inr (some b)) hΓ ?_
    exact nx σ9 (by show BT G σ0 σ9 b (l0 ++ (tTrns (lwAd G) (lwAc G) (lwDv G) k ++ tTrn (lwAd G k) (lwAc G k) (lwDv G k) k)); rw [← List.append_assoc, ← tTrn_eq]; exact hB9)
theorem lb_end (hΓ : Ok G κ mL_law (d + 11) Q X) (hG3 : gE G 3 ≤ 260) (hN : n = lwN G) (hM : m = lwM G) {c : Nat → Nat} (hS : LwS G σ0 c x w A mZ0 mB0 (hset noF w (eI G 6 (fun _ => 0)))) (hB : BT G σ0 σ b (tAll n (lwC G) (lwF G) (lwAd G) (lwAc G) (lwDv G) m)) (hq : ∀ σ1 : Hp, Q (some (.int 1)) σ1) {C1 S1 : Nat} (hC1 : C1 = cs + 140 + 8 + 220 * 5 + 140 + 7 + 2100 * 40) (hS1 : S1 = ss + 1000 + 102 + 1200 * 5 + 1000 + 96 + 14000 * 40) : AW G κ (C1 + 23 + 2) (S1 + 256 + 644) 243 [lR (gE G 2), lR x, lR w, lI v, lI (nI n), lI (nI m), lR b, lI (nI m), none, none, none, none] [] σ := by
  have hn4 : 4 ≤ n := by rw [hN]; exact Nat.le_add_right _ _
  have hn12 : n ≤ 12 := by have := mo_lt (clF G 0) (m := 9) (by decide); rw [hN]; unfold lwN; omega
  have hm1 : 1 ≤ m := by rw [hM]; exact Nat.le_add_right _ _
  have hm4 : m ≤ 4 := by have := mo_lt (clF G 0 >>> ((2 : Int32) &&& 31)) (m := 4) (by decide); rw [hM]; unfold lwM; omega
  have hc9 : 1 ≤ lwC G ∧ lwC G ≤ 9 := by have := mo_lt (clF G 0 >>> ((4 : Int32) &&& 31)) (m := 9) (by decide); unfold lwC; omega
  have bA : ∀ k, 1 ≤ lwAd G k ∧ lwAd G k ≤ 30 + 30 * k := fun k => by have := mo_lt (clF G (20 + k)) (m := 30) (by decide); unfold lwAd; omega
  have bC : ∀ k, 1 ≤ lwAc G k ∧ lwAc G k ≤ 5 := fun k => by have := mo_lt (clF G (20 + k) >>> ((2 : Int32) &&& 31)) (m := 5) (by decide); unfold lwAc; omega
  have bD : ∀ k, 1 ≤ lwDv G k ∧ lwDv G k ≤ 9 := fun k => by have := mo_lt (clF G (20 + k) >>> ((4 : Int32) &&& 31)) (m := 9) (by decide); unfold lwDv; omega
  have hd : ∀ i j, lwAd G i = lwAd G j → i = j := fun i j e => by
    have r1 := mo_lt (clF G (20 + i)) (m := 30) (by decide)
    have r2 := mo_lt (clF G (20 + j)) (m := 30) (by decide)
    unfold lwAd at e
    omega
  have b2 : ∀ k, k < m → lwAd G k ≤ 127 := fun k hk => by have := (bA k).2; omega
  have hlow : low7 (tAll n (lwC G) (lwF G) (lwAd G) (lwAc G) (lwDv G) m) := (low_head (by omega) (by omega)).app ((low_tuns n (by omega)).app (low_trns m (by omega) (fun i hi => by have := b2 i hi; have := (bC i).2; have := (bD i).2; omega)))
  have hlen : (tAll n (lwC G) (lwF G) (lwAd G) (lwAc G) (lwDv G) m).length ≤ 300 := by
    have h1 := tHead_le n (lwC G)
    have h2 := tTuns_le (lwF G) n
    have h3 := tTrns_le (lwAd G) (lwAc G) (lwDv G) m
    unfold tAll
    rw [List.length_append, List.length_append]
    omega
  generalize hL : tAll n (lwC G) (lwF G) (lwAd G) (lwAc G) (lwDv G) m = l at *
  obtain ⟨fs, ho⟩ := hB.o
  have hT0 : TI (fun _ => 0) mZ0 (mB0 15) [] := ⟨fun j => by rw [gl_out (Nat.zero_le _)]; decide, rfl, fun i hi => by rw [pkN_zero (Nat.zero_le _)]; rfl, rfl, fun j hj => absurd hj (Nat.not_lt_zero j)⟩
  refine sL_law_243 hΓ rfl ?_
  refine sL_law_244 hΓ rfl ?_
  refine sL_law_245 hΓ rfl ?_
  refine sL_law_247 hΓ 2 644 (Nat.le_of_ble_eq_true rfl) ho (fun κ_247 hΓ_247 => bt_str hΓ_247 hB (fun σ3 s wb a g1 g2 g3 g4 g5 g6 g7 => ?_))
  show AW G κ _ _ 250 _ _ _
  have hS3 := hS.ext g1
  have fw := extF_old (σ1 := σ3) hS (hset_same _ _ _)
  have fs3 := (extF_new (σ1 := σ3) (F := hset noF w (eI G 6 (fun _ => 0))) g2).trans g4
  have fb3 := (extF_new (σ1 := σ3) (F := hset noF w (eI G 6 (fun _ => 0))) g3).trans g5
  have w0 := hS.at (hset_same noF w (eI G 6 (fun _ => 0)))
  have n1 : s ≠ w := fun e => by rw [e, w0] at g2; cases g2
  have n2 : wb ≠ w := fun e => by rw [e, w0] at g3; cases g3
  refine sL_law_250 hΓ 0 0 (Nat.le_of_ble_eq_true rfl) (fun κ_250 hΓ_250 => lm_say hΓ_250 hS3 fw hT0 fs3 fb3 g6 g7 n1 n2 (fun i _ => hlow.at_ i) (by rw [List.length_nil]; omega) (fun σ4 z4 B4 W4 hS4 hT4 e40 e48 => ?_))
  show AW G κ _ _ 253 _ _ _
  rw [List.nil_append, gl_list] at hT4
  refine sL_law_253 hΓ rfl ?_
  refine sL_law_254 hΓ rfl ?_
  refine sL_law_255 hΓ rfl ?_
  refine sL_law_256 hΓ 0 0 (Nat.le_of_ble_eq_true rfl) (fun κ_256 hΓ_256 => lm_end hΓ_256 hS4 (hset_same _ _ _) hT4 (by omega) (fun σ5 z5 B5 W5 N hS5 k1 k2 k3 k4 e50 e58 => ?_))
  show AW G κ _ _ 259 _ _ _
  obtain ⟨fs5, ho5⟩ := hS5.o
  obtain ⟨q5, eq⟩ := rd_all (b := B5 15) (L := l.length) (a := at0 z5) (n := n) (c := lwC G) (f := lwF G) (ad := lwAd G) (ac := lwAc G) (dv := lwDv G) (m := m) (by rw [hL]; exact ⟨Nat.zero_add _, fun j hj => by rw [Nat.zero_add]; exact k4 j hj⟩) hn4 (by omega) hc9.1 (by omega) hm1 (by omega) (by omega) hd (fun k => (bA k).1) b2 bC bD
  have eY : ldY B5 z5 l.length = (Tk (B5 15) l.length (at0 z5) q5, trnR (lwAd G) (lwAc G) (lwDv G) (tunR (lwF G) 0 (rBeg (nI n) (nI (lwC G))) n) m, m) := eq
  refine sL_law_259 hΓ 23 256 (Nat.le_of_ble_eq_true rfl) ho5 (fun κ_259 hΓ_259 => ct_loadRailway hΓ_259 hS5 k3 k2 k1 (by rw [eY]; rfl) (fun σ6 c6 hS6 => ?_))
  show AW G κ _ _ 262 _ _ _
  rw [eY] at hS6 ⊢
  obtain ⟨⟨n9, s9, C9, n2_, C2, Nh, Ch, u, bb, l9, cd, og, hs, out, ol, hT6, ⟨⟨hV6, -⟩, -⟩⟩, -⟩ := id hS6
  obtain ⟨hG, e3⟩ := law_row (n := n) (c := lwC G) (m := m) (f := lwF G) (ad := lwAd G) (ac := lwAc G) (dv := lwDv G) hn4 hn12 hm1 hm4 hd (fun k => (bA k).1) b2 ⟨n9, s9, hV6⟩
  rw [show ((Tk (B5 15) l.length (at0 z5) q5, trnR (lwAd G) (lwAc G) (lwDv G) (tunR (lwF G) 0 (rBeg (nI n) (nI (lwC G))) n) m, m) : Yt).2.1 3 = nI m from e3]
  obtain ⟨fs6, ho6⟩ := hS6.o
  refine sL_law_262 hΓ rfl ?_
  refine sL_law_264 hΓ (fun c264 => absurd rfl c264) (fun c264 => ?_)
  refine sL_law_267 hΓ rfl ?_
  refine sL_law_268 hΓ 0 0 (Nat.le_of_ble_eq_true rfl) ho6 (fun κ_268 hΓ_268 => ct_undoableCount hΓ_268 hS6 ?_)
  show AW G κ _ _ 271 _ _ _
  refine sL_law_271 hΓ (fun c271 => ?_) (fun c271 => absurd rfl c271)
  refine sL_law_276 hΓ ?_
  refine sL_law_277 hΓ ?_
  skip
  rw [hC1, hS1]
  exact lw_D hΓ hG3 (fun σ c z B τ kk o8 o9 o10 o11 a1 a2 a3 a4 a5 => lw_449 hΓ hG3 a1 a2 a3 a4 a5 hq) 40 0 rfl σ6 c6 _ _ 0 0 _ _ _ _ (hS6.less (fun y e hy => by cases hy)) hG (Nat.zero_le _) (by decide) rfl
/-- the law's body, from its entry -/
theorem law_body (hΓ : Ok G κ mL_law (d + 11) Q X) (hG3 : gE G 3 ≤ 260) (hq : ∀ σ1 : Hp, Q (some (.int 1)) σ1) : AW G κ 100000 700000 0 [lR (gE G 2), none, none, none, none, none, none, none, none, none, none, none] [] (fun _ => none) := by
  have hn12 : lwN G ≤ 12 := by have := mo_lt (clF G 0) (m := 9) (by decide); unfold lwN; omega
  have hm4 : lwM G ≤ 4 := by have := mo_lt (clF G 0 >>> ((2 : Int32) &&& 31)) (m := 4) (by decide); unfold lwM; omega
  have hc9 : lwC G ≤ 9 := by have := mo_lt (clF G 0 >>> ((4 : Int32) &&& 31)) (m := 9) (by decide); unfold lwC; omega
  obtain ⟨C1, hC1⟩ : ∃ q, q = 0 + 140 + 8 + 220 * 5 + 140 + 7 + 2100 * 40 := ⟨_, rfl⟩
  obtain ⟨S1, hS1⟩ : ∃ q, q = 0 + 1000 + 102 + 1200 * 5 + 1000 + 96 + 14000 * 40 := ⟨_, rfl⟩
  refine aw_less (cs2 := C1 + 23 + 2 + 9 * lwM G + 3 * lwN G + 1 + 1 + 1 + 1 + 2 + 1 + 1 + 57 + 1) (ss2 := S1 + 256 + 644 + 5760 * lwM G + 1920 * lwN G + 640 + 640 + 640 + 640 + 680 + 4 + 6 + 867 + 10) (by omega) (by omega) ?_
  refine sL_law_0 hΓ (fun x hx0 hxb => ?_)
  refine sL_law_3 hΓ ?_
  refine sL_law_4 hΓ 57 867 (Nat.le_of_ble_eq_true rfl) (fun κ2 h2 => tq_init (cs := 0) (ss := 0) h2 (c := fun y => y) (hset_same _ _ _) rfl (fun σ1 c1 A C C2 Nh Ch hT hC f1 => ?_))
  show AW G κ _ _ 7 _ _ _
  have hTR : TR mZ0 mB0 2 8 C 0 C2 Nh Ch (nI 0) (fun _ => 0) (nI 0) 0 (-1) 0 (fun _ => 0) 0 :=
    ⟨⟨mRow0_ok, hC⟩, ⟨0, by decide, rfl, rfl, fun i hi => absurd hi (Nat.not_lt_zero i)⟩, ⟨false, rfl, rfl, fun h => by cases h⟩, ⟨0, by decide, rfl, rfl, fun i hi => absurd hi (Nat.not_lt_zero i)⟩, ⟨0, by decide, rfl, rfl, rfl, fun i hi => absurd hi (Nat.not_lt_zero i)⟩, rfl, rfl⟩
  have e4 : (4 : Int32) + nI (mo (clF G 0) 9) = nI (lwN G) := nI_add 4 _
  have e1 : (1 : Int32) + nI (mo (clF G 0 >>> ((2 : Int32) &&& 31)) 4) = nI (lwM G) := nI_add 1 _
  have e9 : (1 : Int32) + nI (mo (clF G 0 >>> ((4 : Int32) &&& 31)) 9) = nI (lwC G) := nI_add 1 _
  have dn := dgN_3 (lwN G)
  have dc := dgN_3 (lwC G)
  have w4 : (wTx 4).length = 6 := rfl
  refine sL_law_7 hΓ ?_
  refine sL_law_8 hΓ ?_
  refine sL_law_10 hΓ (n := 6) rfl (by decide) (fun w hw hwb => ?_)
  have hR1 : RLx G σ1 c1 x A w mZ0 mB0 := ⟨2, 8, C, 0, C2, Nh, Ch, nI 0, fun _ => 0, nI 0, 0, -1, 0, fun _ => 0, 0, hT w hw, hTR⟩
  have hS0 : LwS G σ1 c1 x w A mZ0 mB0 noF := ⟨hR1, fun y e h => by cases h⟩
  have hS := hS0.new hw (eI G 6 (fun _ => 0))
  refine sL_law_12 hΓ ?_
  refine sL_law_13 hΓ rfl ?_
  refine sL_law_14 hΓ ?_
  refine sL_law_15 hΓ 0 0 (Nat.le_of_ble_eq_true rfl) (fun κ_15 hΓ_15 => lm_cell hΓ_15 hG3 (k := 0) (by decide) ?_)
  show AW G κ _ _ 18 _ _ _
  refine sL_law_18 hΓ ?_
  refine sL_law_19 hΓ ?_
  refine sL_law_20 hΓ rfl ?_
  refine sL_law_21 hΓ ?_
  refine sL_law_23 hΓ 0 0 (Nat.le_of_ble_eq_true rfl) (fun κ_23 hΓ_23 => lm_most hΓ_23 (m := 9) (by decide) (by decide) ?_)
  show AW G κ _ _ 26 _ _ _
  refine sL_law_26 hΓ ?_
  rw [e4]
  refine sL_law_27 hΓ ?_
  refine sL_law_29 hΓ ?_
  refine sL_law_30 hΓ rfl ?_
  refine sL_law_31 hΓ ?_
  refine sL_law_32 hΓ ?_
  refine sL_law_33 hΓ ?_
  refine sL_law_34 hΓ 0 0 (Nat.le_of_ble_eq_true rfl) (fun κ_34 hΓ_34 => lm_most hΓ_34 (m := 4) (by decide) (by decide) ?_)
  show AW G κ _ _ 37 _ _ _
  refine sL_law_37 hΓ ?_
  rw [e1]
  refine sL_law_38 hΓ ?_
  refine sL_law_40 hΓ (fun b hb0 hbb => ?_)
  refine sL_law_43 hΓ ?_
  refine sL_law_44 hΓ ?_
  refine sL_law_46 hΓ 2 680 (Nat.le_of_ble_eq_true rfl) (fun κ_46 hΓ_46 => bt_init hΓ_46 (fun y e hy => (hset_ne (fun e8 => by rw [e8, hb0] at hy; cases hy)).trans hy) hb0 (hset_same _ _ _) (fun σ2 hB0 => ?_))
  show AW G κ _ _ 49 _ _ _
  obtain ⟨fs0, ho0⟩ := hB0.o
  refine sL_law_49 hΓ rfl ?_
  refine sL_law_51 hΓ 1 640 (Nat.le_of_ble_eq_true rfl) ho0 (fun κ_51 hΓ_51 => bt_aI hΓ_51 hB0 (show lwN G < 1000 by omega) (by rw [w4]; omega) (fun σ3 hB1 => ?_))
  show AW G κ _ _ 54 _ _ _
  obtain ⟨fs1, ho1⟩ := hB1.o
  refine sL_law_54 hΓ ?_
  refine sL_law_56 hΓ 1 640 (Nat.le_of_ble_eq_true rfl) ho1 (fun κ_56 hΓ_56 => bt_aC hΓ_56 hB1 (c := 32) (by decide) (by simp only [List.length_append, Dg_len, w4, List.length_singleton]; omega) (fun σ4 hB2 => ?_))
  show AW G κ _ _ 59 _ _ _
  obtain ⟨fs2, ho2⟩ := hB2.o
  refine sL_law_59 hΓ ?_
  refine sL_law_60 hΓ rfl ?_
  refine sL_law_61 hΓ ?_
  refine sL_law_62 hΓ ?_
  refine sL_law_63 hΓ ?_
  refine sL_law_65 hΓ 0 0 (Nat.le_of_ble_eq_true rfl) (fun κ_65 hΓ_65 => lm_most hΓ_65 (m := 9) (by decide) (by decide) ?_)
  show AW G κ _ _ 68 _ _ _
  refine sL_law_68 hΓ ?_
  rw [e9]
  refine sL_law_69 hΓ 1 640 (Nat.le_of_ble_eq_true rfl) ho2 (fun κ_69 hΓ_69 => bt_aI hΓ_69 hB2 (show lwC G < 1000 by omega) (by simp only [List.length_append, Dg_len, w4, List.length_singleton]; omega) (fun σ5 hB3 => ?_))
  show AW G κ _ _ 72 _ _ _
  obtain ⟨fs3, ho3⟩ := hB3.o
  refine sL_law_72 hΓ ?_
  refine sL_law_74 hΓ 1 640 (Nat.le_of_ble_eq_true rfl) ho3 (fun κ_74 hΓ_74 => bt_aC hΓ_74 hB3 (c := 59) (by decide) (by simp only [List.length_append, Dg_len, w4, List.length_singleton]; omega) (fun σ6 hB4 => ?_))
  show AW G κ _ _ 77 _ _ _
  refine sL_law_77 hΓ ?_
  refine sL_law_79 hΓ ?_
  refine sL_law_80 hΓ ?_
  skip
  rw [tHead_eq] at hB4
  refine lb_tun (l0 := tHead (lwN G) (lwC G)) hΓ hG3 hn12 (tHead_le _ _) (fun σ7 hB7 => ?_) (lwN G) 0 (Nat.zero_add _) σ6 (by show BT G _ _ _ (_ ++ []); rw [List.append_nil]; exact hB4)
  refine sL_law_128 hΓ ?_
  refine sL_law_129 hΓ ?_
  skip
  have hlt := tTuns_le (lwF G) (lwN G)
  have hlh := tHead_le (lwN G) (lwC G)
  refine lb_trn (l0 := tHead (lwN G) (lwC G) ++ tTuns (lwF G) (lwN G)) hΓ hG3 hm4 (by rw [List.length_append]; omega) (fun σ8 hB8 => ?_) (lwM G) 0 (Nat.zero_add _) σ7 (by show BT G _ _ _ (_ ++ []); rw [List.append_nil]; exact hB7)
  rw [List.append_assoc] at hB8
  exact lb_end (cs := 0) (ss := 0) hΓ hG3 rfl rfl hS hB8 hq hC1 hS1
end LawBody
