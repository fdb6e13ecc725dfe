/-! the class's railway: what a script does to it -/
section ClassOps
variable {G : Gl} {κ : Kx} {d : Nat} {Q : Option Value → Hp → Prop} {X : String → Hp → Prop} {cs ss pc : Nat} {M : List (Option LV)} {st : List Value} {σ σ1 : Hp} {c c1 : Nat → Nat} {a t q p n s : Nat} {tr : Nat → Nat} {C : Ct} {ρ : Nat → Int32}
theorem RG.ry (h : RG G σ a t q p tr n C.1 C.2.1 C.2.2.1 C.2.2.2) (hc : ∀ x, inR a t q p tr n x → c x = a) : RY G σ c a n C := ⟨t, q, p, tr, h, hc⟩
theorem CF.kf {S1 U1 K1 : Nat → Int32} {T1 : Nat → Nat → Int32} (f : CF a t q p tr n σ σ1) (hc : ∀ x, inR a t q p tr n x → c x = a) (h1 : RG G σ1 a t q p tr n S1 U1 K1 T1) : KF (fun x => x = a) σ c σ1 c := KF.cf hc rfl h1 f
theorem RV.ql (h : RV ρ n s) : ∃ l, l ≤ 12 ∧ ρ 6 = nI l := h.1.2
theorem RV.n6 (h : RV ρ n s) : n ≤ 6 := h.1.1.2.1
theorem RV.s4 (h : RV ρ n s) : ρ 1 = nI s ∧ 4 ≤ s ∧ s ≤ 24 := ⟨h.1.1.2.2.1, h.1.1.2.2.2.1, h.1.1.2.2.2.2.1⟩
theorem RV.t0 (h : RV ρ n s) : ∃ m, m ≤ 10000 ∧ ρ 0 = nI m := h.2.2 0
theorem sc_last {d : Nat} (hΓ : Ok G κ mX6_putLast (d + 0) Q X) (g : RG G σ a t q p tr n C.1 C.2.1 C.2.2.1 C.2.2.2) (hc : ∀ x, inR a t q p tr n x → c x = a) (hV : RV ρ n s) (hC : CR ρ n s C) {A B D : Nat} {x y w v : Int32} (hx : x = kOf y w v) (hA : y = nI A) (hB : w = nI B) (hD : v = nI D) (z : Nat → Int32) (hq0 : ¬ (oPut z ρ (rQ ρ) y w v).1 = 0 → Q (some (.int 0)) σ) (hq1 : (oPut z ρ (rQ ρ) y w v).1 = 0 → ∀ (σ1 : Hp) (C1 : Ct), RY G σ1 c a n C1 → CR (oPut z ρ (rQ ρ) y w v).2.2 n s C1 → KF (fun x => x = a) σ c σ1 c → Q (some (.int 1)) σ1) : AW G κ cs ss 0 [lR q, lI x] [] σ := by
  obtain ⟨l, hl, hQ⟩ := hV.ql
  have hU : C.2.1 1 = nI l := hC.1.2.2.2.2.2.1.symm.trans hQ
  have hr : rQ ρ = l := rQ_lt hQ hl
  refine su_putLast hΓ g.qg hU hl (fun e => hq0 ?_) (fun e => rg_q (Z := fun σ => Q (some (.int 1)) σ) g (fun σ1 h1 f1 => ?_))
  · unfold oPut
    rw [if_pos (by rw [hQ, e]; rfl)]
    exact (show ¬ (2 : Int32) = 0 by decide)
  · have h12 : ¬ ρ 6 = 12 := fun e9 => by
      rw [hQ] at e9
      have := (nI_eq (a := l) (b := 12) (by omega) (by decide)).mp e9
      omega
    have e1 : oPut z ρ (rQ ρ) y w v = (0, upd z 11 (ρ 6 + 1), rPut ρ (rQ ρ) y w v) := if_neg h12
    refine hq1 (by rw [e1]) σ1 (C.1, uPut C.2.1, upd C.2.2.1 l x, C.2.2.2) (RG.ry h1 hc) ?_ (f1.kf hc h1)
    rw [e1, hr, hx, hA, hB, hD]
    exact last_cr hC hV.n6 hQ e
theorem sc_first {d : Nat} (hΓ : Ok G κ mX6_putFirst (d + 1) Q X) (g : RG G σ a t q p tr n C.1 C.2.1 C.2.2.1 C.2.2.2) (hc : ∀ x, inR a t q p tr n x → c x = a) (hV : RV ρ n s) (hC : CR ρ n s C) {A B D : Nat} {x y w v : Int32} (hx : x = kOf y w v) (hA : y = nI A) (hB : w = nI B) (hD : v = nI D) (z : Nat → Int32) (hq0 : ¬ (oPut z ρ 0 y w v).1 = 0 → Q (some (.int 0)) σ) (hq1 : (oPut z ρ 0 y w v).1 = 0 → ∀ (σ1 : Hp) (C1 : Ct), RY G σ1 c a n C1 → CR (oPut z ρ 0 y w v).2.2 n s C1 → KF (fun x => x = a) σ c σ1 c → Q (some (.int 1)) σ1) : AW G κ cs ss 0 [lR q, lI x] [] σ := by
  obtain ⟨l, hl, hQ⟩ := hV.ql
  have hU : C.2.1 1 = nI l := hC.1.2.2.2.2.2.1.symm.trans hQ
  refine su_putFirst hΓ g.qg hU hl (fun e => hq0 ?_) (fun e => rg_q (Z := fun σ => Q (some (.int 1)) σ) g (fun σ1 h1 f1 => ?_))
  · unfold oPut
    rw [if_pos (by rw [hQ, e]; rfl)]
    exact (show ¬ (2 : Int32) = 0 by decide)
  · have h12 : ¬ ρ 6 = 12 := fun e9 => by
      rw [hQ] at e9
      have := (nI_eq (a := l) (b := 12) (by omega) (by decide)).mp e9
      omega
    have e1 : oPut z ρ 0 y w v = (0, upd z 11 (ρ 6 + 1), rPut ρ 0 y w v) := if_neg h12
    refine hq1 (by rw [e1]) σ1 (C.1, uPut C.2.1, kOn C.2.2.1 x, C.2.2.2) (RG.ry h1 hc) ?_ (f1.kf hc h1)
    rw [e1, hx, hA, hB, hD]
    exact first_cr hC hV.n6 hQ e
theorem sc_short (hΓ : Ok G κ mX8_changeShort (d + 1) Q X) (hY : RY G σ c a n C) (hV : RV ρ n s) (hC : CR ρ n s C) {x y : Int32} {b : Bool} (hy : y = bI b) (z : Nat → Int32) (hq0 : ¬ (oShort z ρ s x y).1 = 0 → Q (some (.int 0)) σ) (hq1 : (oShort z ρ s x y).1 = 0 → ∀ (σ1 : Hp) (C1 : Ct), RY G σ1 c a n C1 → CR (oShort z ρ s x y).2.2 n s C1 → KF (fun x => x = a) σ c σ1 c → Q (some (.int 1)) σ1) : AW G κ cs ss 0 [lR a, lI x, lI y, none] [] σ := by
  obtain ⟨t, q, p, tr, g, hc⟩ := hY
  obtain ⟨h1, h4, h24⟩ := hV.s4
  have hS : C.1 0 = ρ 1 := hC.1.2.1.symm
  have eS : C.1 0 - 1 = nI (s - 1) := by rw [hS, h1]; exact pk_sub (b := 1) (by omega)
  refine sr_changeShort hΓ g hy ⟨s, hS.trans h1, h4, h24⟩ (fun e => hq0 ?_) (fun e σ1 g1 f1 => ?_)
  · unfold oShort
    rw [if_neg (by unfold rIsS; rw [← hS, e]; decide)]
    exact (show ¬ (1 : Int32) = 0 by decide)
  · have e1 : oShort z ρ s x y = (0, upd z 11 (rCnt (upd ρ (34 + x.toNatClampNeg) y) 34 s), upd ρ (34 + x.toNatClampNeg) y) := if_pos (by unfold rIsS; rw [← hS]; exact e)
    rw [eS] at e
    obtain ⟨k, hk, hx⟩ := rIn_le (by omega) e
    refine hq1 (by rw [e1]) σ1 (sShort C.1 x b, C.2) ⟨t, q, p, tr, g1, hc⟩ ?_ (f1.kf hc g1)
    rw [e1, hx, nI_clamp (by omega), hy]
    exact short_cr hC hV.n6 (by omega) h24
theorem sc_wait (hΓ : Ok G κ mX8_pass (d + 3) Q X) (hY : RY G σ c a n C) (hV : RV ρ n s) (hC : CR ρ n s C) {x : Int32} {k : Nat} (hx : x = nI k) (hk : k < 1000000) (z : Nat → Int32) (hq0 : ¬ (oWait n s z ρ x).1 = 0 → Q (some (.int 0)) σ) (hq1 : (oWait n s z ρ x).1 = 0 → ∀ (σ1 : Hp) (C1 : Ct), RY G σ1 c a n C1 → CR (oWait n s z ρ x).2.2 n s C1 → KF (fun x => x = a) σ c σ1 c → Q (some (.int 1)) σ1) : AW G κ cs ss 0 [lR a, lI x, none, none, none, none, none] [] σ := by
  obtain ⟨t, q, p, tr, g, hc⟩ := hY
  have hS : C.1 4 = ρ 0 := hC.1.1.symm
  obtain ⟨m, hm, h0⟩ := hV.t0
  refine sr_pass hΓ g hx hk (fun e => hq0 ?_) (fun e σ1 g1 f1 => ?_)
  · unfold oWait
    rw [if_pos (by rw [← hS]; exact e)]
    exact (show ¬ (2 : Int32) = 0 by decide)
  · have e2 : ¬ 10000 < ρ 0 + x := by rw [← hS]; exact e
    have e1 : oWait n s z ρ x = (0, upd z 11 (rPsN n s ρ x.toNatClampNeg), rPs n s ρ x.toNatClampNeg) := if_neg e2
    have h3 : m + k ≤ 10000 := by
      rw [h0, hx, nI_add] at e2
      exact Nat.le_of_not_lt (fun e9 => e2 (nI_lt (a := 10000) e9 (by omega)))
    refine hq1 (by rw [e1]) σ1 (cPs n C k) ⟨t, q, p, tr, g1, hc⟩ ?_ (f1.kf hc g1)
    rw [e1, hx, nI_clamp (by omega)]
    exact pass_cr hV hC h0 h3
theorem kI0 (x : Int32) {b : Nat} (hb : b ≤ 28) : kInt x 0 (nI b) = kOf x (nI b) (x ^^^ nI b) := by
  have e : (0 : Int32) <<< ((6 : Int32) &&& 31) ||| nI b = nI b := (by decide : ∀ b : Fin 29, (0 : Int32) <<< ((6 : Int32) &&& 31) ||| nI b.1 = nI b.1) ⟨b, by omega⟩
  unfold kInt
  rw [e]
theorem kI1 (x : Int32) {b : Nat} (hb : b ≤ 15) : kInt x 1 (nI b) = kOf x (64 + nI b) (x ^^^ (64 + nI b)) := by
  have e : (1 : Int32) <<< ((6 : Int32) &&& 31) ||| nI b = 64 + nI b := (by decide : ∀ b : Fin 16, (1 : Int32) <<< ((6 : Int32) &&& 31) ||| nI b.1 = 64 + nI b.1) ⟨b, by omega⟩
  unfold kInt
  rw [e]
theorem kI2 (x : Int32) : kInt x 2 0 = kOf x 128 (x ^^^ 128) := by
  have e : (2 : Int32) <<< ((6 : Int32) &&& 31) ||| 0 = 128 := by decide
  unfold kInt
  rw [e]
theorem sx_execute (hΓ : Ok G κ mX9_execute (d + 4) Q X) {w y i : Nat} {ex : Int32} {D : Dt} {O : Nat → Int32} (hw : σ w = some (.inr (6, [.ref a, .int ex]))) (hY : RY G σ c a n C) (hV : RV ρ n s) (hC : CR ρ n s C) (hy : σ y = some (.inr (0, cmV G D))) (hO : vOrd O i) (hD : dOk D O i) (h7 : ¬ D.1 = 7) (hq1 : (xOp n s O i xZ ρ).1 = 0 → ∀ (σ1 : Hp) (C1 : Ct), RY G σ1 c a n C1 → CR (xOp n s O i xZ ρ).2.2 n s C1 → KF (fun x => x = a) σ c σ1 c → Q (some (.int 1)) σ1) (hq0 : ¬ (xOp n s O i xZ ρ).1 = 0 → Q (some (.int 0)) σ) : AW G κ cs ss 0 [lR w, lR y, none, none, none] [] σ := by
  obtain ⟨kd, x1, x2, x3, ins, nx⟩ := D
  obtain ⟨k0, A, B, E, v1, v2, v3, v4, v5, v6, v7, v8, v9, v10, v11, v12, v13, v14⟩ := hO
  obtain ⟨d1, d2, d3, d4⟩ := hD
  have h7 : ¬ kd = 7 := h7
  have d1 : kd < 8 := d1
  have ek : k0 = kd := (nI_eq (by omega) (by omega)).mp (v5.symm.trans d2)
  subst ek
  obtain ⟨d5, d6⟩ := d4 (show k0 < 7 by omega)
  have e1 : x1 = nI A := d3.symm.trans v6
  have e2 : x2 = nI B := d5.symm.trans v7
  have e3 : x3 = nI E := d6.symm.trans (v8 h7)
  have d3 : O (4 * i + 1) = x1 := d3
  have d5 : O (4 * i + 2) = x2 := d5
  have d6 : O (4 * i + 3) = x3 := d6
  obtain ⟨t, q, p, tr, g, hc⟩ := hY
  have hY : RY G σ c a n C := ⟨t, q, p, tr, g, hc⟩
  unfold xOp at hq0 hq1
  rw [v5, d3, d5, d6] at hq0 hq1
  refine sX9_execute_0 hΓ rfl ?_
  refine sX9_execute_1 hΓ hy rfl ?_
  refine sX9_execute_4 hΓ ?_
  refine sX9_execute_5 hΓ rfl ?_
  refine sX9_execute_6 hΓ (r := some (gE G k0)) (fun a6 _ => ?_) (fun c6 => by cases c6)
  refine sX9_execute_11 hΓ rfl ?_
  refine sX9_execute_12 hΓ hy rfl ?_
  refine sX9_execute_15 hΓ ?_
  refine sX9_execute_16 hΓ rfl ?_
  refine sX9_execute_17 hΓ hy rfl ?_
  refine sX9_execute_20 hΓ ?_
  refine sX9_execute_22 hΓ ?_
  refine sX9_execute_25 hΓ rfl ?_
  refine sX9_execute_26 hΓ (Nat.le_of_ble_eq_true rfl) d1 ?_
  refine sX9_execute_29t hΓ (j := k0) rfl (show k0 < 7 by omega) ?_
  have z0 : ∀ m, m < 8 → nI (k0 + 1) = nI (m + 1) → k0 = m := fun m hm e => by
    have := (nI_eq (by omega) (by omega)).mp e
    omega
  refine sX9_execute_30 hΓ (fun c30 => ?_) (fun c30 => ?_) (fun c30 => ?_) (fun c30 => ?_) (fun c30 => ?_) (fun c30 => ?_) (fun c30 => ?_) (fun c0 c1 c2 c3 c4 c5 c6 => ?_)
  · obtain rfl := z0 0 (by decide) c30
    rw [if_pos (show nI 0 = 0 by decide)] at hq0 hq1
    refine sX9_execute_72 hΓ rfl ?_
    refine sX9_execute_73 hΓ hw rfl ?_
    refine sX9_execute_76 hΓ g.o rfl ?_
    refine sX9_execute_79 hΓ rfl ?_
    refine sX9_execute_80 hΓ rfl ?_
    refine sX9_execute_82 hΓ rfl ?_
    refine sX9_execute_83 hΓ hy rfl ?_
    refine sX9_execute_86 hΓ 0 0 (Nat.le_of_ble_eq_true rfl) (fun κ_86 hΓ_86 => st_of hΓ_86 ?_)
    show AW G κ _ _ 89 _ _ _
    refine sX9_execute_89 hΓ 0 0 (Nat.le_of_ble_eq_true rfl) g.qg.1 (fun κ_9 hΓ_9 => sc_last hΓ_9 g hc hV hC rfl e1 e2 e3 xZ (fun e => ?_) (fun e σ1 C1 h1 h2 h3 => ?_))
    · show AW G κ _ _ 92 _ _ _
      exact sX9_execute_92 hΓ (Or.inl rfl) (hq0 e)
    · show AW G κ _ _ 92 _ _ _
      exact sX9_execute_92 hΓ (Or.inr rfl) (hq1 e σ1 C1 h1 h2 h3)
  · obtain rfl := z0 1 (by decide) c30
    rw [if_neg (show ¬ nI 1 = 0 by decide)] at hq0 hq1
    rw [if_pos (show nI 1 = 1 by decide)] at hq0 hq1
    rw [e2] at hq0 hq1
    refine sX9_execute_93 hΓ rfl ?_
    refine sX9_execute_94 hΓ hw rfl ?_
    refine sX9_execute_97 hΓ g.o rfl ?_
    refine sX9_execute_100 hΓ rfl ?_
    refine sX9_execute_101 hΓ ?_
    refine sX9_execute_102 hΓ rfl ?_
    refine sX9_execute_104 hΓ 0 0 (Nat.le_of_ble_eq_true rfl) (fun κ_104 hΓ_104 => st_intact hΓ_104 ?_)
    show AW G κ _ _ 107 _ _ _
    refine sX9_execute_107 hΓ 0 0 (Nat.le_of_ble_eq_true rfl) g.qg.1 (fun κ_9 hΓ_9 => sc_last hΓ_9 g hc hV hC (by rw [e2]; exact kI0 x1 (v13 rfl)) e1 rfl (by rw [e1]; exact xorI A B) xZ (fun e => ?_) (fun e σ1 C1 h1 h2 h3 => ?_))
    · show AW G κ _ _ 110 _ _ _
      exact sX9_execute_110 hΓ (Or.inl rfl) (hq0 e)
    · show AW G κ _ _ 110 _ _ _
      exact sX9_execute_110 hΓ (Or.inr rfl) (hq1 e σ1 C1 h1 h2 h3)
  · obtain rfl := z0 2 (by decide) c30
    rw [if_neg (show ¬ nI 2 = 0 by decide)] at hq0 hq1
    rw [if_neg (show ¬ nI 2 = 1 by decide)] at hq0 hq1
    rw [if_pos (show nI 2 = 2 by decide)] at hq0 hq1
    rw [e2] at hq0 hq1
    have eL : ∀ B, (64 : Int32) + nI B = nI (64 + B) := fun B => nI_add 64 B
    refine sX9_execute_111 hΓ rfl ?_
    refine sX9_execute_112 hΓ hw rfl ?_
    refine sX9_execute_115 hΓ g.o rfl ?_
    refine sX9_execute_118 hΓ rfl ?_
    refine sX9_execute_119 hΓ ?_
    refine sX9_execute_120 hΓ rfl ?_
    refine sX9_execute_122 hΓ 0 0 (Nat.le_of_ble_eq_true rfl) (fun κ_122 hΓ_122 => st_intact hΓ_122 ?_)
    show AW G κ _ _ 125 _ _ _
    refine sX9_execute_125 hΓ 0 0 (Nat.le_of_ble_eq_true rfl) g.qg.1 (fun κ_9 hΓ_9 => sc_last hΓ_9 g hc hV hC (by rw [e2]; exact kI1 x1 (v14 rfl)) e1 (eL B) (by rw [eL, e1]; exact xorI A (64 + B)) xZ (fun e => ?_) (fun e σ1 C1 h1 h2 h3 => ?_))
    · show AW G κ _ _ 128 _ _ _
      exact sX9_execute_128 hΓ (Or.inl rfl) (hq0 e)
    · show AW G κ _ _ 128 _ _ _
      exact sX9_execute_128 hΓ (Or.inr rfl) (hq1 e σ1 C1 h1 h2 h3)
  · obtain rfl := z0 3 (by decide) c30
    rw [if_neg (show ¬ nI 3 = 0 by decide)] at hq0 hq1
    rw [if_neg (show ¬ nI 3 = 1 by decide)] at hq0 hq1
    rw [if_neg (show ¬ nI 3 = 2 by decide)] at hq0 hq1
    rw [if_pos (show nI 3 = 3 by decide)] at hq0 hq1
    refine sX9_execute_129 hΓ rfl ?_
    refine sX9_execute_130 hΓ hw rfl ?_
    refine sX9_execute_133 hΓ g.o rfl ?_
    refine sX9_execute_136 hΓ rfl ?_
    refine sX9_execute_137 hΓ ?_
    refine sX9_execute_138 hΓ ?_
    refine sX9_execute_139 hΓ 0 0 (Nat.le_of_ble_eq_true rfl) (fun κ_139 hΓ_139 => st_intact hΓ_139 ?_)
    show AW G κ _ _ 142 _ _ _
    refine sX9_execute_142 hΓ 0 0 (Nat.le_of_ble_eq_true rfl) g.qg.1 (fun κ_9 hΓ_9 => sc_first hΓ_9 g hc hV hC (kI2 x1) e1 (show (128 : Int32) = nI 128 from rfl) (by rw [e1]; exact xorI A 128) xZ (fun e => ?_) (fun e σ1 C1 h1 h2 h3 => ?_))
    · show AW G κ _ _ 145 _ _ _
      exact sX9_execute_145 hΓ (Or.inl rfl) (hq0 e)
    · show AW G κ _ _ 145 _ _ _
      exact sX9_execute_145 hΓ (Or.inr rfl) (hq1 e σ1 C1 h1 h2 h3)
  · obtain rfl := z0 4 (by decide) c30
    rw [if_neg (show ¬ nI 4 = 0 by decide)] at hq0 hq1
    rw [if_neg (show ¬ nI 4 = 1 by decide)] at hq0 hq1
    rw [if_neg (show ¬ nI 4 = 2 by decide)] at hq0 hq1
    rw [if_neg (show ¬ nI 4 = 3 by decide)] at hq0 hq1
    rw [if_pos (show nI 4 = 4 by decide)] at hq0 hq1
    refine sX9_execute_146 hΓ rfl ?_
    refine sX9_execute_147 hΓ hw rfl ?_
    refine sX9_execute_150 hΓ rfl ?_
    refine sX9_execute_151 hΓ ?_
    refine sX9_execute_152 hΓ 0 0 (Nat.le_of_ble_eq_true rfl) g.o (fun κ_9 hΓ_9 => sc_short hΓ_9 hY hV hC (b := true) rfl xZ (fun e => ?_) (fun e σ1 C1 h1 h2 h3 => ?_))
    · show AW G κ _ _ 155 _ _ _
      exact sX9_execute_155 hΓ (Or.inl rfl) (hq0 e)
    · show AW G κ _ _ 155 _ _ _
      exact sX9_execute_155 hΓ (Or.inr rfl) (hq1 e σ1 C1 h1 h2 h3)
  · obtain rfl := z0 5 (by decide) c30
    rw [if_neg (show ¬ nI 5 = 0 by decide)] at hq0 hq1
    rw [if_neg (show ¬ nI 5 = 1 by decide)] at hq0 hq1
    rw [if_neg (show ¬ nI 5 = 2 by decide)] at hq0 hq1
    rw [if_neg (show ¬ nI 5 = 3 by decide)] at hq0 hq1
    rw [if_neg (show ¬ nI 5 = 4 by decide)] at hq0 hq1
    rw [if_pos (show nI 5 = 5 by decide)] at hq0 hq1
    refine sX9_execute_156 hΓ rfl ?_
    refine sX9_execute_157 hΓ hw rfl ?_
    refine sX9_execute_160 hΓ rfl ?_
    refine sX9_execute_161 hΓ ?_
    refine sX9_execute_162 hΓ 0 0 (Nat.le_of_ble_eq_true rfl) g.o (fun κ_9 hΓ_9 => sc_short hΓ_9 hY hV hC (b := false) rfl xZ (fun e => ?_) (fun e σ1 C1 h1 h2 h3 => ?_))
    · show AW G κ _ _ 165 _ _ _
      exact sX9_execute_165 hΓ (Or.inl rfl) (hq0 e)
    · show AW G κ _ _ 165 _ _ _
      exact sX9_execute_165 hΓ (Or.inr rfl) (hq1 e σ1 C1 h1 h2 h3)
  · obtain rfl := z0 6 (by decide) c30
    rw [if_neg (show ¬ nI 6 = 0 by decide)] at hq0 hq1
    rw [if_neg (show ¬ nI 6 = 1 by decide)] at hq0 hq1
    rw [if_neg (show ¬ nI 6 = 2 by decide)] at hq0 hq1
    rw [if_neg (show ¬ nI 6 = 3 by decide)] at hq0 hq1
    rw [if_neg (show ¬ nI 6 = 4 by decide)] at hq0 hq1
    rw [if_neg (show ¬ nI 6 = 5 by decide)] at hq0 hq1
    refine sX9_execute_166 hΓ rfl ?_
    refine sX9_execute_167 hΓ hw rfl ?_
    refine sX9_execute_170 hΓ rfl ?_
    refine sX9_execute_171 hΓ 0 0 (Nat.le_of_ble_eq_true rfl) g.o (fun κ_9 hΓ_9 => sc_wait hΓ_9 hY hV hC e1 (by omega) xZ (fun e => ?_) (fun e σ1 C1 h1 h2 h3 => ?_))
    · show AW G κ _ _ 174 _ _ _
      exact sX9_execute_174 hΓ (Or.inl rfl) (hq0 e)
    · show AW G κ _ _ 174 _ _ _
      exact sX9_execute_174 hΓ (Or.inr rfl) (hq1 e σ1 C1 h1 h2 h3)
  · exfalso
    have hk : k0 = 0 ∨ k0 = 1 ∨ k0 = 2 ∨ k0 = 3 ∨ k0 = 4 ∨ k0 = 5 ∨ k0 = 6 := by omega
    rcases hk with e | e | e | e | e | e | e <;> subst e <;> first | exact c0 rfl | exact c1 rfl | exact c2 rfl | exact c3 rfl | exact c4 rfl | exact c5 rfl | exact c6 rfl
end ClassOps
