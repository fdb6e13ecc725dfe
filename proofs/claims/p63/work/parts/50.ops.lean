/-! the class's railway: what a script does to it -/
section ClassOps
variable {G : Gl} {κ : Kx} {d : Nat} {Q : Option Value → Hp → Prop} {X : String → Hp → Prop} {cs ss pc : Nat} {M : List (Option LV)} {st : List Value} {σ σ1 : Hp} {c c1 : Nat → Nat} {a t q p n s : Nat} {tr : Nat → Nat} {C : Ct} {ρ : Nat → Int32}
theorem RG.ry (h : RG G σ a t q p tr n C.1 C.2.1 C.2.2.1 C.2.2.2) (hc : ∀ x, inR a t q p tr n x → c x = a) : RY G σ c a n C := ⟨t, q, p, tr, h, hc⟩
theorem CF.kf {S1 U1 K1 : Nat → Int32} {T1 : Nat → Nat → Int32} (f : CF a t q p tr n σ σ1) (hc : ∀ x, inR a t q p tr n x → c x = a) (h1 : RG G σ1 a t q p tr n S1 U1 K1 T1) : KF (fun x => x = a) σ c σ1 c := KF.cf hc rfl h1 f
theorem RV.ql (h : RV ρ n s) : ∃ l, l ≤ 12 ∧ ρ 6 = nI l := h.1.2
theorem RV.n6 (h : RV ρ n s) : n ≤ 6 := h.1.1.2.1
theorem RV.s4 (h : RV ρ n s) : ρ 1 = nI s ∧ 4 ≤ s ∧ s ≤ 24 := ⟨h.1.1.2.2.1, h.1.1.2.2.2.1, h.1.1.2.2.2.2.1⟩
theorem RV.t0 (h : RV ρ n s) : ∃ m, m ≤ 10000 ∧ ρ 0 = nI m := h.2.2 0
theorem sc_last {d : Nat} (hΓ : Ok G κ mX6_putLast (d + 0) Q X) (g : RG G σ a t q p tr n C.1 C.2.1 C.2.2.1 C.2.2.2) (hc : ∀ x, inR a t q p tr n x → c x = a) (hV : RV ρ n s) (hC : CR ρ n s C) {A B D : Nat} {x y w v : Int32} (hx : x = kOf y w v) (hA : y = nI A) (hB : w = nI B) (hD : v = nI D) (z : Nat → Int32) (hq0 : ¬ (oPut z ρ (rQ ρ) y w v).1 = 0 → Q (some (.int 0)) σ) (hq1 : (oPut z ρ (rQ ρ) y w v).1 = 0 → ∀ (σ1 : Hp) (C1 : Ct), RY G σ1 c a n C1 → CR (oPut z ρ (rQ ρ) y w v).2.2 n s C1 → KF (fun x => x = a) σ c σ1 c → Q (some (.int 1)) σ1) : AW G κ cs ss 0 [lR q, lI x] [] σ := by
  obtain ⟨l, hl, hQ⟩ := hV.ql
  have hU : C.2.1 1 = nI l := hC.1.2.2.2.2.2.1.symm.trans hQ
  have hr : rQ ρ = l := rQ_lt hQ hl
  refine su_putLast hΓ g.qg hU hl (fun e => hq0 ?_) (fun e => rg_q (Z := fun σ => Q (some (.int 1)) σ) g (fun σ1 h1 f1 => ?_))
  · unfold oPut
    rw [if_pos (by rw [hQ, e]; rfl)]
    exact (show ¬ (2 : Int32) = 0 by decide)
  · have h12 : ¬ ρ 6 = 12 := fun e9 => by
      rw [hQ] at e9
      have := (nI_eq (a := l) (b := 12) (by omega) (by decide)).mp e9
      omega
    have e1 : oPut z ρ (rQ ρ) y w v = (0, upd z 11 (ρ 6 + 1), rPut ρ (rQ ρ) y w v) := if_neg h12
    refine hq1 (by rw [e1]) σ1 (C.1, uPut C.2.1, upd C.2.2.1 l x, C.2.2.2) (RG.ry h1 hc) ?_ (f1.kf hc h1)
    rw [e1, hr, hx, hA, hB, hD]
    exact last_cr hC hV.n6 hQ e
theorem sc_first {d : Nat} (hΓ : Ok G κ mX6_putFirst (d + 1) Q X) (g : RG G σ a t q p tr n C.1 C.2.1 C.2.2.1 C.2.2.2) (hc : ∀ x, inR a t q p tr n x → c x = a) (hV : RV ρ n s) (hC : CR ρ n s C) {A B D : Nat} {x y w v : Int32} (hx : x = kOf y w v) (hA : y = nI A) (hB : w = nI B) (hD : v = nI D) (z : Nat → Int32) (hq0 : ¬ (oPut z ρ 0 y w v).1 = 0 → Q (some (.int 0)) σ) (hq1 : (oPut z ρ 0 y w v).1 = 0 → ∀ (σ1 : Hp) (C1 : Ct), RY G σ1 c a n C1 → CR (oPut z ρ 0 y w v).2.2 n s C1 → KF (fun x => x = a) σ c σ1 c → Q (some (.int 1)) σ1) : AW G κ cs ss 0 [lR q, lI x] [] σ := by
  obtain ⟨l, hl, hQ⟩ := hV.ql
  have hU : C.2.1 1 = nI l := hC.1.2.2.2.2.2.1.symm.trans hQ
  refine su_putFirst hΓ g.qg hU hl (fun e => hq0 ?_) (fun e => rg_q (Z := fun σ => Q (some (.int 1)) σ) g (fun σ1 h1 f1 => ?_))
  · unfold oPut
    rw [if_pos (by rw [hQ, e]; rfl)]
    exact (show ¬ (2 : Int32) = 0 by decide)
  · have h12 : ¬ ρ 6 = 12 := fun e9 => by
      rw [hQ] at e9
      have := (nI_eq (a := l) (b := 12) (by omega) (by decide)).mp e9
      omega
    have e1 : oPut z ρ 0 y w v = (0, upd z 11 (ρ 6 + 1), rPut ρ 0 y w v) := if_neg h12
    refine hq1 (by rw [e1]) σ1 (C.1, uPut C.2.1, kOn C.2.2.1 x, C.2.2.2) (RG.ry h1 hc) ?_ (f1.kf hc h1)
    rw [e1, hx, hA, hB, hD]
    exact first_cr hC hV.n6 hQ e
theorem sc_short (hΓ : Ok G κ mX8_changeShort (d + 1) Q X) (hY : RY G σ c a n C) (hV : RV ρ n s) (hC : CR ρ n s C) {x y : Int32} {b : Bool} (hy : y = bI b) (z : Nat → Int32) (hq0 : ¬ (oShort z ρ s x y).1 = 0 → Q (some (.int 0)) σ) (hq1 : (oShort z ρ s x y).1 = 0 → ∀ (σ1 : Hp) (C1 : Ct), RY G σ1 c a n C1 → CR (oShort z ρ s x y).2.2 n s C1 → KF (fun x => x = a) σ c σ1 c → Q (some (.int 1)) σ1) : AW G κ cs ss 0 [lR a, lI x, lI y, none] [] σ := by
  obtain ⟨t, q, p, tr, g, hc⟩ := hY
  obtain ⟨h1, h4, h24⟩ := hV.s4
  have hS : C.1 0 = ρ 1 := hC.1.2.1.symm
  have eS : C.1 0 - 1 = nI (s - 1) := by rw [hS, h1]; exact pk_sub (b := 1) (by omega)
  refine sr_changeShort hΓ g hy ⟨s, hS.trans h1, h4, h24⟩ (fun e => hq0 ?_) (fun e σ1 g1 f1 => ?_)
  · unfold oShort
    rw [if_neg (by unfold rIsS; rw [← hS, e]; decide)]
    exact (show ¬ (1 : Int32) = 0 by decide)
  · have e1 : oShort z ρ s x y = (0, upd z 11 (rCnt (upd ρ (34 + x.toNatClampNeg) y) 34 s), upd ρ (34 + x.toNatClampNeg) y) := if_pos (by unfold rIsS; rw [← hS]; exact e)
    rw [eS] at e
    obtain ⟨k, hk, hx⟩ := rIn_le (by omega) e
    refine hq1 (by rw [e1]) σ1 (sShort C.1 x b, C.2) ⟨t, q, p, tr, g1, hc⟩ ?_ (f1.kf hc g1)
    rw [e1, hx, nI_clamp (by omega), hy]
    exact short_cr hC hV.n6 (by omega) h24
theorem sc_wait (hΓ : Ok G κ mX8_pass (d + 3) Q X) (hY : RY G σ c a n C) (hV : RV ρ n s) (hC : CR ρ n s C) {x : Int32} {k : Nat} (hx : x = nI k) (hk : k < 1000000) (z : Nat → Int32) (hq0 : ¬ (oWait n s z ρ x).1 = 0 → Q (some (.int 0)) σ) (hq1 : (oWait n s z ρ x).1 = 0 → ∀ (σ1 : Hp) (C1 : Ct), RY G σ1 c a n C1 → CR (oWait n s z ρ x).2.2 n s C1 → KF (fun x => x = a) σ c σ1 c → Q (some (.int 1)) σ1) : AW G κ cs ss 0 [lR a, lI x, none, none, none, none, none] [] σ := by
  obtain ⟨t, q, p, tr, g, hc⟩ := hY
  have hS : C.1 4 = ρ 0 := hC.1.1.symm
  obtain ⟨m, hm, h0⟩ := hV.t0
  refine sr_pass hΓ g hx hk (fun e => hq0 ?_) (fun e σ1 g1 f1 => ?_)
  · unfold oWait
    rw [if_pos (by rw [← hS]; exact e)]
    exact (show ¬ (2 : Int32) = 0 by decide)
  · have e2 : ¬ 10000 < ρ 0 + x := by rw [← hS]; exact e
    have e1 : oWait n s z ρ x = (0, upd z 11 (rPsN n s ρ x.toNatClampNeg), rPs n s ρ x.toNatClampNeg) := if_neg e2
    have h3 : m + k ≤ 10000 := by
      rw [h0, hx, nI_add] at e2
      exact Nat.le_of_not_lt (fun e9 => e2 (nI_lt (a := 10000) e9 (by omega)))
    refine hq1 (by rw [e1]) σ1 (cPs n C k) ⟨t, q, p, tr, g1, hc⟩ ?_ (f1.kf hc g1)
    rw [e1, hx, nI_clamp (by omega)]
    exact pass_cr hV hC h0 h3
theorem kI0 (x : Int32) {b : Nat} (hb : b ≤ 28) : kInt x 0 (nI b) = kOf x (nI b) (x ^^^ nI b) := by
  have e : (0 : Int32) <<< ((6 : Int32) &&& 31) ||| nI b = nI b := (by decide : ∀ b : Fin 29, (0 : Int32) <<< ((6 : Int32) &&& 31) ||| nI b.1 = nI b.1) ⟨b, by omega⟩
  unfold kInt
  rw [e]
theorem kI1 (x : Int32) {b : Nat} (hb : b ≤ 15) : kInt x 1 (nI b) = kOf x (64 + nI b) (x ^^^ (64 + nI b)) := by
  have e : (1 : Int32) <<< ((6 : Int32) &&& 31) ||| nI b = 64 + nI b := (by decide : ∀ b : Fin 16, (1 : Int32) <<< ((6 : Int32) &&& 31) ||| nI b.1 = 64 + nI b.1) ⟨b, by omega⟩
  unfold kInt
  rw [e]
theorem kI2 (x : Int32) : kInt x 2 0 = kOf x 128 (x ^^^ 128) := by
  have e : (2 : Int32) <<< ((6 : Int32) &&& 31) ||| 0 = 128 := by decide
  unfold kInt
  rw [e]
end ClassOps
