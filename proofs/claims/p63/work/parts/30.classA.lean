/-! the class: packets, trains -/
abbrev tV (v : Nat → Int32) : List Value := [.int (v 0), .int (v 1), .int (v 2), .int (v 3), .int (v 4), .int (v 5), .int (v 6), .int (v 7), .int (v 8), .int (v 9), .int (v 10), .int (v 11), .int (v 12), .int (v 13), .int (v 14)]
/-- the heap is σ0, but at b stands a train with the numbers v -/
def TB (σ0 : Hp) (b : Nat) (v : Nat → Int32) (σ : Hp) : Prop := σ = hset σ0 b (.inr (9, tV v))
theorem TB.mk {σ : Hp} {b : Nat} {v : Nat → Int32} (h : σ b = some (.inr (9, tV v))) : TB σ b v σ := (hset_id h).symm
theorem TB.o {σ0 σ : Hp} {b : Nat} {v : Nat → Int32} (h : TB σ0 b v σ) : σ b = some (.inr (9, tV v)) := by
  rw [h]; exact hset_same _ _ _
theorem TB.q {σ0 σ : Hp} {b : Nat} {v : Nat → Int32} (h : TB σ0 b v σ) {Q : Hp → Prop} (hq : Q (hset σ0 b (.inr (9, tV v)))) : Q σ := by
  rw [h]; exact hq
theorem tb_put {G : Gl} {κ : Kx} {cs ss pc : Nat} {L : List (Option LV)} {st : List Value} {σ0 σ : Hp} {b : Nat} {v : Nat → Int32} (h : TB σ0 b v σ) {fs : List Value} (v1 : Nat → Int32) (hf : fs = tV v1) (kk : ∀ σ1 : Hp, TB σ0 b v1 σ1 → AW G κ cs ss pc L st σ1) : AW G κ cs ss pc L st (hset σ b (.inr (9, fs))) := by
  subst hf
  refine kk _ ?_
  rw [h, hset_hset]
  rfl
def kA (x : Int32) : Int32 := x >>> ((16 : Int32) &&& 31)
def kC (x : Int32) : Int32 := x >>> ((8 : Int32) &&& 31) &&& 255
def kOf (x c k : Int32) : Int32 := x <<< ((16 : Int32) &&& 31) ||| c <<< ((8 : Int32) &&& 31) ||| k
def kInt (x k c : Int32) : Int32 := kOf x (k <<< ((6 : Int32) &&& 31) ||| c) (x ^^^ (k <<< ((6 : Int32) &&& 31) ||| c))
def kFor (x ad : Int32) : Bool := kA x == 0 || kA x == ad
def kWh (x : Int32) : Bool := ((x >>> ((16 : Int32) &&& 31) ^^^ x >>> ((8 : Int32) &&& 31)) ^^^ x) &&& 255 == 0
def mx (x y : Int32) : Int32 := if x < y then y else x
def mn (x y : Int32) : Int32 := if y < x then y else x
def vObey (c : Int32) (v : Nat → Int32) : Nat → Int32 :=
  if c >>> ((6 : Int32) &&& 31) = 0 then upd v 6 (if c &&& 63 < 28 then c &&& 63 else 28)
  else if c >>> ((6 : Int32) &&& 31) = 1 then upd v 8 ((c &&& 63) - (c &&& 63) / 16 * 16)
  else if c >>> ((6 : Int32) &&& 31) = 2 then upd (upd v 5 0) 6 0 else v
def vRecv (x : Int32) (b : Bool) (v : Nat → Int32) : Nat → Int32 :=
  if kFor x (v 0) = false then v else if b = true then upd v 13 (v 13 + 1) else if kWh x = false then upd v 12 (v 12 + 1) else vObey (kC x) (upd v 11 (v 11 + 1))
def vHas (x : Int32) (b : Bool) (v : Nat → Int32) : Bool := kFor x (v 0) && (!b && kWh x)
def vSil (b : Bool) (v : Nat → Int32) : Nat → Int32 := if b = true then upd v 9 0 else if v 9 + 1 < 40 then upd v 9 (v 9 + 1) else upd (upd v 9 (v 9 + 1)) 6 0
def vDr (v : Nat → Int32) (x : Int32) : Int32 := if 1 ≤ v 2 then x / v 2 else 0
def vAft (v : Nat → Int32) (x : Int32) : Int32 := if 1 ≤ vDr v x then x - vDr v x else x - 1
def vSpd (p : Bool) (v : Nat → Int32) : Nat → Int32 :=
  if p = false then upd v 5 (mx (v 5 - 5) 0) else if v 5 < v 6 then upd v 5 (mn (v 5 + v 1) (v 6)) else if v 6 < v 5 then upd v 5 (mx (vAft v (v 5)) (v 6)) else v
def vBri (p : Bool) (v : Nat → Int32) : Nat → Int32 :=
  if p = false then upd v 7 0 else if v 7 < v 8 then upd v 7 (v 7 + 1) else if v 8 < v 7 then upd v 7 (v 7 - 1) else v
def vEnter (x : Int32) (v : Nat → Int32) : Nat → Int32 := upd (upd (upd v 3 x) 4 (v 4 - 100)) 10 (v 10 + 1)
def vBlock (v : Nat → Int32) : Nat → Int32 := upd (upd (upd v 4 99) 5 0) 14 (v 14 + 1)
def vDec (v : Nat → Int32) : Nat → Int32 → Int32 → Int32
  | 0, _, acc => acc
  | f + 1, s, acc => if 0 < s then vDec v f (vAft v s) (acc + 1) else acc
def vDist (v : Nat → Int32) : Nat → Int32 → Int32 → Int32
  | 0, _, acc => acc
  | f + 1, s, acc => if 0 < s then vDist v f (vAft v s) (acc + vAft v s) else acc
section ClassTrain
variable {G : Gl} {κ : Kx} {d : Nat} {Q : Option Value → Hp → Prop} {X : String → Hp → Prop} {cs ss : Nat} {σ : Hp} {b : Nat} {v : Nat → Int32}
theorem st_of (hΓ : Ok G κ mX5_of (d + 0) Q X) {x c k : Int32} (hq : Q (some (.int (kOf x c k))) σ) : AW G κ cs ss 0 [lI x, lI c, lI k] [] σ := by
  refine sX5_of_0 hΓ rfl ?_
  refine sX5_of_1 hΓ ?_
  refine sX5_of_3 hΓ ?_
  refine sX5_of_4 hΓ rfl ?_
  refine sX5_of_5 hΓ ?_
  refine sX5_of_7 hΓ ?_
  refine sX5_of_8 hΓ ?_
  refine sX5_of_9 hΓ rfl ?_
  refine sX5_of_10 hΓ ?_
  exact sX5_of_11 hΓ hq
theorem st_checkFor (hΓ : Ok G κ mX5_checkFor (d + 0) Q X) {x c : Int32} (hq : Q (some (.int (x ^^^ c))) σ) : AW G κ cs ss 0 [lI x, lI c] [] σ := by
  refine sX5_checkFor_0 hΓ rfl ?_
  refine sX5_checkFor_1 hΓ rfl ?_
  refine sX5_checkFor_2 hΓ ?_
  exact sX5_checkFor_3 hΓ hq
theorem st_intact (hΓ : Ok G κ mX5_intact (d + 1) Q X) {x k c : Int32} (hq : Q (some (.int (kInt x k c))) σ) : AW G κ cs ss 0 [lI x, lI k, lI c, none] [] σ := by
  refine sX5_intact_0 hΓ rfl ?_
  refine sX5_intact_1 hΓ ?_
  refine sX5_intact_3 hΓ ?_
  refine sX5_intact_4 hΓ rfl ?_
  refine sX5_intact_5 hΓ ?_
  refine sX5_intact_6 hΓ ?_
  refine sX5_intact_7 hΓ rfl ?_
  refine sX5_intact_8 hΓ rfl ?_
  refine sX5_intact_9 hΓ rfl ?_
  refine sX5_intact_10 hΓ rfl ?_
  refine sX5_intact_11 hΓ 0 0 (Nat.le_of_ble_eq_true rfl) (fun κ_11 hΓ_11 => st_checkFor hΓ_11 ?_)
  show AW G κ _ _ 14 _ _ _
  refine sX5_intact_14 hΓ 0 0 (Nat.le_of_ble_eq_true rfl) (fun κ_14 hΓ_14 => st_of hΓ_14 ?_)
  show AW G κ _ _ 17 _ _ _
  exact sX5_intact_17 hΓ hq
theorem st_addressOf (hΓ : Ok G κ mX5_addressOf (d + 0) Q X) {x : Int32} (hq : Q (some (.int (kA x))) σ) : AW G κ cs ss 0 [lI x] [] σ := by
  refine sX5_addressOf_0 hΓ rfl ?_
  refine sX5_addressOf_1 hΓ ?_
  refine sX5_addressOf_3 hΓ ?_
  exact sX5_addressOf_4 hΓ hq
theorem st_commandOf (hΓ : Ok G κ mX5_commandOf (d + 0) Q X) {x : Int32} (hq : Q (some (.int (kC x))) σ) : AW G κ cs ss 0 [lI x] [] σ := by
  refine sX5_commandOf_0 hΓ rfl ?_
  refine sX5_commandOf_1 hΓ ?_
  refine sX5_commandOf_3 hΓ ?_
  refine sX5_commandOf_4 hΓ ?_
  refine sX5_commandOf_7 hΓ ?_
  exact sX5_commandOf_8 hΓ hq
theorem st_isWhole (hΓ : Ok G κ mX5_isWhole (d + 0) Q X) {x : Int32} (hq : Q (some (.int (bI (kWh x)))) σ) : AW G κ cs ss 0 [lI x] [] σ := by
  refine sX5_isWhole_0 hΓ rfl ?_
  refine sX5_isWhole_1 hΓ ?_
  refine sX5_isWhole_3 hΓ ?_
  refine sX5_isWhole_4 hΓ rfl ?_
  refine sX5_isWhole_5 hΓ ?_
  refine sX5_isWhole_7 hΓ ?_
  refine sX5_isWhole_8 hΓ ?_
  refine sX5_isWhole_9 hΓ rfl ?_
  refine sX5_isWhole_10 hΓ ?_
  refine sX5_isWhole_11 hΓ ?_
  refine sX5_isWhole_14 hΓ ?_
  refine sX5_isWhole_15 hΓ (fun c15 => ?_) (fun c15 => ?_)
  · rw [show kWh x = false from beq_eq_false_iff_ne.mpr c15] at hq
    refine sX5_isWhole_22 hΓ ?_
    exact sX5_isWhole_23 hΓ (by first | exact Or.inl rfl | exact Or.inr rfl) hq
  · rw [show kWh x = true from beq_iff_eq.mpr c15] at hq
    refine sX5_isWhole_18 hΓ ?_
    refine sX5_isWhole_19 hΓ ?_
    exact sX5_isWhole_23 hΓ (by first | exact Or.inl rfl | exact Or.inr rfl) hq
theorem st_isFor (hΓ : Ok G κ mX5_isFor (d + 0) Q X) {x y : Int32} (hq : Q (some (.int (bI (kFor x y)))) σ) : AW G κ cs ss 0 [lI x, lI y, none] [] σ := by
  refine sX5_isFor_0 hΓ rfl ?_
  refine sX5_isFor_1 hΓ ?_
  refine sX5_isFor_3 hΓ ?_
  refine sX5_isFor_4 hΓ ?_
  refine sX5_isFor_5 hΓ rfl ?_
  refine sX5_isFor_6 hΓ (fun c6 => ?_) (fun c6 => ?_)
  · rw [show kFor x y = true from by rw [kFor, show (kA x == 0) = true from beq_iff_eq.mpr c6]; rfl] at hq
    refine sX5_isFor_14 hΓ ?_
    refine sX5_isFor_15 hΓ ?_
    exact sX5_isFor_19 hΓ (by first | exact Or.inl rfl | exact Or.inr rfl) hq
  · have e6 : (kA x == 0) = false := beq_eq_false_iff_ne.mpr c6
    refine sX5_isFor_9 hΓ rfl ?_
    refine sX5_isFor_10 hΓ rfl ?_
    refine sX5_isFor_11 hΓ (fun c11 => ?_) (fun c11 => ?_)
    · rw [show kFor x y = false from by rw [kFor, e6, show (kA x == y) = false from beq_eq_false_iff_ne.mpr c11]; rfl] at hq
      refine sX5_isFor_18 hΓ ?_
      exact sX5_isFor_19 hΓ (by first | exact Or.inl rfl | exact Or.inr rfl) hq
    · rw [show kFor x y = true from by rw [kFor, e6, show (kA x == y) = true from beq_iff_eq.mpr c11]; rfl] at hq
      refine sX5_isFor_14 hΓ ?_
      refine sX5_isFor_15 hΓ ?_
      exact sX5_isFor_19 hΓ (by first | exact Or.inl rfl | exact Or.inr rfl) hq
theorem st_afterBraking (hΓ : Ok G κ mX11_afterBraking (d + 0) Q X) (h0 : σ b = some (.inr (9, tV v))) {x : Int32} (hq : Q (some (.int (vAft v x))) σ) : AW G κ cs ss 0 [lR b, lI x, none] [] σ := by
  have h := TB.mk h0
  refine sX11_afterBraking_0 hΓ rfl ?_
  refine sX11_afterBraking_1 hΓ h.o rfl ?_
  refine sX11_afterBraking_4 hΓ ?_
  refine sX11_afterBraking_5 hΓ (fun c5 => ?_) (fun c5 => ?_)
  · have e : vDr v x = x / v 2 := if_pos c5
    refine sX11_afterBraking_12 hΓ rfl ?_
    refine sX11_afterBraking_13 hΓ rfl ?_
    refine sX11_afterBraking_14 hΓ h.o rfl ?_
    refine sX11_afterBraking_17 hΓ (fun e0 => absurd c5 (by rw [e0]; decide)) ?_
    refine sX11_afterBraking_18 hΓ ?_
    refine sX11_afterBraking_19 hΓ rfl ?_
    refine sX11_afterBraking_20 hΓ ?_
    refine sX11_afterBraking_21 hΓ (fun c21 => ?_) (fun c21 => ?_)
    · have e2 : vAft v x = x - vDr v x := if_pos (by rw [e]; exact c21)
      rw [e2, e] at hq
      refine sX11_afterBraking_30 hΓ rfl ?_
      refine sX11_afterBraking_31 hΓ rfl ?_
      refine sX11_afterBraking_32 hΓ ?_
      exact sX11_afterBraking_33 hΓ hq
    · have e2 : vAft v x = x - 1 := if_neg (by rw [e]; exact c21)
      rw [e2] at hq
      refine sX11_afterBraking_24 hΓ rfl ?_
      refine sX11_afterBraking_25 hΓ ?_
      refine sX11_afterBraking_26 hΓ ?_
      refine sX11_afterBraking_27 hΓ ?_
      exact sX11_afterBraking_33 hΓ hq
  · have e : vDr v x = 0 := if_neg c5
    refine sX11_afterBraking_8 hΓ ?_
    refine sX11_afterBraking_9 hΓ ?_
    refine sX11_afterBraking_18 hΓ ?_
    refine sX11_afterBraking_19 hΓ rfl ?_
    refine sX11_afterBraking_20 hΓ ?_
    refine sX11_afterBraking_21 hΓ (fun c21 => ?_) (fun c21 => ?_)
    · have e2 : vAft v x = x - vDr v x := if_pos (by rw [e]; exact c21)
      rw [e2, e] at hq
      refine sX11_afterBraking_30 hΓ rfl ?_
      refine sX11_afterBraking_31 hΓ rfl ?_
      refine sX11_afterBraking_32 hΓ ?_
      exact sX11_afterBraking_33 hΓ hq
    · have e2 : vAft v x = x - 1 := if_neg (by rw [e]; exact c21)
      rw [e2] at hq
      refine sX11_afterBraking_24 hΓ rfl ?_
      refine sX11_afterBraking_25 hΓ ?_
      refine sX11_afterBraking_26 hΓ ?_
      refine sX11_afterBraking_27 hΓ ?_
      exact sX11_afterBraking_33 hΓ hq
theorem st_obey (hΓ : Ok G κ mX11_obey (d + 0) Q X) (h0 : σ b = some (.inr (9, tV v))) {c : Int32} (hq : Q none (hset σ b (.inr (9, tV (vObey c v))))) : AW G κ cs ss 0 [lR b, lI c, none, none] [] σ := by
  have h := TB.mk h0
  refine sX11_obey_0 hΓ rfl ?_
  refine sX11_obey_1 hΓ ?_
  refine sX11_obey_3 hΓ ?_
  refine sX11_obey_4 hΓ ?_
  refine sX11_obey_5 hΓ rfl ?_
  refine sX11_obey_6 hΓ ?_
  refine sX11_obey_8 hΓ ?_
  refine sX11_obey_9 hΓ ?_
  refine sX11_obey_10 hΓ rfl ?_
  refine sX11_obey_11 hΓ (fun c11 => ?_) (fun c11 => ?_)
  · refine sX11_obey_33 hΓ rfl ?_
    refine sX11_obey_34 hΓ ?_
    refine sX11_obey_35 hΓ (fun c35 => ?_) (fun c35 => ?_)
    · refine sX11_obey_49 hΓ rfl ?_
      refine sX11_obey_50 hΓ ?_
      refine sX11_obey_51 hΓ (fun c51 => ?_) (fun c51 => ?_)
      · rw [show vObey c v = _ from (if_neg c11).trans ((if_neg c35).trans (if_neg c51))] at hq
        exact sX11_obey_64 hΓ (h.q hq)
      · rw [show vObey c v = _ from (if_neg c11).trans ((if_neg c35).trans (if_pos c51))] at hq
        refine sX11_obey_54 hΓ rfl ?_
        refine sX11_obey_55 hΓ ?_
        refine sX11_obey_56 hΓ h.o  (Nat.le_of_ble_eq_true rfl) (tb_put h (upd v 5 0) rfl (fun σ1 h1 => ?_))
        refine sX11_obey_59 hΓ rfl ?_
        refine sX11_obey_60 hΓ ?_
        refine sX11_obey_61 hΓ h1.o  (Nat.le_of_ble_eq_true rfl) (tb_put h1 (upd (upd v 5 0) 6 0) rfl (fun σ2 h2 => ?_))
        exact sX11_obey_64 hΓ (h2.q hq)
    · rw [show vObey c v = _ from (if_neg c11).trans (if_pos c35)] at hq
      refine sX11_obey_38 hΓ rfl ?_
      refine sX11_obey_39 hΓ rfl ?_
      refine sX11_obey_40 hΓ ?_
      refine sX11_obey_42 hΓ (by decide) ?_
      refine sX11_obey_43 hΓ h.o  (Nat.le_of_ble_eq_true rfl) (tb_put h (upd v 8 ((c &&& 63) - (c &&& 63) / 16 * 16)) rfl (fun σ3 h3 => ?_))
      refine sX11_obey_46 hΓ ?_
      exact sX11_obey_64 hΓ (h3.q hq)
  · rw [show vObey c v = _ from if_pos c11] at hq
    refine sX11_obey_14 hΓ rfl ?_
    refine sX11_obey_15 hΓ rfl ?_
    refine sX11_obey_16 hΓ ?_
    refine sX11_obey_18 hΓ (fun c18 => ?_) (fun c18 => ?_)
    · rw [show (if c &&& 63 < 28 then c &&& 63 else 28) = (28 : Int32) from if_neg (Int32.not_lt.mpr c18)] at hq
      refine sX11_obey_25 hΓ ?_
      refine sX11_obey_27 hΓ h.o  (Nat.le_of_ble_eq_true rfl) (tb_put h (upd v 6 28) rfl (fun σ4 h4 => ?_))
      refine sX11_obey_30 hΓ ?_
      exact sX11_obey_64 hΓ (h4.q hq)
    · rw [show (if c &&& 63 < 28 then c &&& 63 else 28) = c &&& 63 from if_pos (Int32.not_le.mp c18)] at hq
      refine sX11_obey_21 hΓ rfl ?_
      refine sX11_obey_22 hΓ ?_
      refine sX11_obey_27 hΓ h.o  (Nat.le_of_ble_eq_true rfl) (tb_put h (upd v 6 (c &&& 63)) rfl (fun σ5 h5 => ?_))
      refine sX11_obey_30 hΓ ?_
      exact sX11_obey_64 hΓ (h5.q hq)
theorem st_receive (hΓ : Ok G κ mX11_receive (d + 1) Q X) (h0 : σ b = some (.inr (9, tV v))) {x y : Int32} {bt : Bool} (hy : y = bI bt) (hq : Q (some (.int (bI (vHas x bt v)))) (hset σ b (.inr (9, tV (vRecv x bt v))))) : AW G κ cs ss 0 [lR b, lI x, lI y] [] σ := by
  have h := TB.mk h0
  refine sX11_receive_0 hΓ rfl ?_
  refine sX11_receive_1 hΓ rfl ?_
  refine sX11_receive_2 hΓ h.o rfl ?_
  refine sX11_receive_5 hΓ 0 0 (Nat.le_of_ble_eq_true rfl) (fun κ_5 hΓ_5 => st_isFor hΓ_5 ?_)
  show AW G κ _ _ 8 _ _ _
  refine sX11_receive_8 hΓ (fun c8 => ?_) (fun c8 => ?_)
  · have e := bI_n0 c8
    have e0 : ¬ kFor x (v 0) = false := by rw [e]; exact Bool.noConfusion
    refine sX11_receive_13 hΓ rfl ?_
    refine sX11_receive_14 hΓ (fun c14 => ?_) (fun c14 => ?_)
    · have f := bI_0 (hy.symm.trans c14)
      have f0 : ¬ bt = true := by rw [f]; exact Bool.false_ne_true
      refine sX11_receive_29 hΓ rfl ?_
      refine sX11_receive_30 hΓ 0 0 (Nat.le_of_ble_eq_true rfl) (fun κ_30 hΓ_30 => st_isWhole hΓ_30 ?_)
      show AW G κ _ _ 33 _ _ _
      refine sX11_receive_33 hΓ (fun c33 => ?_) (fun c33 => ?_)
      · have g := bI_n0 c33
        rw [show vRecv x bt v = vObey (kC x) (upd v 11 (v 11 + 1)) from (if_neg e0).trans ((if_neg f0).trans (if_neg (by rw [g]; exact Bool.noConfusion))), show vHas x bt v = true by rw [vHas, e, f, g]; rfl] at hq
        refine sX11_receive_48 hΓ rfl ?_
        refine sX11_receive_49 hΓ ?_
        refine sX11_receive_50 hΓ h.o rfl ?_
        refine sX11_receive_53 hΓ ?_
        refine sX11_receive_54 hΓ ?_
        refine sX11_receive_55 hΓ h.o  (Nat.le_of_ble_eq_true rfl) (tb_put h (upd v 11 (v 11 + 1)) rfl (fun σ1 h1 => ?_))
        refine sX11_receive_58 hΓ rfl ?_
        refine sX11_receive_59 hΓ rfl ?_
        refine sX11_receive_60 hΓ 0 0 (Nat.le_of_ble_eq_true rfl) (fun κ_60 hΓ_60 => st_commandOf hΓ_60 ?_)
        show AW G κ _ _ 63 _ _ _
        refine sX11_receive_63 hΓ 0 0 (Nat.le_of_ble_eq_true rfl) h1.o (fun κ_63 hΓ_63 => st_obey hΓ_63 h1.o ?_)
        show AW G κ _ _ 66 _ _ _
        refine sX11_receive_66 hΓ ?_
        exact sX11_receive_67 hΓ (Or.inr rfl) (by rw [h1, hset_hset]; exact hq)
      · have g := bI_0 (c33)
        rw [show vRecv x bt v = upd v 12 (v 12 + 1) from (if_neg e0).trans ((if_neg f0).trans (if_pos g)), show vHas x bt v = false by rw [vHas, e, f, g]; rfl] at hq
        refine sX11_receive_36 hΓ rfl ?_
        refine sX11_receive_37 hΓ ?_
        refine sX11_receive_38 hΓ h.o rfl ?_
        refine sX11_receive_41 hΓ ?_
        refine sX11_receive_42 hΓ ?_
        refine sX11_receive_43 hΓ h.o  (Nat.le_of_ble_eq_true rfl) (tb_put h (upd v 12 (v 12 + 1)) rfl (fun σ3 h3 => ?_))
        refine sX11_receive_46 hΓ ?_
        exact sX11_receive_47 hΓ (Or.inl rfl) (h3.q hq)
    · have f := bI_n0 (fun e9 => c14 (hy.trans e9))
      rw [show vRecv x bt v = upd v 13 (v 13 + 1) from (if_neg e0).trans (if_pos f), show vHas x bt v = false by rw [vHas, f, e]; rfl] at hq
      refine sX11_receive_17 hΓ rfl ?_
      refine sX11_receive_18 hΓ ?_
      refine sX11_receive_19 hΓ h.o rfl ?_
      refine sX11_receive_22 hΓ ?_
      refine sX11_receive_23 hΓ ?_
      refine sX11_receive_24 hΓ h.o  (Nat.le_of_ble_eq_true rfl) (tb_put h (upd v 13 (v 13 + 1)) rfl (fun σ4 h4 => ?_))
      refine sX11_receive_27 hΓ ?_
      exact sX11_receive_28 hΓ (Or.inl rfl) (h4.q hq)
  · have e := bI_0 (c8)
    rw [show vRecv x bt v = v from if_pos e, show vHas x bt v = false by rw [vHas, e]; rfl] at hq
    refine sX11_receive_11 hΓ ?_
    exact sX11_receive_12 hΓ (Or.inl rfl) (h.q hq)
theorem st_countSilence (hΓ : Ok G κ mX11_countSilence (d + 0) Q X) (h0 : σ b = some (.inr (9, tV v))) {y : Int32} {bt : Bool} (hy : y = bI bt) (hq : Q none (hset σ b (.inr (9, tV (vSil bt v))))) : AW G κ cs ss 0 [lR b, lI y] [] σ := by
  have h := TB.mk h0
  refine sX11_countSilence_0 hΓ rfl ?_
  refine sX11_countSilence_1 hΓ (fun c1 => ?_) (fun c1 => ?_)
  · have f0 : ¬ bt = true := by rw [bI_0 (hy.symm.trans c1)]; exact Bool.false_ne_true
    refine sX11_countSilence_10 hΓ rfl ?_
    refine sX11_countSilence_11 hΓ ?_
    refine sX11_countSilence_12 hΓ h.o rfl ?_
    refine sX11_countSilence_15 hΓ ?_
    refine sX11_countSilence_16 hΓ ?_
    refine sX11_countSilence_17 hΓ h.o  (Nat.le_of_ble_eq_true rfl) (tb_put h (upd v 9 (v 9 + 1)) rfl (fun σ1 h1 => ?_))
    refine sX11_countSilence_20 hΓ rfl ?_
    refine sX11_countSilence_21 hΓ h1.o rfl ?_
    refine sX11_countSilence_24 hΓ ?_
    refine sX11_countSilence_26 hΓ (fun c26 => ?_) (fun c26 => ?_)
    · rw [show vSil bt v = upd v 9 (v 9 + 1) from (if_neg f0).trans (if_pos c26)] at hq
      exact sX11_countSilence_34 hΓ (h1.q hq)
    · rw [show vSil bt v = upd (upd v 9 (v 9 + 1)) 6 0 from (if_neg f0).trans (if_neg c26)] at hq
      refine sX11_countSilence_29 hΓ rfl ?_
      refine sX11_countSilence_30 hΓ ?_
      refine sX11_countSilence_31 hΓ h1.o  (Nat.le_of_ble_eq_true rfl) (tb_put h1 (upd (upd v 9 (v 9 + 1)) 6 0) rfl (fun σ2 h2 => ?_))
      exact sX11_countSilence_34 hΓ (h2.q hq)
  · have f := bI_n0 (fun e9 => c1 (hy.trans e9))
    rw [show vSil bt v = upd v 9 0 from if_pos f] at hq
    refine sX11_countSilence_4 hΓ rfl ?_
    refine sX11_countSilence_5 hΓ ?_
    refine sX11_countSilence_6 hΓ h.o  (Nat.le_of_ble_eq_true rfl) (tb_put h (upd v 9 0) rfl (fun σ3 h3 => ?_))
    exact sX11_countSilence_9 hΓ (h3.q hq)
theorem st_changeSpeed (hΓ : Ok G κ mX11_changeSpeed (d + 1) Q X) (h0 : σ b = some (.inr (9, tV v))) {y : Int32} {p : Bool} (hy : y = bI p) (hq : Q none (hset σ b (.inr (9, tV (vSpd p v))))) : AW G κ cs ss 0 [lR b, lI y] [] σ := by
  have h := TB.mk h0
  refine sX11_changeSpeed_0 hΓ rfl ?_
  refine sX11_changeSpeed_1 hΓ (fun c1 => ?_) (fun c1 => ?_)
  · have f0 : ¬ p = false := by rw [bI_n0 (fun e9 => c1 (hy.trans e9))]; exact Bool.noConfusion
    refine sX11_changeSpeed_21 hΓ rfl ?_
    refine sX11_changeSpeed_22 hΓ h.o rfl ?_
    refine sX11_changeSpeed_25 hΓ rfl ?_
    refine sX11_changeSpeed_26 hΓ h.o rfl ?_
    refine sX11_changeSpeed_29 hΓ (fun c29 => ?_) (fun c29 => ?_)
    · refine sX11_changeSpeed_55 hΓ rfl ?_
      refine sX11_changeSpeed_56 hΓ h.o rfl ?_
      refine sX11_changeSpeed_59 hΓ rfl ?_
      refine sX11_changeSpeed_60 hΓ h.o rfl ?_
      refine sX11_changeSpeed_63 hΓ (fun c63 => ?_) (fun c63 => ?_)
      · rw [show vSpd p v = v from (if_neg f0).trans ((if_neg (Int32.not_lt.mpr c29)).trans (if_neg (Int32.not_lt.mpr c63)))] at hq
        exact sX11_changeSpeed_85 hΓ (h.q hq)
      · rw [show vSpd p v = upd v 5 (mx (vAft v (v 5)) (v 6)) from (if_neg f0).trans ((if_neg (Int32.not_lt.mpr c29)).trans (if_pos (Int32.not_le.mp c63)))] at hq
        refine sX11_changeSpeed_66 hΓ rfl ?_
        refine sX11_changeSpeed_67 hΓ rfl ?_
        refine sX11_changeSpeed_68 hΓ rfl ?_
        refine sX11_changeSpeed_69 hΓ h.o rfl ?_
        refine sX11_changeSpeed_72 hΓ 0 0 (Nat.le_of_ble_eq_true rfl) h.o (fun κ_72 hΓ_72 => st_afterBraking hΓ_72 h.o ?_)
        show AW G κ _ _ 75 _ _ _
        refine sX11_changeSpeed_75 hΓ rfl ?_
        refine sX11_changeSpeed_76 hΓ h.o rfl ?_
        refine sX11_changeSpeed_79 hΓ (Nat.le_of_ble_eq_true rfl) ?_
        refine sX11_changeSpeed_82 hΓ h.o  (Nat.le_of_ble_eq_true rfl) (tb_put h (upd v 5 (mx (vAft v (v 5)) (v 6))) rfl (fun σ1 h1 => ?_))
        exact sX11_changeSpeed_85 hΓ (h1.q hq)
    · rw [show vSpd p v = upd v 5 (mn (v 5 + v 1) (v 6)) from (if_neg f0).trans (if_pos (Int32.not_le.mp c29))] at hq
      refine sX11_changeSpeed_32 hΓ rfl ?_
      refine sX11_changeSpeed_33 hΓ rfl ?_
      refine sX11_changeSpeed_34 hΓ h.o rfl ?_
      refine sX11_changeSpeed_37 hΓ rfl ?_
      refine sX11_changeSpeed_38 hΓ h.o rfl ?_
      refine sX11_changeSpeed_41 hΓ ?_
      refine sX11_changeSpeed_42 hΓ rfl ?_
      refine sX11_changeSpeed_43 hΓ h.o rfl ?_
      refine sX11_changeSpeed_46 hΓ (Nat.le_of_ble_eq_true rfl) ?_
      refine sX11_changeSpeed_49 hΓ h.o  (Nat.le_of_ble_eq_true rfl) (tb_put h (upd v 5 (mn (v 5 + v 1) (v 6))) rfl (fun σ2 h2 => ?_))
      refine sX11_changeSpeed_52 hΓ ?_
      exact sX11_changeSpeed_85 hΓ (h2.q hq)
  · rw [show vSpd p v = upd v 5 (mx (v 5 - 5) 0) from if_pos (bI_0 (hy.symm.trans c1))] at hq
    refine sX11_changeSpeed_4 hΓ rfl ?_
    refine sX11_changeSpeed_5 hΓ rfl ?_
    refine sX11_changeSpeed_6 hΓ h.o rfl ?_
    refine sX11_changeSpeed_9 hΓ ?_
    refine sX11_changeSpeed_10 hΓ ?_
    refine sX11_changeSpeed_11 hΓ ?_
    refine sX11_changeSpeed_12 hΓ (Nat.le_of_ble_eq_true rfl) ?_
    refine sX11_changeSpeed_15 hΓ h.o  (Nat.le_of_ble_eq_true rfl) (tb_put h (upd v 5 (mx (v 5 - 5) 0)) rfl (fun σ3 h3 => ?_))
    refine sX11_changeSpeed_18 hΓ ?_
    exact sX11_changeSpeed_85 hΓ (h3.q hq)
theorem st_changeBrightness (hΓ : Ok G κ mX11_changeBrightness (d + 0) Q X) (h0 : σ b = some (.inr (9, tV v))) {y : Int32} {p : Bool} (hy : y = bI p) (hq : Q none (hset σ b (.inr (9, tV (vBri p v))))) : AW G κ cs ss 0 [lR b, lI y] [] σ := by
  have h := TB.mk h0
  refine sX11_changeBrightness_0 hΓ rfl ?_
  refine sX11_changeBrightness_1 hΓ (fun c1 => ?_) (fun c1 => ?_)
  · have f0 : ¬ p = false := by rw [bI_n0 (fun e9 => c1 (hy.trans e9))]; exact Bool.noConfusion
    refine sX11_changeBrightness_12 hΓ rfl ?_
    refine sX11_changeBrightness_13 hΓ h.o rfl ?_
    refine sX11_changeBrightness_16 hΓ rfl ?_
    refine sX11_changeBrightness_17 hΓ h.o rfl ?_
    refine sX11_changeBrightness_20 hΓ (fun c20 => ?_) (fun c20 => ?_)
    · refine sX11_changeBrightness_36 hΓ rfl ?_
      refine sX11_changeBrightness_37 hΓ h.o rfl ?_
      refine sX11_changeBrightness_40 hΓ rfl ?_
      refine sX11_changeBrightness_41 hΓ h.o rfl ?_
      refine sX11_changeBrightness_44 hΓ (fun c44 => ?_) (fun c44 => ?_)
      · rw [show vBri p v = v from (if_neg f0).trans ((if_neg (Int32.not_lt.mpr c20)).trans (if_neg (Int32.not_lt.mpr c44)))] at hq
        exact sX11_changeBrightness_57 hΓ (h.q hq)
      · rw [show vBri p v = upd v 7 (v 7 - 1) from (if_neg f0).trans ((if_neg (Int32.not_lt.mpr c20)).trans (if_pos (Int32.not_le.mp c44)))] at hq
        refine sX11_changeBrightness_47 hΓ rfl ?_
        refine sX11_changeBrightness_48 hΓ ?_
        refine sX11_changeBrightness_49 hΓ h.o rfl ?_
        refine sX11_changeBrightness_52 hΓ ?_
        refine sX11_changeBrightness_53 hΓ ?_
        refine sX11_changeBrightness_54 hΓ h.o  (Nat.le_of_ble_eq_true rfl) (tb_put h (upd v 7 (v 7 - 1)) rfl (fun σ1 h1 => ?_))
        exact sX11_changeBrightness_57 hΓ (h1.q hq)
    · rw [show vBri p v = upd v 7 (v 7 + 1) from (if_neg f0).trans (if_pos (Int32.not_le.mp c20))] at hq
      refine sX11_changeBrightness_23 hΓ rfl ?_
      refine sX11_changeBrightness_24 hΓ ?_
      refine sX11_changeBrightness_25 hΓ h.o rfl ?_
      refine sX11_changeBrightness_28 hΓ ?_
      refine sX11_changeBrightness_29 hΓ ?_
      refine sX11_changeBrightness_30 hΓ h.o  (Nat.le_of_ble_eq_true rfl) (tb_put h (upd v 7 (v 7 + 1)) rfl (fun σ2 h2 => ?_))
      refine sX11_changeBrightness_33 hΓ ?_
      exact sX11_changeBrightness_57 hΓ (h2.q hq)
  · rw [show vBri p v = upd v 7 0 from if_pos (bI_0 (hy.symm.trans c1))] at hq
    refine sX11_changeBrightness_4 hΓ rfl ?_
    refine sX11_changeBrightness_5 hΓ ?_
    refine sX11_changeBrightness_6 hΓ h.o  (Nat.le_of_ble_eq_true rfl) (tb_put h (upd v 7 0) rfl (fun σ3 h3 => ?_))
    refine sX11_changeBrightness_9 hΓ ?_
    exact sX11_changeBrightness_57 hΓ (h3.q hq)
theorem st_isAtSectionEnd (hΓ : Ok G κ mX11_isAtSectionEnd (d + 0) Q X) (h0 : σ b = some (.inr (9, tV v))) (hq : Q (some (.int (bI (!decide (v 4 < 100))))) σ) : AW G κ cs ss 0 [lR b] [] σ := by
  have h := TB.mk h0
  refine sX11_isAtSectionEnd_0 hΓ rfl ?_
  refine sX11_isAtSectionEnd_1 hΓ h.o rfl ?_
  refine sX11_isAtSectionEnd_4 hΓ ?_
  refine sX11_isAtSectionEnd_6 hΓ (fun c6 => ?_) (fun c6 => ?_)
  · rw [decide_eq_true c6] at hq
    refine sX11_isAtSectionEnd_13 hΓ ?_
    exact sX11_isAtSectionEnd_14 hΓ (by first | exact Or.inl rfl | exact Or.inr rfl) hq
  · rw [decide_eq_false c6] at hq
    refine sX11_isAtSectionEnd_9 hΓ ?_
    refine sX11_isAtSectionEnd_10 hΓ ?_
    exact sX11_isAtSectionEnd_14 hΓ (by first | exact Or.inl rfl | exact Or.inr rfl) hq
theorem st_enter (hΓ : Ok G κ mX11_enter (d + 0) Q X) (h0 : σ b = some (.inr (9, tV v))) {x : Int32} (hq : Q none (hset σ b (.inr (9, tV (vEnter x v))))) : AW G κ cs ss 0 [lR b, lI x] [] σ := by
  have h := TB.mk h0
  refine sX11_enter_0 hΓ rfl ?_
  refine sX11_enter_1 hΓ rfl ?_
  refine sX11_enter_2 hΓ h.o  (Nat.le_of_ble_eq_true rfl) (tb_put h (upd v 3 x) rfl (fun σ1 h1 => ?_))
  refine sX11_enter_5 hΓ rfl ?_
  refine sX11_enter_6 hΓ ?_
  refine sX11_enter_7 hΓ h1.o rfl ?_
  refine sX11_enter_10 hΓ ?_
  refine sX11_enter_12 hΓ ?_
  refine sX11_enter_13 hΓ h1.o  (Nat.le_of_ble_eq_true rfl) (tb_put h1 (upd (upd v 3 x) 4 (v 4 - 100)) rfl (fun σ2 h2 => ?_))
  refine sX11_enter_16 hΓ rfl ?_
  refine sX11_enter_17 hΓ ?_
  refine sX11_enter_18 hΓ h2.o rfl ?_
  refine sX11_enter_21 hΓ ?_
  refine sX11_enter_22 hΓ ?_
  refine sX11_enter_23 hΓ h2.o  (Nat.le_of_ble_eq_true rfl) (tb_put h2 (vEnter x v) rfl (fun σ3 h3 => ?_))
  exact sX11_enter_26 hΓ (h3.q hq)
theorem st_block (hΓ : Ok G κ mX11_block (d + 0) Q X) (h0 : σ b = some (.inr (9, tV v))) (hq : Q none (hset σ b (.inr (9, tV (vBlock v))))) : AW G κ cs ss 0 [lR b] [] σ := by
  have h := TB.mk h0
  refine sX11_block_0 hΓ rfl ?_
  refine sX11_block_1 hΓ ?_
  refine sX11_block_3 hΓ h.o  (Nat.le_of_ble_eq_true rfl) (tb_put h (upd v 4 99) rfl (fun σ1 h1 => ?_))
  refine sX11_block_6 hΓ rfl ?_
  refine sX11_block_7 hΓ ?_
  refine sX11_block_8 hΓ h1.o  (Nat.le_of_ble_eq_true rfl) (tb_put h1 (upd (upd v 4 99) 5 0) rfl (fun σ2 h2 => ?_))
  refine sX11_block_11 hΓ rfl ?_
  refine sX11_block_12 hΓ ?_
  refine sX11_block_13 hΓ h2.o rfl ?_
  refine sX11_block_16 hΓ ?_
  refine sX11_block_17 hΓ ?_
  refine sX11_block_18 hΓ h2.o  (Nat.le_of_ble_eq_true rfl) (tb_put h2 (vBlock v) rfl (fun σ3 h3 => ?_))
  exact sX11_block_21 hΓ (h3.q hq)
theorem st_received (hΓ : Ok G κ mX11_received (d + 0) Q X) (h0 : σ b = some (.inr (9, tV v))) (hq : Q (some (.int (v 11 + v 12 + v 13))) σ) : AW G κ cs ss 0 [lR b] [] σ := by
  have h := TB.mk h0
  refine sX11_received_0 hΓ rfl ?_
  refine sX11_received_1 hΓ h.o rfl ?_
  refine sX11_received_4 hΓ rfl ?_
  refine sX11_received_5 hΓ h.o rfl ?_
  refine sX11_received_8 hΓ ?_
  refine sX11_received_9 hΓ rfl ?_
  refine sX11_received_10 hΓ h.o rfl ?_
  refine sX11_received_13 hΓ ?_
  exact sX11_received_14 hΓ hq
theorem st_decreasesToStop (hΓ : Ok G κ mX11_decreasesToStop (d + 1) Q X) (h0 : σ b = some (.inr (9, tV v))) (hq : Q (some (.int (vDec v 28 (v 5) 0))) σ) : AW G κ cs ss 0 [lR b, none, none] [] σ := by
  have h := TB.mk h0
  suffices loop : ∀ (f i : Nat) (u s : Int32), i + f = 28 → u = nI i → Q (some (.int (vDec v f s u))) σ → AW G κ cs ss 7 [lR b, lI u, lI s] [] σ by
    refine sX11_decreasesToStop_0 hΓ ?_
    refine sX11_decreasesToStop_1 hΓ ?_
    refine sX11_decreasesToStop_2 hΓ rfl ?_
    refine sX11_decreasesToStop_3 hΓ h.o rfl ?_
    refine sX11_decreasesToStop_6 hΓ ?_
    exact loop 28 0 _ _ rfl rfl hq
  intro f
  induction f with
  | zero =>
    intro i u s hi hu hq
    have ei : i = 28 := by omega
    subst ei
    subst hu
    refine sX11_decreasesToStop_7 hΓ rfl ?_
    refine sX11_decreasesToStop_8 hΓ (fun c8 => ?_) (fun c8 => ?_)
    · refine sX11_decreasesToStop_29 hΓ rfl ?_
      exact sX11_decreasesToStop_30 hΓ hq
    · refine sX11_decreasesToStop_11 hΓ rfl ?_
      refine sX11_decreasesToStop_12 hΓ ?_
      refine sX11_decreasesToStop_14 hΓ (fun c14 => ?_) (fun c14 => absurd (by decide) c14)
      refine sX11_decreasesToStop_29 hΓ rfl ?_
      exact sX11_decreasesToStop_30 hΓ hq
  | succ f ih =>
    intro i u s hi hu hq
    refine sX11_decreasesToStop_7 hΓ rfl ?_
    refine sX11_decreasesToStop_8 hΓ (fun c8 => ?_) (fun c8 => ?_)
    · rw [show vDec v (f + 1) s u = u from if_neg (Int32.not_lt.mpr c8)] at hq
      refine sX11_decreasesToStop_29 hΓ rfl ?_
      exact sX11_decreasesToStop_30 hΓ hq
    · rw [show vDec v (f + 1) s u = vDec v f (vAft v s) (u + 1) from if_pos (Int32.not_le.mp c8)] at hq
      refine sX11_decreasesToStop_11 hΓ rfl ?_
      refine sX11_decreasesToStop_12 hΓ ?_
      refine sX11_decreasesToStop_14 hΓ (fun c14 => absurd c14 (lp_in hu (n := 28) rfl (by omega) (by decide))) (fun c14 => ?_)
      refine sX11_decreasesToStop_17 hΓ rfl ?_
      refine sX11_decreasesToStop_20 hΓ rfl ?_
      refine sX11_decreasesToStop_21 hΓ rfl ?_
      refine sX11_decreasesToStop_22 hΓ 0 0 (Nat.le_of_ble_eq_true rfl) h.o (fun κ_22 hΓ_22 => st_afterBraking hΓ_22 h.o ?_)
      show AW G κ _ _ 25 _ _ _
      refine sX11_decreasesToStop_25 hΓ ?_
      refine sX11_decreasesToStop_26 hΓ ?_
      exact ih (i + 1) _ _ (by omega) (lp_1 hu) hq
theorem st_distanceToStop (hΓ : Ok G κ mX11_distanceToStop (d + 1) Q X) (h0 : σ b = some (.inr (9, tV v))) (hq : Q (some (.int (vDist v 28 (v 5) 0))) σ) : AW G κ cs ss 0 [lR b, none, none, none] [] σ := by
  have h := TB.mk h0
  suffices loop : ∀ (f i : Nat) (u s x : Int32), i + f = 28 → x = nI i → Q (some (.int (vDist v f s u))) σ → AW G κ cs ss 9 [lR b, lI u, lI s, lI x] [] σ by
    refine sX11_distanceToStop_0 hΓ ?_
    refine sX11_distanceToStop_1 hΓ ?_
    refine sX11_distanceToStop_2 hΓ rfl ?_
    refine sX11_distanceToStop_3 hΓ h.o rfl ?_
    refine sX11_distanceToStop_6 hΓ ?_
    refine sX11_distanceToStop_7 hΓ ?_
    refine sX11_distanceToStop_8 hΓ ?_
    exact loop 28 0 _ _ _ rfl rfl hq
  intro f
  induction f with
  | zero =>
    intro i u s x hi hu hq
    have ei : i = 28 := by omega
    subst ei
    subst hu
    refine sX11_distanceToStop_9 hΓ rfl ?_
    refine sX11_distanceToStop_10 hΓ (fun c10 => ?_) (fun c10 => ?_)
    · refine sX11_distanceToStop_35 hΓ rfl ?_
      exact sX11_distanceToStop_36 hΓ hq
    · refine sX11_distanceToStop_13 hΓ rfl ?_
      refine sX11_distanceToStop_14 hΓ ?_
      refine sX11_distanceToStop_16 hΓ (fun c16 => ?_) (fun c16 => absurd (by decide) c16)
      refine sX11_distanceToStop_35 hΓ rfl ?_
      exact sX11_distanceToStop_36 hΓ hq
  | succ f ih =>
    intro i u s x hi hu hq
    refine sX11_distanceToStop_9 hΓ rfl ?_
    refine sX11_distanceToStop_10 hΓ (fun c10 => ?_) (fun c10 => ?_)
    · rw [show vDist v (f + 1) s u = u from if_neg (Int32.not_lt.mpr c10)] at hq
      refine sX11_distanceToStop_35 hΓ rfl ?_
      exact sX11_distanceToStop_36 hΓ hq
    · rw [show vDist v (f + 1) s u = vDist v f (vAft v s) (u + vAft v s) from if_pos (Int32.not_le.mp c10)] at hq
      refine sX11_distanceToStop_13 hΓ rfl ?_
      refine sX11_distanceToStop_14 hΓ ?_
      refine sX11_distanceToStop_16 hΓ (fun c16 => absurd c16 (lp_in hu (n := 28) rfl (by omega) (by decide))) (fun c16 => ?_)
      refine sX11_distanceToStop_19 hΓ rfl ?_
      refine sX11_distanceToStop_20 hΓ rfl ?_
      refine sX11_distanceToStop_21 hΓ 0 0 (Nat.le_of_ble_eq_true rfl) h.o (fun κ_21 hΓ_21 => st_afterBraking hΓ_21 h.o ?_)
      show AW G κ _ _ 24 _ _ _
      refine sX11_distanceToStop_24 hΓ ?_
      refine sX11_distanceToStop_25 hΓ rfl ?_
      refine sX11_distanceToStop_26 hΓ rfl ?_
      refine sX11_distanceToStop_27 hΓ ?_
      refine sX11_distanceToStop_28 hΓ ?_
      refine sX11_distanceToStop_29 hΓ rfl ?_
      refine sX11_distanceToStop_32 hΓ ?_
      exact ih (i + 1) _ _ _ (by omega) (lp_1 hu) hq
theorem st_copyFrom (hΓ : Ok G κ mX11_copyFrom (d + 0) Q X) (h0 : σ b = some (.inr (9, tV v))) {c : Nat} {u : Nat → Int32} (hcb : c ≠ b) (hc : σ c = some (.inr (9, tV u))) (hq : Q none (hset σ b (.inr (9, tV (u))))) : AW G κ cs ss 0 [lR b, lR c] [] σ := by
  have h := TB.mk h0
  refine sX11_copyFrom_0 hΓ rfl ?_
  refine sX11_copyFrom_1 hΓ rfl ?_
  refine sX11_copyFrom_2 hΓ (by rw [h, hset_ne hcb]; exact hc) rfl ?_
  refine sX11_copyFrom_5 hΓ h.o  (Nat.le_of_ble_eq_true rfl) (tb_put h (upd v 0 (u 0)) rfl (fun σ1 h1 => ?_))
  refine sX11_copyFrom_8 hΓ rfl ?_
  refine sX11_copyFrom_9 hΓ rfl ?_
  refine sX11_copyFrom_10 hΓ (by rw [h1, hset_ne hcb]; exact hc) rfl ?_
  refine sX11_copyFrom_13 hΓ h1.o  (Nat.le_of_ble_eq_true rfl) (tb_put h1 (upd (upd v 0 (u 0)) 1 (u 1)) rfl (fun σ2 h2 => ?_))
  refine sX11_copyFrom_16 hΓ rfl ?_
  refine sX11_copyFrom_17 hΓ rfl ?_
  refine sX11_copyFrom_18 hΓ (by rw [h2, hset_ne hcb]; exact hc) rfl ?_
  refine sX11_copyFrom_21 hΓ h2.o  (Nat.le_of_ble_eq_true rfl) (tb_put h2 (upd (upd (upd v 0 (u 0)) 1 (u 1)) 2 (u 2)) rfl (fun σ3 h3 => ?_))
  refine sX11_copyFrom_24 hΓ rfl ?_
  refine sX11_copyFrom_25 hΓ rfl ?_
  refine sX11_copyFrom_26 hΓ (by rw [h3, hset_ne hcb]; exact hc) rfl ?_
  refine sX11_copyFrom_29 hΓ h3.o  (Nat.le_of_ble_eq_true rfl) (tb_put h3 (upd (upd (upd (upd v 0 (u 0)) 1 (u 1)) 2 (u 2)) 3 (u 3)) rfl (fun σ4 h4 => ?_))
  refine sX11_copyFrom_32 hΓ rfl ?_
  refine sX11_copyFrom_33 hΓ rfl ?_
  refine sX11_copyFrom_34 hΓ (by rw [h4, hset_ne hcb]; exact hc) rfl ?_
  refine sX11_copyFrom_37 hΓ h4.o  (Nat.le_of_ble_eq_true rfl) (tb_put h4 (upd (upd (upd (upd (upd v 0 (u 0)) 1 (u 1)) 2 (u 2)) 3 (u 3)) 4 (u 4)) rfl (fun σ5 h5 => ?_))
  refine sX11_copyFrom_40 hΓ rfl ?_
  refine sX11_copyFrom_41 hΓ rfl ?_
  refine sX11_copyFrom_42 hΓ (by rw [h5, hset_ne hcb]; exact hc) rfl ?_
  refine sX11_copyFrom_45 hΓ h5.o  (Nat.le_of_ble_eq_true rfl) (tb_put h5 (upd (upd (upd (upd (upd (upd v 0 (u 0)) 1 (u 1)) 2 (u 2)) 3 (u 3)) 4 (u 4)) 5 (u 5)) rfl (fun σ6 h6 => ?_))
  refine sX11_copyFrom_48 hΓ rfl ?_
  refine sX11_copyFrom_49 hΓ rfl ?_
  refine sX11_copyFrom_50 hΓ (by rw [h6, hset_ne hcb]; exact hc) rfl ?_
  refine sX11_copyFrom_53 hΓ h6.o  (Nat.le_of_ble_eq_true rfl) (tb_put h6 (upd (upd (upd (upd (upd (upd (upd v 0 (u 0)) 1 (u 1)) 2 (u 2)) 3 (u 3)) 4 (u 4)) 5 (u 5)) 6 (u 6)) rfl (fun σ7 h7 => ?_))
  refine sX11_copyFrom_56 hΓ rfl ?_
  refine sX11_copyFrom_57 hΓ rfl ?_
  refine sX11_copyFrom_58 hΓ (by rw [h7, hset_ne hcb]; exact hc) rfl ?_
  refine sX11_copyFrom_61 hΓ h7.o  (Nat.le_of_ble_eq_true rfl) (tb_put h7 (upd (upd (upd (upd (upd (upd (upd (upd v 0 (u 0)) 1 (u 1)) 2 (u 2)) 3 (u 3)) 4 (u 4)) 5 (u 5)) 6 (u 6)) 7 (u 7)) rfl (fun σ8 h8 => ?_))
  refine sX11_copyFrom_64 hΓ rfl ?_
  refine sX11_copyFrom_65 hΓ rfl ?_
  refine sX11_copyFrom_66 hΓ (by rw [h8, hset_ne hcb]; exact hc) rfl ?_
  refine sX11_copyFrom_69 hΓ h8.o  (Nat.le_of_ble_eq_true rfl) (tb_put h8 (upd (upd (upd (upd (upd (upd (upd (upd (upd v 0 (u 0)) 1 (u 1)) 2 (u 2)) 3 (u 3)) 4 (u 4)) 5 (u 5)) 6 (u 6)) 7 (u 7)) 8 (u 8)) rfl (fun σ9 h9 => ?_))
  refine sX11_copyFrom_72 hΓ rfl ?_
  refine sX11_copyFrom_73 hΓ rfl ?_
  refine sX11_copyFrom_74 hΓ (by rw [h9, hset_ne hcb]; exact hc) rfl ?_
  refine sX11_copyFrom_77 hΓ h9.o  (Nat.le_of_ble_eq_true rfl) (tb_put h9 (upd (upd (upd (upd (upd (upd (upd (upd (upd (upd v 0 (u 0)) 1 (u 1)) 2 (u 2)) 3 (u 3)) 4 (u 4)) 5 (u 5)) 6 (u 6)) 7 (u 7)) 8 (u 8)) 9 (u 9)) rfl (fun σ10 h10 => ?_))
  refine sX11_copyFrom_80 hΓ rfl ?_
  refine sX11_copyFrom_81 hΓ rfl ?_
  refine sX11_copyFrom_82 hΓ (by rw [h10, hset_ne hcb]; exact hc) rfl ?_
  refine sX11_copyFrom_85 hΓ h10.o  (Nat.le_of_ble_eq_true rfl) (tb_put h10 (upd (upd (upd (upd (upd (upd (upd (upd (upd (upd (upd v 0 (u 0)) 1 (u 1)) 2 (u 2)) 3 (u 3)) 4 (u 4)) 5 (u 5)) 6 (u 6)) 7 (u 7)) 8 (u 8)) 9 (u 9)) 10 (u 10)) rfl (fun σ11 h11 => ?_))
  refine sX11_copyFrom_88 hΓ rfl ?_
  refine sX11_copyFrom_89 hΓ rfl ?_
  refine sX11_copyFrom_90 hΓ (by rw [h11, hset_ne hcb]; exact hc) rfl ?_
  refine sX11_copyFrom_93 hΓ h11.o  (Nat.le_of_ble_eq_true rfl) (tb_put h11 (upd (upd (upd (upd (upd (upd (upd (upd (upd (upd (upd (upd v 0 (u 0)) 1 (u 1)) 2 (u 2)) 3 (u 3)) 4 (u 4)) 5 (u 5)) 6 (u 6)) 7 (u 7)) 8 (u 8)) 9 (u 9)) 10 (u 10)) 11 (u 11)) rfl (fun σ12 h12 => ?_))
  refine sX11_copyFrom_96 hΓ rfl ?_
  refine sX11_copyFrom_97 hΓ rfl ?_
  refine sX11_copyFrom_98 hΓ (by rw [h12, hset_ne hcb]; exact hc) rfl ?_
  refine sX11_copyFrom_101 hΓ h12.o  (Nat.le_of_ble_eq_true rfl) (tb_put h12 (upd (upd (upd (upd (upd (upd (upd (upd (upd (upd (upd (upd (upd v 0 (u 0)) 1 (u 1)) 2 (u 2)) 3 (u 3)) 4 (u 4)) 5 (u 5)) 6 (u 6)) 7 (u 7)) 8 (u 8)) 9 (u 9)) 10 (u 10)) 11 (u 11)) 12 (u 12)) rfl (fun σ13 h13 => ?_))
  refine sX11_copyFrom_104 hΓ rfl ?_
  refine sX11_copyFrom_105 hΓ rfl ?_
  refine sX11_copyFrom_106 hΓ (by rw [h13, hset_ne hcb]; exact hc) rfl ?_
  refine sX11_copyFrom_109 hΓ h13.o  (Nat.le_of_ble_eq_true rfl) (tb_put h13 (upd (upd (upd (upd (upd (upd (upd (upd (upd (upd (upd (upd (upd (upd v 0 (u 0)) 1 (u 1)) 2 (u 2)) 3 (u 3)) 4 (u 4)) 5 (u 5)) 6 (u 6)) 7 (u 7)) 8 (u 8)) 9 (u 9)) 10 (u 10)) 11 (u 11)) 12 (u 12)) 13 (u 13)) rfl (fun σ14 h14 => ?_))
  refine sX11_copyFrom_112 hΓ rfl ?_
  refine sX11_copyFrom_113 hΓ rfl ?_
  refine sX11_copyFrom_114 hΓ (by rw [h14, hset_ne hcb]; exact hc) rfl ?_
  refine sX11_copyFrom_117 hΓ h14.o  (Nat.le_of_ble_eq_true rfl) (tb_put h14 (upd (upd (upd (upd (upd (upd (upd (upd (upd (upd (upd (upd (upd (upd (upd v 0 (u 0)) 1 (u 1)) 2 (u 2)) 3 (u 3)) 4 (u 4)) 5 (u 5)) 6 (u 6)) 7 (u 7)) 8 (u 8)) 9 (u 9)) 10 (u 10)) 11 (u 11)) 12 (u 12)) 13 (u 13)) 14 (u 14)) rfl (fun σ15 h15 => ?_))
  exact sX11_copyFrom_120 hΓ (by rw [h15, show tV (upd (upd (upd (upd (upd (upd (upd (upd (upd (upd (upd (upd (upd (upd (upd v 0 (u 0)) 1 (u 1)) 2 (u 2)) 3 (u 3)) 4 (u 4)) 5 (u 5)) 6 (u 6)) 7 (u 7)) 8 (u 8)) 9 (u 9)) 10 (u 10)) 11 (u 11)) 12 (u 12)) 13 (u 13)) 14 (u 14)) = tV u from rfl]; exact hq)
theorem st_tInit (hΓ : Ok G κ mX11_init (d + 1) Q X) (hq : Q none σ) : AW G κ cs ss 0 [lR b] [] σ := by
  refine sX11_init_0 hΓ rfl ?_
  refine sX11_init_1 hΓ (Nat.le_of_ble_eq_true rfl) ?_
  exact sX11_init_4 hΓ hq
end ClassTrain
