/-! the class's railway and the reference's row: a tick, whole -/
theorem fsB_cg {p q : Nat → Bool} : ∀ {n : Nat}, (∀ k, k < n → p k = q k) → fsB p n = fsB q n
  | n, h => by
    cases e : fsB p n with
    | none => exact (fsB_none q (fun k hk => (h k hk).symm.trans (fsB_ne p e k hk))).symm
    | some i =>
      obtain ⟨h1, h2, h3⟩ := fsB_lt p e
      exact (fsB_some q ((h i h1).symm.trans h2) (fun j hj => (h j (by omega)).symm.trans (h3 j hj)) h1).symm
theorem bk_eq {ρ ρ1 : Nat → Int32} {b : Nat} {x : Int32} (h : bk ρ b x) (e : ∀ j, j < 24 → ρ1 (b + j) = ρ (b + j)) : bk ρ1 b x := by
  obtain ⟨m, h1, h2, h3⟩ := h
  exact ⟨m, h1, h2, fun j hj => by rw [e j hj]; exact h3 j hj⟩
theorem add_tw {ρ : Nat → Int32} {k w : Nat} {v : Int32} (hw : w < 15) : tw (rAdd ρ k w v) k = upd (tw ρ k) w (tw ρ k w + v) := by
  unfold rAdd
  rw [tw_same hw, tw_at hw]
theorem add_ne {ρ : Nat → Int32} {k w j : Nat} {v : Int32} (hw : w < 15) (hj : j ≠ k) : tw (rAdd ρ k w v) j = tw ρ j := tw_ne hw hj
theorem recv_tw {ρ : Nat → Int32} {k a b c : Nat} (ha : a ≤ 255) (hb : b ≤ 255) (hc : c ≤ 255) (e0 : ρ 148 = nI a) (e1 : ρ 149 = nI b) (e2 : ρ 150 = nI c) {x : Int32} (hx : x = kOf (nI a) (nI b) (nI c)) {bt : Bool} (hbt : bt = (ρ (10 + rSec ρ k) == 1)) : rFor ρ 0 k = kFor x (tw ρ k 0) ∧ (rFor ρ 0 k = true → tw (rRecv ρ k) k = vRecv x bt (tw ρ k) ∧ ∀ η : Nat → Int32, rRecvH ρ η k = if vHas x bt (tw ρ k) = true then upd η k 1 else η) := by
  subst hx
  have hA := kA_of (a := a) (b := b) (c := c) (by omega) (by omega) (by omega)
  have hC := kC_of (a := a) (b := b) (c := c) (by omega) (by omega) (by omega)
  have hW := kW_of (a := a) (b := b) (c := c) (by omega) (by omega) (by omega)
  have hF : rFor ρ 0 k = kFor (kOf (nI a) (nI b) (nI c)) (tw ρ k 0) := by
    unfold kFor
    rw [hA, tw_at (by decide)]
    show ((ρ 148 == 0) || (ρ 148 == ρ (58 + 15 * k + 0))) = _
    rw [e0]
  have hWr : rWhole ρ 0 = kWh (kOf (nI a) (nI b) (nI c)) := by
    show ((ρ 148 ^^^ ρ 149) == ρ 150) = _
    rw [e0, e1, e2, hW]
  refine ⟨hF, fun hf => ?_⟩
  have hf2 := hF.symm.trans hf
  unfold vRecv vHas rRecv rRecvH
  rw [hf2, ← hWr]
  by_cases c1 : ρ (10 + rSec ρ k) = 1
  · have eb : bt = true := by rw [hbt]; exact beq_iff_eq.mpr c1
    rw [eb, if_pos c1]
    refine ⟨add_tw (by decide), fun η => ?_⟩
    rw [if_pos c1]
    rfl
  · have eb : bt = false := by rw [hbt]; exact beq_eq_false_iff_ne.mpr c1
    rw [eb, if_neg c1]
    by_cases c2 : rWhole ρ 0 = true
    · rw [c2, e1, hC]
      refine ⟨obey_tw hb, fun η => ?_⟩
      rw [if_neg c1]
      rfl
    · rw [Bool.eq_false_iff.mpr c2]
      refine ⟨add_tw (by decide), fun η => ?_⟩
      rw [if_neg c1]
      rfl
theorem obey0_ne {ρ : Nat → Int32} {k j : Nat} {c : Int32} (hj : j ≠ k) : tw (rObey0 ρ k c) j = tw ρ j := by
  unfold rObey0
  split
  · exact tw_ne (by decide) hj
  · split
    · exact tw_ne (by decide) hj
    · split
      · rw [tw_ne (by decide) hj, tw_ne (by decide) hj]
      · rfl
theorem recv_ne {ρ : Nat → Int32} {k j : Nat} (hj : j ≠ k) : tw (rRecv ρ k) j = tw ρ j := by
  unfold rRecv
  split
  · exact add_ne (by decide) hj
  · split
    · exact (add_ne (by decide) hj).trans (obey0_ne hj)
    · exact add_ne (by decide) hj
theorem listen_tw {ρ η : Nat → Int32} {k : Nat} : tw (rListen ρ η k) k = vSil (η k == 1) (tw ρ k) := by
  unfold rListen vSil
  by_cases c : η k = 1
  · rw [if_pos c, if_neg (show ¬ (40 : Int32) ≤ 0 by decide), beq_iff_eq.mpr c, tw_same (by decide)]
    rfl
  · rw [if_neg c, beq_eq_false_iff_ne.mpr c, tw_at (by decide)]
    rw [if_neg Bool.false_ne_true]
    by_cases c1 : ρ (58 + 15 * k + 9) + 1 < 40
    · rw [if_pos c1, if_neg (Int32.not_le.mpr c1), tw_same (by decide)]
    · rw [if_neg c1, if_pos (Int32.not_lt.mp c1), tw_same (by decide), tw_same (by decide)]
theorem listen_ne {ρ η : Nat → Int32} {k j : Nat} (hj : j ≠ k) : tw (rListen ρ η k) j = tw ρ j := by
  unfold rListen
  generalize (if η k = 1 then (0 : Int32) else ρ (58 + 15 * k + 9) + 1) = u
  split
  · rw [tw_ne (by decide) hj, tw_ne (by decide) hj]
  · exact tw_ne (by decide) hj
theorem speed_tw {ρ : Nat → Int32} {k v : Nat} (hv : ρ (58 + 15 * k + 2) = nI v) (h1 : 1 ≤ v) (h9 : v ≤ 9) : tw (rSpeed ρ k) k = vSpd (ρ 4 == 0) (tw ρ k) := by
  unfold rSpeed
  rw [tw_same (by decide)]
  unfold rNewSpeed vSpd
  rw [tw_at (show 5 < 15 by decide), tw_at (show 6 < 15 by decide), tw_at (show 1 < 15 by decide)]
  by_cases c : ρ 4 = 0
  · rw [if_neg (Decidable.not_not.mpr c), beq_iff_eq.mpr c, if_neg (show ¬ true = false from Bool.noConfusion)]
    by_cases c1 : ρ (58 + 15 * k + 5) < ρ (58 + 15 * k + 6)
    · rw [if_pos c1, if_pos c1]
      rfl
    · rw [if_neg c1, if_neg c1]
      by_cases c2 : ρ (58 + 15 * k + 6) < ρ (58 + 15 * k + 5)
      · rw [if_pos c2, if_pos c2]
        have e : vAft (tw ρ k) (ρ (58 + 15 * k + 5)) = rBraked (ρ (58 + 15 * k + 5)) (ρ (58 + 15 * k + 2)) := by
          have hd : vDr (tw ρ k) (ρ (58 + 15 * k + 5)) = ρ (58 + 15 * k + 5) / ρ (58 + 15 * k + 2) := by
            unfold vDr
            rw [tw_at (show 2 < 15 by decide), hv]
            exact if_pos (show nI 1 ≤ nI v from nI_le h1 (by omega))
          unfold vAft rBraked iMax
          rw [hd]
          by_cases c3 : ρ (58 + 15 * k + 5) / ρ (58 + 15 * k + 2) < 1
          · rw [if_pos c3, if_neg (Int32.not_le.mpr c3)]
          · rw [if_neg c3, if_pos (Int32.not_lt.mp c3)]
        rw [e]
        rfl
      · rw [if_neg c2, if_neg c2]
        exact upd_id _ _ _ (tw_at (by decide))
  · rw [if_pos c, beq_eq_false_iff_ne.mpr c]
    rfl
theorem speed_ne {ρ : Nat → Int32} {k j : Nat} (hj : j ≠ k) : tw (rSpeed ρ k) j = tw ρ j := tw_ne (by decide) hj
theorem dimS_n {b d : Nat} (hb : b ≤ 15) (hd : d ≤ 15) : rDimS (nI d - nI b) = if nI b < nI d then 1 else if nI d < nI b then -1 else 0 := by
  have : ∀ b d : Fin 16, rDimS (nI d.1 - nI b.1) = if nI b.1 < nI d.1 then 1 else if nI d.1 < nI b.1 then -1 else 0 := by decide
  exact this ⟨b, by omega⟩ ⟨d, by omega⟩
theorem dim_tw {ρ : Nat → Int32} {k b d : Nat} (hb : ρ (58 + 15 * k + 7) = nI b) (hd : ρ (58 + 15 * k + 8) = nI d) (h1 : b ≤ 15) (h2 : d ≤ 15) : tw (rDim ρ k) k = vBri (ρ 4 == 0) (tw ρ k) := by
  unfold rDim
  rw [tw_same (by decide)]
  unfold vBri
  rw [tw_at (show 7 < 15 by decide), tw_at (show 8 < 15 by decide)]
  by_cases c : ρ 4 = 0
  · rw [if_pos c, beq_iff_eq.mpr c, if_neg (show ¬ true = false from Bool.noConfusion), hb, hd, dimS_n h1 h2]
    by_cases c1 : nI b < nI d
    · rw [if_pos c1, if_pos c1]
    · rw [if_neg c1, if_neg c1]
      by_cases c2 : nI d < nI b
      · rw [if_pos c2, if_pos c2, Int32.sub_eq_add_neg]
      · rw [if_neg c2, if_neg c2, Int32.add_zero, ← hb]
        exact upd_id _ _ _ (tw_at (by decide))
  · rw [if_neg c, beq_eq_false_iff_ne.mpr c]
    rfl
theorem dim_ne {ρ : Nat → Int32} {k j : Nat} (hj : j ≠ k) : tw (rDim ρ k) j = tw ρ j := tw_ne (by decide) hj
def vDrv (pw b : Bool) (v : Nat → Int32) : Nat → Int32 := vBri pw (vSpd pw (vSil b v))
theorem listen_4 {ρ η : Nat → Int32} {k : Nat} (hk : k < 6) {x : Nat} (hx : x < 58) : rListen ρ η k x = ρ x := by
  unfold rListen
  generalize (if η k = 1 then (0 : Int32) else ρ (58 + 15 * k + 9) + 1) = u
  split
  · rw [upd_ne (by omega), upd_ne (by omega)]
  · exact upd_ne (by omega)
theorem drive_tw {ρ η : Nat → Int32} {n s k : Nat} (hW : RW ρ n s) (hB : RB ρ) (hk : k < n) : tw (rDrive η ρ k) k = vDrv (ρ 4 == 0) (η k == 1) (tw ρ k) := by
  have hk6 : k < 6 := by have := hW.2.1; omega
  have hW1 : RW (rListen ρ η k) n s := hW.listen
  have hB1 : RB (rListen ρ η k) := hB.listen hk6
  have hB2 : RB (rSpeed (rListen ρ η k) k) := hB1.speed hW1 hk
  obtain ⟨v, h1, h2⟩ := hB1.t hk6 (w := 2) (by decide) rfl
  have hv : 1 ≤ v := by
    rcases Nat.eq_zero_or_pos v with e | e
    · exact absurd (h2.trans (by rw [e]; rfl)) (hW1.2.2.2.2.2.2 k hk)
    · exact e
  obtain ⟨b, h3, h4⟩ := hB2.t hk6 (w := 7) (by decide) rfl
  obtain ⟨d, h5, h6⟩ := hB2.t hk6 (w := 8) (by decide) rfl
  unfold rDrive vDrv
  rw [dim_tw h4 h6 h3 h5, speed_tw h2 hv h1, listen_tw, show rSpeed (rListen ρ η k) k 4 = ρ 4 from (upd_ne (by omega)).trans (listen_4 hk6 (by decide)), listen_4 hk6 (by decide)]
theorem drive_ne {ρ η : Nat → Int32} {k j : Nat} (hj : j ≠ k) : tw (rDrive η ρ k) j = tw ρ j := (dim_ne hj).trans ((speed_ne hj).trans (listen_ne hj))
theorem drives_tw {ρ η : Nat → Int32} {n s : Nat} (hW : RW ρ n s) (hB : RB ρ) : ∀ i, i ≤ n → (RW (iter (rDrive η) ρ i) n s ∧ RB (iter (rDrive η) ρ i) ∧ iter (rDrive η) ρ i 4 = ρ 4) ∧ ∀ j, j < n → tw (iter (rDrive η) ρ i) j = if j < i then vDrv (ρ 4 == 0) (η j == 1) (tw ρ j) else tw ρ j
  | 0, _ => ⟨⟨hW, hB, rfl⟩, fun j _ => (if_neg (Nat.not_lt_zero j)).symm⟩
  | i + 1, hi => by
    obtain ⟨⟨h1, h2, h3⟩, h4⟩ := drives_tw (η := η) hW hB i (by omega)
    have hn6 := hW.2.1
    refine ⟨⟨h1.drive, RB.dim (RB.speed (RB.listen h2 (by omega)) h1.listen hi) (by omega), ?_⟩, fun j hj => ?_⟩
    · show rDrive η (iter (rDrive η) ρ i) i 4 = ρ 4
      rw [rDrive_out (by omega) (Or.inl (by decide)), h3]
    · show tw (rDrive η (iter (rDrive η) ρ i) i) j = _
      by_cases e : j = i
      · rw [e, drive_tw h1 h2 hi, if_pos (Nat.lt_succ_self i), h3, h4 i hi, if_neg (Nat.lt_irrefl i)]
      · rw [drive_ne e, h4 j hj]
        by_cases c : j < i
        · rw [if_pos c, if_pos (by omega)]
        · rw [if_neg c, if_neg (by omega)]
/-! moving -/
theorem cFst_tw {T : Nat → Nat → Int32} {ρ : Nat → Int32} {n w : Nat} {x : Int32} (hw : w < 15) (h : ∀ j, j < n → T j = tw ρ j) : cFst T n w x = rFirst ρ n w x := fsB_cg fun j hj => by
  show (T j w == x) = (ρ (58 + 15 * j + w) == x)
  rw [h j hj, tw_at hw]
theorem move_tw {ρ S : Nat → Int32} {T : Nat → Nat → Int32} {n s k : Nat} (hW : RW ρ n s) (hS : S 0 = nI s) (hT : ∀ j, j < n → T j = tw ρ j) (hk : k < n) : tw (rMove n s ρ k) k = vMove S T n k := by
  obtain ⟨q, hq, eq⟩ := hW.2.2.2.2.2.1 k hk
  have hs24 := hW.2.2.2.2.1
  have e3 : rSec ρ k = q := by rw [rSec, eq]; exact nI_clamp (by omega)
  have hA : vAdv (T k) = tw (upd ρ (58 + 15 * k + 4) (ρ (58 + 15 * k + 4) + ρ (58 + 15 * k + 5))) k := by
    rw [hT k hk, tw_same (by decide)]
    unfold vAdv
    rw [tw_at (by decide), tw_at (by decide)]
  have hA4 : vAdv (T k) 4 = ρ (58 + 15 * k + 4) + ρ (58 + 15 * k + 5) := by rw [hA, tw_at (by decide), upd_same]
  have hA3 : vAdv (T k) 3 = nI q := by rw [hA, tw_at (by decide), upd_ne (by omega), eq]
  have hN : cFst (updT T k (vAdv (T k))) n 3 (cBeh S (vAdv (T k) 3)) = rFirst ρ n 3 (nI ((rSec ρ k + 1) % s)) := by
    rw [hA3, cBeh_n hS (by omega) (by omega) hq, e3]
    refine fsB_cg fun j hj => ?_
    show (updT T k (vAdv (T k)) j 3 == _) = (ρ (58 + 15 * j + 3) == _)
    by_cases e : j = k
    · rw [e, updT_same, hA3, eq]
    · rw [updT_ne e, hT j hj, tw_at (by decide)]
  have hN3 : cBeh S (vAdv (T k) 3) = nI ((rSec ρ k + 1) % s) := by rw [hA3, cBeh_n hS (by omega) (by omega) hq, e3]
  unfold rMove vMove
  rw [hN, hA4, hN3]
  by_cases c1 : ρ (58 + 15 * k + 4) + ρ (58 + 15 * k + 5) < 100
  · rw [if_pos c1, if_pos c1, hA]
  · rw [if_neg c1, if_neg c1]
    by_cases c2 : rFirst ρ n 3 (nI ((rSec ρ k + 1) % s)) = none
    · rw [if_pos c2, if_pos c2, add_tw (by decide), tw_same (by decide), tw_same (by decide), ← hA]
      unfold vEnter
      rw [hA4, upd_ne (show (10 : Nat) ≠ 4 by decide), upd_ne (show (10 : Nat) ≠ 3 by decide)]
    · rw [if_neg c2, if_neg c2, add_tw (by decide), tw_same (by decide), tw_same (by decide), ← hA]
      unfold vBlock
      rw [upd_ne (show (14 : Nat) ≠ 5 by decide), upd_ne (show (14 : Nat) ≠ 4 by decide)]
theorem move_ne {ρ : Nat → Int32} {n s k j : Nat} (hj : j ≠ k) : tw (rMove n s ρ k) j = tw ρ j := by
  unfold rMove
  split
  · exact tw_ne (by decide) hj
  · split
    · rw [add_ne (by decide) hj, tw_ne (by decide) hj, tw_ne (by decide) hj, tw_ne (by decide) hj]
    · rw [add_ne (by decide) hj, tw_ne (by decide) hj, tw_ne (by decide) hj, tw_ne (by decide) hj]
theorem moves_tw {ρ S : Nat → Int32} {T : Nat → Nat → Int32} {n s : Nat} (hW : RW ρ n s) (hS : S 0 = nI s) (hT : ∀ j, j < n → T j = tw ρ j) : ∀ i, i ≤ n → ∀ j, j < n → tMove S n T i j = tw (iter (rMove n s) ρ i) j
  | 0, _ => hT
  | i + 1, hi => by
    have ih := moves_tw hW hS hT i (by omega)
    have h1 := rw_moves hW i
    intro j hj
    show updT (tMove S n T i) i (vMove S (tMove S n T i) n i) j = tw (rMove n s (iter (rMove n s) ρ i) i) j
    by_cases e : j = i
    · rw [e, updT_same, move_tw h1 hS ih hi]
    · rw [updT_ne e, move_ne e, ih j hj]
theorem met_tw {ρ S : Nat → Int32} {T : Nat → Nat → Int32} {n s : Nat} (hW : RW ρ n s) (hT : ∀ j, j < n → T j = tw ρ j) (hb : bk ρ 34 (S 3)) : cMet S T n = rShorted ρ n := by
  unfold cMet rShorted
  congr 1
  refine fsB_cg fun k hk => ?_
  obtain ⟨q, hq, eq⟩ := hW.2.2.2.2.2.1 k hk
  have hs24 := hW.2.2.2.2.1
  show bitB (S 3) (T k 3) = _
  rw [hT k hk, tw_at (by decide), eq, bk_bit hb (by omega), show rSec ρ k = q by rw [rSec, eq]; exact nI_clamp (by omega)]

