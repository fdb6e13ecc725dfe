/-! the class's railway and the reference's row: ticks pass -/
theorem RV.pk {ρ : Nat → Int32} {n s : Nat} (h : RV ρ n s) {j : Nat} (hj : 148 ≤ j) : ∃ m, m ≤ 255 ∧ ρ j = nI m := by
  obtain ⟨m, h1, h2⟩ := h.2.2 j
  rw [bd_p hj] at h1
  exact ⟨m, h1, h2⟩
theorem CR.sec {ρ : Nat → Int32} {n s k : Nat} {C : Ct} (hW : RW ρ n s) (h : CR ρ n s C) (hk : k < n) : bitB (C.1 2) (tw ρ k 3) = (ρ (10 + rSec ρ k) == 1) := by
  obtain ⟨q, hq, eq⟩ := hW.2.2.2.2.2.1 k hk
  have hs24 := hW.2.2.2.2.1
  rw [tw_at (by decide), eq, bk_bit h.2.1.1 (by omega), show rSec ρ k = q by rw [rSec, eq]; exact nI_clamp (by omega)]
theorem rQ_lt {ρ : Nat → Int32} {q : Nat} (h : ρ 6 = nI q) (hq : q ≤ 12) : rQ ρ = q := by
  rw [rQ, h]
  exact nI_clamp (by omega)
theorem CR.p0 {ρ : Nat → Int32} {n s : Nat} {C : Ct} (hV : RV ρ n s) (h : CR ρ n s C) (h6 : ¬ ρ 6 = 0) : ∃ a b c, a ≤ 255 ∧ b ≤ 255 ∧ c ≤ 255 ∧ ρ 148 = nI a ∧ ρ 149 = nI b ∧ ρ 150 = nI c ∧ C.2.2.1 0 = kOf (nI a) (nI b) (nI c) := by
  obtain ⟨a, ha, ea⟩ := hV.pk (j := 148) (by decide)
  obtain ⟨b, hb, eb⟩ := hV.pk (j := 149) (by decide)
  obtain ⟨c, hc, ec⟩ := hV.pk (j := 150) (by decide)
  obtain ⟨q, hq, e⟩ := hV.1.2
  have hq0 : 0 < rQ ρ := by
    rw [rQ_lt e hq]
    rcases Nat.eq_zero_or_pos q with e9 | e9
    · exact absurd (e.trans (by rw [e9]; rfl)) h6
    · exact e9
  have h1 := h.2.2.2.2 0 hq0
  refine ⟨a, b, c, ha, hb, hc, ea, eb, ec, ?_⟩
  rw [h1, ← ea, ← eb, ← ec]
theorem sends_tw {ρ η : Nat → Int32} {n s : Nat} {C : Ct} (hV : RV ρ n s) (h : CR ρ n s C) (h6 : ¬ ρ 6 = 0) (hη : ∀ k, k < n → η k = 0) : ∀ i, i ≤ n → ∀ j, j < n → tw (rSend (ρ, η) i).1 j = (if j < i then vRecv (C.2.2.1 0) (bitB (C.1 2) (tw ρ j 3)) (tw ρ j) else tw ρ j) ∧ (rSend (ρ, η) i).2 j = (if j < i ∧ vHas (C.2.2.1 0) (bitB (C.1 2) (tw ρ j 3)) (tw ρ j) = true then 1 else 0)
  | 0, _ => fun j hj => ⟨(if_neg (Nat.not_lt_zero j)).symm, (hη j hj).trans (if_neg (fun e => Nat.not_lt_zero j e.1)).symm⟩
  | i + 1, hi => by
    have ih := sends_tw hV h h6 hη i (by omega)
    obtain ⟨h1, h2⟩ := rSend_ok (η := η) hV.1.1 i (by omega)
    obtain ⟨a, b, c, ha, hb, hc, ea, eb, ec, ex⟩ := h.p0 hV h6
    obtain ⟨ti, ei⟩ := ih i hi
    rw [if_neg (Nat.lt_irrefl i)] at ti
    rw [if_neg (fun e => Nat.lt_irrefl i e.1)] at ei
    have hsec : rSec (rSend (ρ, η) i).1 i = rSec ρ i := by
      unfold rSec
      rw [show (rSend (ρ, η) i).1 (58 + 15 * i + 3) = ρ (58 + 15 * i + 3) from (tw_at (ρ := (rSend (ρ, η) i).1) (k := i) (w := 3) (by decide)).symm.trans ((congrFun ti 3).trans (tw_at (by decide)))]
    obtain ⟨q, hq, eq⟩ := hV.1.1.2.2.2.2.2.1 i hi
    have hs24 := hV.1.1.2.2.2.2.1
    have hsq : rSec ρ i = q := by rw [rSec, eq]; exact nI_clamp (by omega)
    have hbt : bitB (C.1 2) (tw ρ i 3) = ((rSend (ρ, η) i).1 (10 + rSec (rSend (ρ, η) i).1 i) == 1) := by
      rw [h.sec hV.1.1 hi, hsec, h2 _ (Or.inl (by omega))]
    obtain ⟨r1, r2⟩ := recv_tw (ρ := (rSend (ρ, η) i).1) (k := i) ha hb hc ((h2 148 (Or.inr (by decide))).trans ea) ((h2 149 (Or.inr (by decide))).trans eb) ((h2 150 (Or.inr (by decide))).trans ec) ex hbt
    rw [ti] at r1 r2
    intro j hj
    show tw (rRecvIf (rSend (ρ, η) i) i).1 j = _ ∧ (rRecvIf (rSend (ρ, η) i) i).2 j = _
    unfold rRecvIf
    by_cases cf : rFor (rSend (ρ, η) i).1 0 i = true
    · rw [if_pos cf]
      obtain ⟨r3, r4⟩ := r2 cf
      show tw (rRecv (rSend (ρ, η) i).1 i) j = _ ∧ rRecvH (rSend (ρ, η) i).1 (rSend (ρ, η) i).2 i j = _
      rw [r4]
      by_cases e : j = i
      · subst e
        rw [r3, if_pos (Nat.lt_succ_self j)]
        refine ⟨rfl, ?_⟩
        by_cases cv : vHas (C.2.2.1 0) (bitB (C.1 2) (tw ρ j 3)) (tw ρ j) = true
        · rw [if_pos cv, upd_same, if_pos ⟨Nat.lt_succ_self j, cv⟩]
        · rw [if_neg cv, ei, if_neg (fun e => cv e.2)]
      · obtain ⟨tj, ej⟩ := ih j hj
        rw [recv_ne e, tj]
        refine ⟨?_, ?_⟩
        · by_cases c1 : j < i
          · rw [if_pos c1, if_pos (by omega)]
          · rw [if_neg c1, if_neg (by omega)]
        · have hu : (if vHas (C.2.2.1 0) (bitB (C.1 2) (tw ρ i 3)) (tw ρ i) = true then upd (rSend (ρ, η) i).2 i 1 else (rSend (ρ, η) i).2) j = (rSend (ρ, η) i).2 j := by
            split
            · exact upd_ne e
            · rfl
          rw [hu, ej]
          by_cases c1 : j < i
          · by_cases cv : vHas (C.2.2.1 0) (bitB (C.1 2) (tw ρ j 3)) (tw ρ j) = true
            · rw [if_pos ⟨c1, cv⟩, if_pos ⟨by omega, cv⟩]
            · rw [if_neg (fun e => cv e.2), if_neg (fun e => cv e.2)]
          · rw [if_neg (fun e => c1 e.1), if_neg (fun e9 => by omega)]
    · rw [if_neg cf]
      have hk : kFor (C.2.2.1 0) (tw ρ i 0) = false := by rw [← r1]; exact Bool.eq_false_iff.mpr cf
      obtain ⟨tj, ej⟩ := ih j hj
      by_cases e : j = i
      · subst e
        have hv0 : vHas (C.2.2.1 0) (bitB (C.1 2) (tw ρ j 3)) (tw ρ j) = false := by unfold vHas; rw [hk]; rfl
        rw [ti, ei, if_pos (Nat.lt_succ_self j), if_neg (fun e => by rw [hv0] at e; exact Bool.false_ne_true e.2)]
        refine ⟨?_, rfl⟩
        unfold vRecv
        rw [if_pos hk]
      · rw [tj, ej]
        refine ⟨?_, ?_⟩
        · by_cases c1 : j < i
          · rw [if_pos c1, if_pos (by omega)]
          · rw [if_neg c1, if_neg (by omega)]
        · by_cases c1 : j < i
          · by_cases cv : vHas (C.2.2.1 0) (bitB (C.1 2) (tw ρ j 3)) (tw ρ j) = true
            · rw [if_pos ⟨c1, cv⟩, if_pos ⟨by omega, cv⟩]
            · rw [if_neg (fun e => cv e.2), if_neg (fun e => cv e.2)]
          · rw [if_neg (fun e => c1 e.1), if_neg (fun e9 => by omega)]
theorem tickM_out {p : (Nat → Int32) × (Nat → Int32)} {n s x : Nat} (hn : n ≤ 6) (h4 : x ≠ 4) (h5 : x ≠ 5) (hx : x < 58 ∨ 148 ≤ x) : rTickM n s p x = p.1 x := by
  unfold rTickM
  have e1 : ∀ (ρ : Nat → Int32) (m : Nat), rWatch ρ m x = ρ x := fun ρ m => by
    unfold rWatch
    split
    · exact upd_ne h4
    · split
      · rw [upd_ne h5, upd_ne h4]
      · rfl
  rw [e1, iter_out (fun ρ k hk => rMove_out hk hx) n hn, iter_out (fun ρ k hk => rDrive_out hk hx) n hn]
/-- what is ahead of the trains' moves -/
theorem tick0_cr {ρ η : Nat → Int32} {n s : Nat} {C : Ct} (hV : RV ρ n s) (h : CR ρ n s C) (hη : ∀ k, k < n → η k = 0) :
    (RW (rTick0 ρ η n).1 n s ∧ RB (rTick0 ρ η n).1) ∧ (∀ x, x < 58 → x ≠ 6 → x ≠ 8 → (rTick0 ρ η n).1 x = ρ x) ∧ ((rTick0 ρ η n).1 6 = cU C 1 ∧ (rTick0 ρ η n).1 7 = cU C 2 ∧ (rTick0 ρ η n).1 8 = cU C 3 ∧ (rTick0 ρ η n).1 9 = cU C 4) ∧
    (∀ j, j < n → vDrv (ρ 4 == 0) ((rTick0 ρ η n).2 j == 1) (tw (rTick0 ρ η n).1 j) = vDrive C.1 (cX C) (tw ρ j)) ∧ ∀ i, i < rQ (rTick0 ρ η n).1 → cK C i = kOf ((rTick0 ρ η n).1 (148 + 3 * i + 0)) ((rTick0 ρ η n).1 (148 + 3 * i + 1)) ((rTick0 ρ η n).1 (148 + 3 * i + 2)) := by
  obtain ⟨q, hq, e6⟩ := hV.1.2
  have hn6 := hV.1.1.2.1
  have hQ := rQ_lt e6 hq
  have hC := h.1
  by_cases cs : ρ 4 = 0 ∧ ¬ ρ 6 = 0
  · have ec : C.1 5 = 0 ∧ ¬ C.2.1 1 = 0 := by rw [← hC.2.2.2.1, ← hC.2.2.2.2.2.1]; exact cs
    rw [show rTick0 ρ η n = (rSentR ρ η n, (rSend (ρ, η) n).2) from if_pos cs, show cU C = uSend C.2.1 from if_pos ec, show cK C = kBack C.2.2.1 from if_pos ec, show cX C = C.2.2.1 0 from if_pos ec]
    obtain ⟨h1, h2⟩ := rSend_ok (η := η) hV.1.1 n (Nat.le_refl n)
    have hq0 : 0 < q := by
      rcases Nat.eq_zero_or_pos q with e9 | e9
      · exact absurd (e6.trans (by rw [e9]; rfl)) cs.2
      · exact e9
    have hB := (rb_send (η := η) hV.1.1 hV.2.2 n (Nat.le_refl n)).shift (q := q - 1)
    have e : rSentR ρ η n = rShift (rSend (ρ, η) n).1 (q - 1) := by unfold rSentR; rw [hQ]
    show (RW (rSentR ρ η n) n s ∧ RB (rSentR ρ η n)) ∧ (∀ x, x < 58 → x ≠ 6 → x ≠ 8 → rSentR ρ η n x = ρ x) ∧ (rSentR ρ η n 6 = _ ∧ rSentR ρ η n 7 = _ ∧ rSentR ρ η n 8 = _ ∧ rSentR ρ η n 9 = _) ∧ (∀ j, j < n → vDrv (ρ 4 == 0) ((rSend (ρ, η) n).2 j == 1) (tw (rSentR ρ η n) j) = _) ∧ ∀ i, i < rQ (rSentR ρ η n) → _ = kOf (rSentR ρ η n (148 + 3 * i + 0)) (rSentR ρ η n (148 + 3 * i + 1)) (rSentR ρ η n (148 + 3 * i + 2))
    rw [e]
    have e61 : rShift (rSend (ρ, η) n).1 (q - 1) 6 = nI (q - 1) := rShift_6
    have hlo : ∀ x, x < 148 → x ≠ 6 → x ≠ 8 → rShift (rSend (ρ, η) n).1 (q - 1) x = (rSend (ρ, η) n).1 x := fun x a b c => rShift_lo a b c
    have e8 : rShift (rSend (ρ, η) n).1 (q - 1) 8 = ρ 8 + 1 := by
      unfold rShift
      rw [upd_same, pk_cpy_out (Or.inl (by decide)), upd_ne (by decide), h2 8 (Or.inl (by decide))]
    refine ⟨⟨h1.shift, hB⟩, fun x a b c => (hlo x (by omega) b c).trans (h2 x (Or.inl a)), ⟨?_, ?_, ?_, ?_⟩, fun j hj => ?_, fun i hi => ?_⟩
    · rw [e61]
      show _ = C.2.1 1 - 1
      rw [← hC.2.2.2.2.2.1, e6]
      exact (pk_sub (b := 1) hq0).symm
    · rw [hlo 7 (by decide) (by decide) (by decide), h2 7 (Or.inl (by decide))]; exact hC.2.2.2.2.2.2.1
    · rw [e8, hC.2.2.2.2.2.2.2.1]; rfl
    · rw [hlo 9 (by decide) (by decide) (by decide), h2 9 (Or.inl (by decide))]; exact hC.2.2.2.2.2.2.2.2
    · have et : tw (rShift (rSend (ρ, η) n).1 (q - 1)) j = tw (rSend (ρ, η) n).1 j := tw_eq fun w hw => hlo _ (by omega) (by omega) (by omega)
      obtain ⟨t1, t2⟩ := sends_tw hV h cs.2 hη n (Nat.le_refl n) j hj
      obtain ⟨a, b, c, ha, hb, hc, -, -, -, ex⟩ := h.p0 hV cs.2
      have hsent : vSent (C.2.2.1 0) = true := by
        unfold vSent
        rw [ex, beq_eq_false_iff_ne.mpr (kOf_ne (by omega) (by omega) (by omega))]
        rfl
      rw [et, t1, t2, if_pos hj]
      unfold vDrv vDrive
      rw [hsent, if_pos rfl, Bool.true_and, hC.2.2.2.1]
      by_cases cv : vHas (C.2.2.1 0) (bitB (C.1 2) (tw ρ j 3)) (tw ρ j) = true
      · rw [if_pos ⟨hj, cv⟩, cv]; rfl
      · rw [if_neg (fun e => cv e.2), Bool.eq_false_iff.mpr cv]; rfl
    · rw [rQ_lt e61 (by omega)] at hi
      have hp : ∀ w, w < 3 → rShift (rSend (ρ, η) n).1 (q - 1) (148 + 3 * i + w) = ρ (148 + 3 * (i + 1) + w) := fun w hw => by
        unfold rShift
        rw [upd_ne (by omega), pk_cpy_in (by omega) (by omega), upd_ne (by omega), h2 _ (Or.inr (by omega))]
        exact congrArg ρ (by omega)
      rw [hp 0 (by decide), hp 1 (by decide), hp 2 (by decide), ← h.2.2.2.2 (i + 1) (by omega)]
      unfold kBack
      rw [pk_cpy_in (by omega) (by omega)]
      exact congrArg C.2.2.1 (by omega)
  · have ec : ¬ (C.1 5 = 0 ∧ ¬ C.2.1 1 = 0) := by rw [← hC.2.2.2.1, ← hC.2.2.2.2.2.1]; exact cs
    rw [show rTick0 ρ η n = (ρ, η) from if_neg cs, show cU C = C.2.1 from if_neg ec, show cK C = C.2.2.1 from if_neg ec, show cX C = -1 from if_neg ec]
    refine ⟨⟨hV.1.1, hV.2.2⟩, fun _ _ _ _ => rfl, ⟨hC.2.2.2.2.2.1, hC.2.2.2.2.2.2.1, hC.2.2.2.2.2.2.2.1, hC.2.2.2.2.2.2.2.2⟩, fun j hj => ?_, fun i hi => h.2.2.2.2 i hi⟩
    show vDrv (ρ 4 == 0) (η j == 1) (tw ρ j) = _
    rw [hη j hj]
    unfold vDrv vDrive
    rw [show vSent (-1) = false from rfl, if_neg Bool.false_ne_true, Bool.false_and, hC.2.2.2.1]
    rfl
theorem tick_cr {ρ : Nat → Int32} {n s : Nat} {C : Ct} (hV : RV ρ n s) (h : CR ρ n s C) (h0 : ¬ ρ 0 = 10000) : CR (rT n s ρ) n s (cTick n C) := by
  have hn6 := hV.1.1.2.1
  have hs24 := hV.1.1.2.2.2.2.1
  have hS : C.1 0 = nI s := h.1.2.1.symm.trans hV.1.1.2.2.1
  rw [rT_eq, if_neg h0]
  obtain ⟨⟨hW1, hB1⟩, hlo, hU, hD, hK⟩ := tick0_cr (η := zeroH (fun _ => 0) n) hV h (fun k hk => zeroH_0 _ n k hk)
  generalize rTick0 ρ (zeroH (fun _ => 0) n) n = P at hW1 hB1 hlo hU hD hK ⊢
  have h2 := drives_tw (η := P.2) hW1 hB1 n (Nat.le_refl n)
  have e4 : P.1 4 = ρ 4 := hlo 4 (by decide) (by decide) (by decide)
  have hT : ∀ j, j < n → tDrive C.1 (cX C) C.2.2.2 n j = tw (iter (rDrive P.2) P.1 n) j := fun j hj => by
    rw [h2.2 j hj, if_pos hj, e4, hD j hj]
    unfold tDrive
    rw [if_pos hj, h.2.2.2.1 j hj]
  have h3 := moves_tw h2.1.1 hS hT n (Nat.le_refl n)
  have hW3 : RW (iter (rMove n s) (iter (rDrive P.2) P.1 n) n) n s := rw_moves h2.1.1 n
  have o3 : ∀ x, (x < 58 ∨ 148 ≤ x) → iter (rMove n s) (iter (rDrive P.2) P.1 n) n x = P.1 x := fun x hx => by
    rw [iter_out (fun ρ k hk => rMove_out hk hx) n hn6, iter_out (fun ρ k hk => rDrive_out hk hx) n hn6]
  have hb3 : bk (iter (rMove n s) (iter (rDrive P.2) P.1 n) n) 34 (C.1 3) := bk_eq h.2.1.2 (fun j hj => by rw [o3 _ (Or.inl (by omega)), hlo _ (by omega) (by omega) (by omega)])
  have hM : cMet C.1 (cT n C) n = rShorted (iter (rMove n s) (iter (rDrive P.2) P.1 n) n) n := met_tw hW3 h3 hb3
  have oM : ∀ x, x ≠ 4 → x ≠ 5 → (x < 58 ∨ 148 ≤ x) → rTickM n s P x = P.1 x := fun x a b c => tickM_out hn6 a b c
  have oT : ∀ x, x ≠ 0 → upd (rTickM n s P) 0 (rTickM n s P 0 + 1) x = rTickM n s P x := fun x hx => upd_ne hx
  have hw4 : ∀ x, x < 58 → x ≠ 6 → x ≠ 8 → iter (rMove n s) (iter (rDrive P.2) P.1 n) n x = ρ x := fun x a b c => (o3 x (Or.inl a)).trans (hlo x a b c)
  have hp : (rTickM n s P 4 = cPower C.1 (cT n C) n 5 ∧ rTickM n s P 5 = cPower C.1 (cT n C) n 6) ∧ (cPower C.1 (cT n C) n 4 = C.1 4 ∧ cPower C.1 (cT n C) n 0 = C.1 0 ∧ cPower C.1 (cT n C) n 1 = C.1 1 ∧ cPower C.1 (cT n C) n 2 = C.1 2 ∧ cPower C.1 (cT n C) n 3 = C.1 3) ∧ ∀ j, j < n → tw (rTickM n s P) j = tw (iter (rMove n s) (iter (rDrive P.2) P.1 n) n) j := by
    unfold rTickM rWatch cPower
    rw [hM, hw4 4 (by decide) (by decide) (by decide), hw4 5 (by decide) (by decide) (by decide), hw4 2 (by decide) (by decide) (by decide), h.1.2.2.2.1, h.1.2.2.2.2.1, h.1.2.2.1]
    by_cases c1 : C.1 5 = 0
    · rw [if_neg (Decidable.not_not.mpr c1), if_neg (Decidable.not_not.mpr c1)]
      by_cases c2 : rShorted (iter (rMove n s) (iter (rDrive P.2) P.1 n) n) n = true
      · rw [if_pos c2, if_pos c2]
        exact ⟨⟨rfl, rfl⟩, ⟨rfl, rfl, rfl, rfl, rfl⟩, fun j hj => by rw [tw_out (by omega) (Or.inl (by decide)), tw_out (by omega) (Or.inl (by decide))]⟩
      · rw [if_neg c2, if_neg c2]
        exact ⟨⟨(hw4 4 (by decide) (by decide) (by decide)).trans h.1.2.2.2.1, (hw4 5 (by decide) (by decide) (by decide)).trans h.1.2.2.2.2.1⟩, ⟨rfl, rfl, rfl, rfl, rfl⟩, fun j hj => rfl⟩
    · rw [if_pos c1, if_pos c1]
      exact ⟨⟨rfl, (hw4 5 (by decide) (by decide) (by decide)).trans h.1.2.2.2.2.1⟩, ⟨rfl, rfl, rfl, rfl, rfl⟩, fun j hj => by rw [tw_out (by omega) (Or.inl (by decide))]⟩
  obtain ⟨⟨p4, p5⟩, ⟨q4, q0, q1, q2, q3⟩, qT⟩ := hp
  have lo : ∀ x, x < 58 → x ≠ 0 → x ≠ 4 → x ≠ 5 → x ≠ 6 → x ≠ 8 → upd (rTickM n s P) 0 (rTickM n s P 0 + 1) x = ρ x := fun x a b c d e f => by rw [oT x b, oM x c d (Or.inl a), hlo x a e f]
  refine ⟨⟨?_, ?_, ?_, ?_, ?_, ?_, ?_, ?_, ?_⟩, ⟨?_, ?_⟩, fun j hj hj2 => ⟨?_, ?_⟩, fun k hk => ?_, fun i hi => ?_⟩
  · rw [upd_same, oM 0 (by decide) (by decide) (Or.inl (by decide)), hlo 0 (by decide) (by decide) (by decide), h.1.1]
    show C.1 4 + 1 = upd (cPower C.1 (cT n C) n) 4 (cPower C.1 (cT n C) n 4 + 1) 4
    rw [upd_same, q4]
  · rw [lo 1 (by decide) (by decide) (by decide) (by decide) (by decide) (by decide), h.1.2.1]
    exact q0.symm
  · rw [lo 2 (by decide) (by decide) (by decide) (by decide) (by decide) (by decide), h.1.2.2.1]
    exact q1.symm
  · rw [oT 4 (by decide), p4]; rfl
  · rw [oT 5 (by decide), p5]; rfl
  · rw [oT 6 (by decide), oM 6 (by decide) (by decide) (Or.inl (by decide))]; exact hU.1
  · rw [oT 7 (by decide), oM 7 (by decide) (by decide) (Or.inl (by decide))]; exact hU.2.1
  · rw [oT 8 (by decide), oM 8 (by decide) (by decide) (Or.inl (by decide))]; exact hU.2.2.1
  · rw [oT 9 (by decide), oM 9 (by decide) (by decide) (Or.inl (by decide))]; exact hU.2.2.2
  · show bk _ 10 (cPower C.1 (cT n C) n 2)
    rw [q2]
    exact bk_eq h.2.1.1 (fun j hj => lo _ (by omega) (by omega) (by omega) (by omega) (by omega) (by omega))
  · show bk _ 34 (cPower C.1 (cT n C) n 3)
    rw [q3]
    exact bk_eq h.2.1.2 (fun j hj => lo _ (by omega) (by omega) (by omega) (by omega) (by omega) (by omega))
  · rw [lo _ (by omega) (by omega) (by omega) (by omega) (by omega) (by omega)]; exact (h.2.2.1 j hj hj2).1
  · rw [lo _ (by omega) (by omega) (by omega) (by omega) (by omega) (by omega)]; exact (h.2.2.1 j hj hj2).2
  · show cT n C k = _
    rw [tw_out (by omega) (Or.inl (by decide)), qT k hk]
    exact h3 k hk
  · have e6 : rQ (upd (rTickM n s P) 0 (rTickM n s P 0 + 1)) = rQ P.1 := by
      unfold rQ
      rw [oT 6 (by decide), oM 6 (by decide) (by decide) (Or.inl (by decide))]
    rw [e6] at hi
    rw [oT _ (by omega), oT _ (by omega), oT _ (by omega), oM _ (by omega) (by omega) (Or.inr (by omega)), oM _ (by omega) (by omega) (Or.inr (by omega)), oM _ (by omega) (by omega) (Or.inr (by omega))]
    exact hK i hi
/-- t ticks, all of them there -/
theorem passes_cr {ρ : Nat → Int32} {n s : Nat} {C : Ct} (hV : RV ρ n s) (h : CR ρ n s C) : ∀ t, (∀ i, i < t → ¬ rPs n s ρ i 0 = 10000) → CR (rPs n s ρ t) n s (cPs n C t)
  | 0, _ => h
  | t + 1, h0 => tick_cr (hV.rPs t) (passes_cr hV h t (fun i hi => h0 i (by omega))) (h0 t (Nat.lt_succ_self t))
theorem rT_0 {ρ : Nat → Int32} {n s : Nat} (hV : RV ρ n s) (h0 : ¬ ρ 0 = 10000) : rT n s ρ 0 = ρ 0 + 1 := by
  rw [rT_eq, if_neg h0, upd_same, rTickM_0 hV.1.1.2.1, rTick0_0 hV.1.1]
theorem rPs_0 {ρ : Nat → Int32} {n s m : Nat} (hV : RV ρ n s) (hm : ρ 0 = nI m) : ∀ t, m + t ≤ 10000 → rPs n s ρ t 0 = nI (m + t)
  | 0, _ => hm
  | t + 1, ht => by
    have h1 := rPs_0 hV hm t (by omega)
    show rT n s (rPs n s ρ t) 0 = nI (m + (t + 1))
    rw [rT_0 (hV.rPs t) (by rw [h1]; exact fun e => absurd ((nI_eq (a := m + t) (b := 10000) (by omega) (by omega)).mp e) (by omega)), h1, nI_1]
    rfl
theorem pass_cr {ρ : Nat → Int32} {n s t m : Nat} {C : Ct} (hV : RV ρ n s) (h : CR ρ n s C) (hm : ρ 0 = nI m) (ht : m + t ≤ 10000) : CR (rPs n s ρ t) n s (cPs n C t) :=
  passes_cr hV h t (fun i hi => by
    rw [rPs_0 hV hm i (by omega)]
    exact fun e => absurd ((nI_eq (a := m + i) (b := 10000) (by omega) (by omega)).mp e) (by omega))

