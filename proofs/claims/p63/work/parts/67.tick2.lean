/-! one tick: what the trains hear, what they do -/
def snd (ρ : Nat → Int32) : Bool := (ρ 4 == 0) && !(ρ 6 == 0)
def itsB (ρ : Nat → Int32) (j : Nat) : Bool := snd ρ && rFor ρ 0 j
def tunB (ρ : Nat → Int32) (j : Nat) : Bool := ρ (10 + rSec ρ j) == 1
def obB (ρ : Nat → Int32) (j : Nat) : Bool := itsB ρ j && (!tunB ρ j && rWhole ρ 0)
theorem snd_p {ρ : Nat → Int32} : snd ρ = true ↔ ρ 4 = 0 ∧ ¬ ρ 6 = 0 := by
  unfold snd
  rw [Bool.and_eq_true, beq_iff_eq, Bool.not_eq_true', beq_eq_false_iff_ne]
theorem shift_tw {ρ : Nat → Int32} {q j : Nat} (hj : j < 6) : tw (rShift ρ q) j = tw ρ j := tw_eq fun w hw => by
  unfold rShift
  rw [upd_ne (by omega), pk_cpy_out (Or.inl (by omega)), upd_ne (by omega)]
theorem hear {ρ : Nat → Int32} {n s : Nat} {C : Ct} (hV : RV ρ n s) (hC : CR ρ n s C) : ∀ j, j < n → tw (rTick0 ρ (zeroH (fun _ => 0) n) n).1 j = (if itsB ρ j = true then tw (rRecv ρ j) j else tw ρ j) ∧ ((rTick0 ρ (zeroH (fun _ => 0) n) n).2 j == 1) = obB ρ j := by
  intro j hj
  have hn6 := hV.n6
  have hη : ∀ k, k < n → zeroH (fun _ => (0 : Int32)) n k = 0 := fun k hk => zeroH_0 _ n k hk
  by_cases cs : ρ 4 = 0 ∧ ¬ ρ 6 = 0
  · have hs : snd ρ = true := snd_p.mpr cs
    rw [show rTick0 ρ (zeroH (fun _ => 0) n) n = (rSentR ρ (zeroH (fun _ => 0) n) n, (rSend (ρ, zeroH (fun _ => 0) n) n).2) from if_pos cs]
    obtain ⟨a, b, c, ha, hb, hc, ea, eb, ec, ex⟩ := hC.p0 hV cs.2
    obtain ⟨t1, t2⟩ := sends_tw hV hC cs.2 hη n (Nat.le_refl n) j hj
    have hsec := hC.sec hV.1.1 hj
    obtain ⟨r1, r2⟩ := recv_tw (ρ := ρ) (k := j) ha hb hc ea eb ec ex hsec
    have eW : kWh (C.2.2.1 0) = rWhole ρ 0 := by
      rw [ex, kW_of (by omega) (by omega) (by omega), ← ea, ← eb, ← ec]
    rw [if_pos hj] at t1
    have eI : itsB ρ j = rFor ρ 0 j := by unfold itsB; rw [hs]; rfl
    have eH : vHas (C.2.2.1 0) (bitB (C.1 2) (tw ρ j 3)) (tw ρ j) = obB ρ j := by
      unfold vHas obB tunB
      rw [← r1, eI, hsec, eW]
    refine ⟨?_, ?_⟩
    · show tw (rShift (rSend (ρ, zeroH (fun _ => 0) n) n).1 (rQ ρ - 1)) j = _
      rw [shift_tw (by omega), t1, eI]
      by_cases cf : rFor ρ 0 j = true
      · rw [if_pos cf]; exact (r2 cf).1.symm
      · rw [if_neg cf]
        unfold vRecv
        rw [if_pos (by rw [← r1]; exact Bool.eq_false_iff.mpr cf)]
    · show ((rSend (ρ, zeroH (fun _ => 0) n) n).2 j == 1) = _
      rw [t2]
      by_cases cv : vHas (C.2.2.1 0) (bitB (C.1 2) (tw ρ j 3)) (tw ρ j) = true
      · rw [if_pos ⟨hj, cv⟩, ← eH, cv]; rfl
      · rw [if_neg (fun e => cv e.2), ← eH, Bool.eq_false_iff.mpr cv]; rfl
  · have hs : snd ρ = false := Bool.eq_false_iff.mpr (fun e => cs (snd_p.mp e))
    rw [show rTick0 ρ (zeroH (fun _ => 0) n) n = (ρ, zeroH (fun _ => 0) n) from if_neg cs]
    have eI : itsB ρ j = false := by unfold itsB; rw [hs]; rfl
    refine ⟨by rw [eI]; rfl, ?_⟩
    show (zeroH (fun _ => (0 : Int32)) n j == 1) = _
    rw [hη j hj]
    unfold obB
    rw [eI]
    rfl
theorem vDrv_o {p b : Bool} {v : Nat → Int32} {w : Nat} (h5 : w ≠ 5) (h6 : w ≠ 6) (h7 : w ≠ 7) (h9 : w ≠ 9) : vDrv p b v w = v w := by
  have e1 : ∀ u : Nat → Int32, vBri p u w = u w := fun u => by
    unfold vBri
    repeat' split
    all_goals first | exact upd_ne h7 | rfl
  have e2 : ∀ u : Nat → Int32, vSpd p u w = u w := fun u => by
    unfold vSpd
    repeat' split
    all_goals first | exact upd_ne h5 | rfl
  have e3 : ∀ u : Nat → Int32, vSil b u w = u w := fun u => by
    unfold vSil
    repeat' split
    all_goals first | exact (upd_ne h6).trans (upd_ne h9) | exact upd_ne h9
  unfold vDrv
  rw [e1, e2, e3]
theorem vDrv_s {p b : Bool} {v : Nat → Int32} {w : Nat} (h5 : w ≠ 5) (h7 : w ≠ 7) : vDrv p b v w = vSil b v w := by
  have e1 : ∀ u : Nat → Int32, vBri p u w = u w := fun u => by
    unfold vBri
    repeat' split
    all_goals first | exact upd_ne h7 | rfl
  have e2 : ∀ u : Nat → Int32, vSpd p u w = u w := fun u => by
    unfold vSpd
    repeat' split
    all_goals first | exact upd_ne h5 | rfl
  unfold vDrv
  rw [e1, e2]
/-- the trains behind a tick, but for their moves -/
theorem tickT {ρ : Nat → Int32} {n s : Nat} {C : Ct} (hV : RV ρ n s) (hC : CR ρ n s C) (h0 : ¬ ρ 0 = 10000) {j w : Nat} (hj : j < n) (hw : w < 15) (hm : ¬ mvF w) : tf (rT n s ρ) j w = vDrv (ρ 4 == 0) (obB ρ j) (if itsB ρ j = true then tw (rRecv ρ j) j else tw ρ j) w := by
  have hn6 := hV.n6
  obtain ⟨t1, t2⟩ := hear hV hC j hj
  obtain ⟨⟨c1, c2⟩, c3, -⟩ := tick0_cr hV hC (fun k hk => zeroH_0 (fun _ => (0 : Int32)) n k hk)
  obtain ⟨-, g2⟩ := drives_tw (η := (rTick0 ρ (zeroH (fun _ => 0) n) n).2) c1 c2 n (Nat.le_refl n)
  have g3 := g2 j hj
  rw [if_pos hj, t1, t2, c3 4 (by decide) (by decide) (by decide)] at g3
  rw [rT_eq, if_neg h0]
  show upd _ 0 _ (58 + 15 * j + w) = _
  rw [upd_ne (by omega), ← g3, tw_at hw]
  unfold rTickM
  have e1 : ∀ (r : Nat → Int32) (m : Nat), rWatch r m (58 + 15 * j + w) = r (58 + 15 * j + w) := fun r m => by
    unfold rWatch
    repeat' split
    all_goals first | rfl | exact (upd_ne (by omega)).trans (upd_ne (by omega)) | exact upd_ne (by omega)
  rw [e1]
  exact mv_outs n (fun k hk w' hw' e => by
    rcases hw' with h | h | h | h | h <;> subst h <;> (by_cases ek : k = j) <;> first | (subst ek; exact hm (by unfold mvF; omega)) | omega)
/-- the same, the moves' own fields: the row ahead of the moves -/
theorem tickM {ρ : Nat → Int32} {n s : Nat} {C : Ct} (hV : RV ρ n s) (hC : CR ρ n s C) (h0 : ¬ ρ 0 = 10000) : ∃ ρd, RW ρd n s ∧ RB ρd ∧ (∀ j, j < n → tf ρd j 3 = tf ρ j 3 ∧ tf ρd j 4 = tf ρ j 4 ∧ tf ρd j 10 = tf ρ j 10) ∧ ∀ j w, j < n → w < 15 → tf (rT n s ρ) j w = tf (iter (rMove n s) ρd n) j w := by
  have hn6 := hV.n6
  obtain ⟨⟨c1, c2⟩, c3, -⟩ := tick0_cr hV hC (fun k hk => zeroH_0 (fun _ => (0 : Int32)) n k hk)
  obtain ⟨⟨g0, g1, -⟩, g2⟩ := drives_tw (η := (rTick0 ρ (zeroH (fun _ => 0) n) n).2) c1 c2 n (Nat.le_refl n)
  refine ⟨_, g0, g1, fun j hj => ?_, fun j w hj hw => ?_⟩
  · have g3 := g2 j hj
    obtain ⟨t1, t2⟩ := hear hV hC j hj
    rw [if_pos hj, t1] at g3
    have e : ∀ w, w = 3 ∨ w = 4 ∨ w = 10 → tf (iter (rDrive (rTick0 ρ (zeroH (fun _ => 0) n) n).2) (rTick0 ρ (zeroH (fun _ => 0) n) n).1 n) j w = tf ρ j w := fun w hw => by
      have h9 := congrFun g3 w
      rw [tw_at (by omega), vDrv_o (by omega) (by omega) (by omega) (by omega)] at h9
      refine h9.trans ?_
      by_cases ci : itsB ρ j = true
      · rw [if_pos ci, tw_at (by omega)]
        unfold rRecv
        repeat' split
        · exact upd_ne (by omega)
        · unfold rObey rAdd
          rw [upd_ne (by omega)]
          unfold rObey0
          repeat' split
          all_goals first | exact (upd_ne (by omega)).trans (upd_ne (by omega)) | exact upd_ne (by omega) | rfl
        · exact upd_ne (by omega)
      · rw [if_neg ci, tw_at (by omega)]
    exact ⟨e 3 (Or.inl rfl), e 4 (Or.inr (Or.inl rfl)), e 10 (Or.inr (Or.inr rfl))⟩
  · rw [rT_eq, if_neg h0]
    show upd _ 0 _ (58 + 15 * j + w) = _
    rw [upd_ne (by omega)]
    unfold rTickM rWatch
    repeat' split
    all_goals first | rfl | exact (upd_ne (by omega)).trans (upd_ne (by omega)) | exact upd_ne (by omega)
/-- what is due: the target that an obeyed packet sets -/
def duT (ρ : Nat → Int32) (j : Nat) : Int32 := if ρ 149 / 64 = 0 then iMin 28 (rArg (ρ 149)) else if ρ 149 / 64 = 2 then 0 else tf ρ j 6
theorem rc_w {ρ : Nat → Int32} {j : Nat} : tf (rRecv ρ j) j 13 = tf ρ j 13 + bI (tunB ρ j) ∧ tf (rRecv ρ j) j 12 = tf ρ j 12 + bI (!tunB ρ j && !rWhole ρ 0) ∧ tf (rRecv ρ j) j 11 = tf ρ j 11 + bI (!tunB ρ j && rWhole ρ 0) ∧ tf (rRecv ρ j) j 9 = tf ρ j 9 ∧ tf (rRecv ρ j) j 0 = tf ρ j 0 ∧ tf (rRecv ρ j) j 6 = if (!tunB ρ j && rWhole ρ 0) = true then duT ρ j else tf ρ j 6 := by
  have z0 : ∀ y : Int32, y + bI false = y := fun y => Int32.add_zero y
  unfold rRecv
  by_cases c1 : ρ (10 + rSec ρ j) = 1
  · have e1 : tunB ρ j = true := by unfold tunB; rw [c1]; rfl
    rw [if_pos c1, e1]
    unfold rAdd tf
    refine ⟨upd_same _ _ _, ?_, ?_, upd_ne (by omega), upd_ne (by omega), ?_⟩
    · rw [upd_ne (by omega)]; exact (z0 _).symm
    · rw [upd_ne (by omega)]; exact (z0 _).symm
    · rw [upd_ne (by omega)]; rfl
  · have e1 : tunB ρ j = false := by unfold tunB; exact beq_eq_false_iff_ne.mpr c1
    rw [if_neg c1, e1]
    by_cases c2 : rWhole ρ 0 = true
    · rw [if_pos c2, c2]
      have ow : ∀ w, w < 15 → w ≠ 5 → w ≠ 6 → w ≠ 8 → rObey0 ρ j (ρ 149) (58 + 15 * j + w) = ρ (58 + 15 * j + w) := fun w hw h5 h6 h8 => by
        unfold rObey0
        repeat' split
        all_goals first | exact (upd_ne (by omega)).trans (upd_ne (by omega)) | exact upd_ne (by omega) | rfl
      unfold rObey rAdd tf
      refine ⟨?_, ?_, ?_, ?_, ?_, ?_⟩
      · rw [upd_ne (by omega), ow 13 (by decide) (by decide) (by decide) (by decide)]; exact (z0 _).symm
      · rw [upd_ne (by omega), ow 12 (by decide) (by decide) (by decide) (by decide)]; exact (z0 _).symm
      · rw [upd_same, ow 11 (by decide) (by decide) (by decide) (by decide)]; rfl
      · rw [upd_ne (by omega), ow 9 (by decide) (by decide) (by decide) (by decide)]
      · rw [upd_ne (by omega), ow 0 (by decide) (by decide) (by decide) (by decide)]
      · rw [upd_ne (by omega)]
        show rObey0 ρ j (ρ 149) (58 + 15 * j + 6) = duT ρ j
        unfold rObey0 duT
        by_cases k0 : ρ 149 / 64 = 0
        · rw [if_pos k0, if_pos k0, upd_same]
        · rw [if_neg k0, if_neg k0]
          by_cases k1 : ρ 149 / 64 = 1
          · rw [if_pos k1, if_neg (by rw [k1]; decide), upd_ne (by omega)]
          · rw [if_neg k1]
            by_cases k2 : ρ 149 / 64 = 2
            · rw [if_pos k2, if_pos k2, upd_same]
            · rw [if_neg k2, if_neg k2]
    · rw [if_neg c2, Bool.eq_false_iff.mpr c2]
      unfold rAdd tf
      refine ⟨?_, upd_same _ _ _, ?_, upd_ne (by omega), upd_ne (by omega), ?_⟩
      · rw [upd_ne (by omega)]; exact (z0 _).symm
      · rw [upd_ne (by omega)]; exact (z0 _).symm
      · rw [upd_ne (by omega)]; rfl
/-- one tick, as the law asks it -/
theorem tickL {ρ : Nat → Int32} {n s : Nat} {C : Ct} (hV : RV ρ n s) (hC : CR ρ n s C) (h0 : ¬ ρ 0 = 10000) {j : Nat} (hj : j < n) :
    tf (rT n s ρ) j 11 = tf ρ j 11 + bI (obB ρ j) ∧ tf (rT n s ρ) j 13 = tf ρ j 13 + bI (itsB ρ j && tunB ρ j) ∧ tf (rT n s ρ) j 12 = tf ρ j 12 + bI (itsB ρ j && (!tunB ρ j && !rWhole ρ 0)) ∧
    tf (rT n s ρ) j 9 = (if obB ρ j = true then 0 else tf ρ j 9 + 1) ∧ tf (rT n s ρ) j 6 = (if obB ρ j = true then duT ρ j else if tf ρ j 9 + 1 < 40 then tf ρ j 6 else 0) ∧ tf (rT n s ρ) j 0 = tf ρ j 0 := by
  have T := fun w (hw : w < 15) (hm : ¬ mvF w) => tickT hV hC h0 hj hw hm
  obtain ⟨r13, r12, r11, r9, r0, r6⟩ := rc_w (ρ := ρ) (j := j)
  have z0 : ∀ y : Int32, y + bI false = y := fun y => Int32.add_zero y
  have hv : ∀ w, w < 15 → (if itsB ρ j = true then tw (rRecv ρ j) j else tw ρ j) w = if itsB ρ j = true then tf (rRecv ρ j) j w else tf ρ j w := fun w hw => by
    by_cases ci : itsB ρ j = true
    · rw [if_pos ci, if_pos ci]; exact tw_at hw
    · rw [if_neg ci, if_neg ci]; exact tw_at hw
  refine ⟨?_, ?_, ?_, ?_, ?_, ?_⟩
  · rw [T 11 (by decide) (by unfold mvF; omega), vDrv_o (by decide) (by decide) (by decide) (by decide), hv 11 (by decide)]
    unfold obB
    by_cases ci : itsB ρ j = true
    · rw [if_pos ci, ci, r11]; rfl
    · rw [if_neg ci, Bool.eq_false_iff.mpr ci]; exact (z0 _).symm
  · rw [T 13 (by decide) (by unfold mvF; omega), vDrv_o (by decide) (by decide) (by decide) (by decide), hv 13 (by decide)]
    by_cases ci : itsB ρ j = true
    · rw [if_pos ci, ci, r13]; rfl
    · rw [if_neg ci, Bool.eq_false_iff.mpr ci]; exact (z0 _).symm
  · rw [T 12 (by decide) (by unfold mvF; omega), vDrv_o (by decide) (by decide) (by decide) (by decide), hv 12 (by decide)]
    by_cases ci : itsB ρ j = true
    · rw [if_pos ci, ci, r12]; rfl
    · rw [if_neg ci, Bool.eq_false_iff.mpr ci]; exact (z0 _).symm
  · have e9 : (if itsB ρ j = true then tw (rRecv ρ j) j else tw ρ j) 9 = tf ρ j 9 := by
      rw [hv 9 (by decide)]
      by_cases ci : itsB ρ j = true
      · rw [if_pos ci, r9]
      · rw [if_neg ci]
    rw [T 9 (by decide) (by unfold mvF; omega), vDrv_s (by decide) (by decide)]
    unfold vSil
    by_cases cb : obB ρ j = true
    · rw [if_pos cb, if_pos cb, upd_same]
    · rw [if_neg cb, if_neg cb]
      generalize (if itsB ρ j = true then tw (rRecv ρ j) j else tw ρ j) = v at e9 ⊢
      by_cases c4 : v 9 + 1 < 40
      · rw [if_pos c4, upd_same, e9]
      · rw [if_neg c4, upd_ne (by decide), upd_same, e9]
  · have e9 : (if itsB ρ j = true then tw (rRecv ρ j) j else tw ρ j) 9 = tf ρ j 9 := by
      rw [hv 9 (by decide)]
      by_cases ci : itsB ρ j = true
      · rw [if_pos ci, r9]
      · rw [if_neg ci]
    have e6 : (if itsB ρ j = true then tw (rRecv ρ j) j else tw ρ j) 6 = if obB ρ j = true then duT ρ j else tf ρ j 6 := by
      rw [hv 6 (by decide)]
      unfold obB
      by_cases ci : itsB ρ j = true
      · rw [if_pos ci, ci, r6]; rfl
      · rw [if_neg ci, Bool.eq_false_iff.mpr ci]; rfl
    rw [T 6 (by decide) (by unfold mvF; omega), vDrv_s (by decide) (by decide)]
    unfold vSil
    by_cases cb : obB ρ j = true
    · rw [if_pos cb, if_pos cb, upd_ne (by decide), e6, if_pos cb]
    · rw [if_neg cb, if_neg cb, e9]
      rw [if_neg cb] at e6
      by_cases c4 : tf ρ j 9 + 1 < 40
      · rw [if_pos c4, if_pos c4, upd_ne (by decide), e6]
      · rw [if_neg c4, if_neg c4, upd_same]
  · rw [T 0 (by decide) (by unfold mvF; omega), vDrv_o (by decide) (by decide) (by decide) (by decide), hv 0 (by decide)]
    by_cases ci : itsB ρ j = true
    · rw [if_pos ci, r0]
    · rw [if_neg ci]
