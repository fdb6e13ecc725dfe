theorem RW.tick0 {ρ η : Nat → Int32} {n s : Nat} (h : RW ρ n s) : RW (rTick0 ρ η n).1 n s := by
  unfold rTick0
  split
  · exact (rSend_ok h n (Nat.le_refl n)).1.shift
  · exact h
theorem rDrive_out {η ρ : Nat → Int32} {k x : Nat} (hk : k < 6) (hx : x < 58 ∨ 148 ≤ x) : rDrive η ρ k x = ρ x := by
  have o : ∀ (f : Nat → Int32) (w : Nat) (v : Int32), w < 15 → upd f (58 + 15 * k + w) v x = f x := fun f w v hw => upd_ne (by omega)
  unfold rDrive rDim rSpeed
  rw [o _ _ _ (by decide), o _ _ _ (by decide)]
  unfold rListen
  generalize (if η k = 1 then 0 else ρ (58 + 15 * k + 9) + 1) = v
  split
  · rw [o _ _ _ (by decide), o _ _ _ (by decide)]
  · rw [o _ _ _ (by decide)]
theorem rw_drives {η ρ : Nat → Int32} {n s : Nat} (h : RW ρ n s) : ∀ i, RW (iter (rDrive η) ρ i) n s
  | 0 => h
  | i + 1 => (rw_drives h i).drive
theorem rw_moves {ρ : Nat → Int32} {n s : Nat} (h : RW ρ n s) : ∀ i, RW (iter (rMove n s) ρ i) n s
  | 0 => h
  | i + 1 => (rw_moves h i).move
theorem rMove_out {ρ : Nat → Int32} {n s k x : Nat} (hk : k < 6) (hx : x < 58 ∨ 148 ≤ x) : rMove n s ρ k x = ρ x := by
  have o : ∀ (f : Nat → Int32) (w : Nat) (v : Int32), w < 15 → upd f (58 + 15 * k + w) v x = f x := fun f w v hw => upd_ne (by omega)
  unfold rMove rAdd
  split
  · rw [o _ _ _ (by decide)]
  · split
    · rw [o _ _ _ (by decide), o _ _ _ (by decide), o _ _ _ (by decide), o _ _ _ (by decide)]
    · rw [o _ _ _ (by decide), o _ _ _ (by decide), o _ _ _ (by decide), o _ _ _ (by decide)]
theorem iter_out {f : (Nat → Int32) → Nat → (Nat → Int32)} {x : Nat} (hf : ∀ ρ k, k < 6 → f ρ k x = ρ x) {ρ : Nat → Int32} : ∀ i, i ≤ 6 → iter f ρ i x = ρ x
  | 0, _ => rfl
  | i + 1, h => (hf _ i (by omega)).trans (iter_out hf i (by omega))
theorem rShift_lo {ρ : Nat → Int32} {q x : Nat} (h1 : x < 148) (h2 : x ≠ 6) (h3 : x ≠ 8) : rShift ρ q x = ρ x := by
  unfold rShift
  rw [upd_ne h3, pk_cpy_out (Or.inl h1), upd_ne h2]
theorem rShift_6 {ρ : Nat → Int32} {q : Nat} : rShift ρ q 6 = nI q := by
  unfold rShift
  rw [upd_ne (by decide), pk_cpy_out (Or.inl (by decide)), upd_same]
/-- .. and the queue's length is in its range -/
def RQ (ρ : Nat → Int32) (n s : Nat) : Prop := RW ρ n s ∧ ∃ q, q ≤ 12 ∧ ρ 6 = nI q
theorem rTickM_6 {p : (Nat → Int32) × (Nat → Int32)} {n s : Nat} (hn : n ≤ 6) : rTickM n s p 6 = p.1 6 := by
  have h1 : iter (rMove n s) (iter (rDrive p.2) p.1 n) n 6 = p.1 6 := (iter_out (fun _ _ hk => rMove_out hk (Or.inl (by decide))) n hn).trans (iter_out (fun _ _ hk => rDrive_out hk (Or.inl (by decide))) n hn)
  unfold rTickM rWatch
  split
  · rw [upd_ne (by decide)]; exact h1
  · split
    · rw [upd_ne (by decide), upd_ne (by decide)]; exact h1
    · exact h1
theorem RW.tickM {p : (Nat → Int32) × (Nat → Int32)} {n s : Nat} (h : RW p.1 n s) : RW (rTickM n s p) n s := (rw_moves (rw_drives h n) n).watch
theorem RQ.tick {p : (Nat → Int32) × (Nat → Int32)} {n s : Nat} (h : RQ p.1 n s) : RQ (rTick n s p).1 n s := by
  obtain ⟨h1, q, h2, h3⟩ := h
  unfold rTick
  split
  · exact ⟨h1, q, h2, h3⟩
  · refine ⟨(h1.tick0.tickM).put (by decide) (by decide) (fun k hk => by omega), ?_⟩
    have e : (rTick0 p.1 (zeroH p.2 n) n).1 6 = p.1 6 ∨ ∃ q1, q1 ≤ 12 ∧ (rTick0 p.1 (zeroH p.2 n) n).1 6 = nI q1 := by
      unfold rTick0
      split
      · refine Or.inr ⟨rQ p.1 - 1, ?_, rShift_6 (ρ := (rSend (p.1, zeroH p.2 n) n).1)⟩
        rw [rQ, h3, nI_clamp (by omega)]
        omega
      · exact Or.inl rfl
    show ∃ q, q ≤ 12 ∧ upd (rTickM n s (rTick0 p.1 (zeroH p.2 n) n)) 0 (rTickM n s (rTick0 p.1 (zeroH p.2 n) n) 0 + 1) 6 = nI q
    rw [upd_ne (by decide), rTickM_6 h1.2.1]
    rcases e with e | ⟨q1, e1, e2⟩
    · exact ⟨q, h2, e.trans h3⟩
    · exact ⟨q1, e1, e2⟩
def rPass (n s : Nat) (p : (Nat → Int32) × (Nat → Int32)) (t : Nat) : (Nat → Int32) × (Nat → Int32) := iter (fun p _ => rTick n s p) p t
theorem RQ.pass {p : (Nat → Int32) × (Nat → Int32)} {n s : Nat} (h : RQ p.1 n s) : ∀ t, RQ (rPass n s p t).1 n s
  | 0 => h
  | t + 1 => (RQ.pass h t).tick
section ModelPass2
variable {G : Gl} {κ : Kx} {d : Nat} {Q : Option Value → Hp → Prop} {X : String → Hp → Prop} {cs ss : Nat} {σ : Hp} {a : Nat} {r : Nat → Nat} {z : Nat → Int32} {A : Nat → Nat → Int32} {rw : Nat} {ρ η : Nat → Int32}
end ModelPass2
