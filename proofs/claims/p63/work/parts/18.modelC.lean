/-! the reference's tick, whole -/
theorem RW.add {ρ : Nat → Int32} {n s k w : Nat} {v : Int32} (h : RW ρ n s) (hw : w < 15) (h3 : w ≠ 3) (h2 : w ≠ 2) : RW (rAdd ρ k w v) n s := h.seg hw h3 h2
theorem RW.obey0 {ρ : Nat → Int32} {n s k : Nat} {c : Int32} (h : RW ρ n s) : RW (rObey0 ρ k c) n s := by
  unfold rObey0
  split
  · exact h.seg (w := 6) (by decide) (by decide) (by decide)
  · split
    · exact h.seg (w := 8) (by decide) (by decide) (by decide)
    · split
      · exact (h.seg (w := 5) (by decide) (by decide) (by decide)).seg (w := 6) (by decide) (by decide) (by decide)
      · exact h
theorem RW.recv {ρ : Nat → Int32} {n s k : Nat} (h : RW ρ n s) : RW (rRecv ρ k) n s := by
  unfold rRecv
  split
  · exact h.add (by decide) (by decide) (by decide)
  · split
    · exact h.obey0.add (by decide) (by decide) (by decide)
    · exact h.add (by decide) (by decide) (by decide)
theorem rRecv_out {ρ : Nat → Int32} {k x : Nat} (hk : k < 6) (hx : x < 58 ∨ 148 ≤ x) : rRecv ρ k x = ρ x := by
  have o : ∀ (f : Nat → Int32) (w : Nat) (v : Int32), w < 15 → upd f (58 + 15 * k + w) v x = f x := fun f w v hw => upd_ne (by omega)
  unfold rRecv rObey rObey0 rAdd
  split
  · rw [o _ _ _ (by decide)]
  · split
    · rw [o _ _ _ (by decide)]
      split
      · rw [o _ _ _ (by decide)]
      · split
        · rw [o _ _ _ (by decide)]
        · split
          · rw [o _ _ _ (by decide), o _ _ _ (by decide)]
          · rfl
    · rw [o _ _ _ (by decide)]
theorem RW.recvIf {p : (Nat → Int32) × (Nat → Int32)} {n s k : Nat} (h : RW p.1 n s) : RW (rRecvIf p k).1 n s := by
  unfold rRecvIf
  split
  · exact h.recv
  · exact h
theorem rRecvIf_out {p : (Nat → Int32) × (Nat → Int32)} {k x : Nat} (hk : k < 6) (hx : x < 58 ∨ 148 ≤ x) : (rRecvIf p k).1 x = p.1 x := by
  unfold rRecvIf
  split
  · exact rRecv_out hk hx
  · rfl
theorem rSend_ok {ρ η : Nat → Int32} {n s : Nat} (h : RW ρ n s) : ∀ i, i ≤ n → RW (rSend (ρ, η) i).1 n s ∧ ∀ x, (x < 58 ∨ 148 ≤ x) → (rSend (ρ, η) i).1 x = ρ x
  | 0, _ => ⟨h, fun _ _ => rfl⟩
  | i + 1, hi => by
    obtain ⟨h1, h2⟩ := rSend_ok h i (by omega)
    have hn6 := h.2.1
    exact ⟨h1.recvIf, fun x hx => (rRecvIf_out (by omega) hx).trans (h2 x hx)⟩
def zeroH (η : Nat → Int32) (n : Nat) : Nat → Int32 := iter (fun e k => upd e k 0) η n
def rDrive (η ρ : Nat → Int32) (k : Nat) : Nat → Int32 := rDim (rSpeed (rListen ρ η k) k) k
def rQ (ρ : Nat → Int32) : Nat := (ρ 6).toNatClampNeg
def rSentR (ρ η : Nat → Int32) (n : Nat) : Nat → Int32 := rShift (rSend (ρ, η) n).1 (rQ ρ - 1)
theorem RW.listen {ρ η : Nat → Int32} {n s k : Nat} (h : RW ρ n s) : RW (rListen ρ η k) n s := by
  unfold rListen
  generalize (if η k = 1 then 0 else ρ (58 + 15 * k + 9) + 1) = v
  split
  · exact (h.seg (w := 9) (by decide) (by decide) (by decide)).seg (w := 6) (by decide) (by decide) (by decide)
  · exact h.seg (w := 9) (by decide) (by decide) (by decide)
theorem RW.speed {ρ : Nat → Int32} {n s k : Nat} (h : RW ρ n s) : RW (rSpeed ρ k) n s := h.seg (by decide) (by decide) (by decide)
theorem RW.dim {ρ : Nat → Int32} {n s k : Nat} (h : RW ρ n s) : RW (rDim ρ k) n s := h.seg (by decide) (by decide) (by decide)
theorem RW.drive {ρ η : Nat → Int32} {n s k : Nat} (h : RW ρ n s) : RW (rDrive η ρ k) n s := h.listen.speed.dim
theorem RW.sec {ρ : Nat → Int32} {n s k j : Nat} (h : RW ρ n s) (hj : j < s) : RW (upd ρ (58 + 15 * k + 3) (nI j)) n s := by
  obtain ⟨a1, a2, a3, a4, a5, a6, a7⟩ := h
  refine ⟨by rw [upd_ne (by omega)]; exact a1, a2, by rw [upd_ne (by omega)]; exact a3, a4, a5, fun i hi => ?_, fun i hi => ?_⟩
  · by_cases e : i = k
    · subst e
      exact ⟨j, hj, upd_same _ _ _⟩
    · rw [upd_ne (by omega)]; exact a6 i hi
  · rw [upd_ne (by omega)]; exact a7 i hi
theorem RW.move {ρ : Nat → Int32} {n s k : Nat} (h : RW ρ n s) : RW (rMove n s ρ k) n s := by
  have h4 := h.2.2.2.1
  unfold rMove rAdd
  split
  · exact h.seg (by decide) (by decide) (by decide)
  · split
    · exact (((h.seg (by decide) (by decide) (by decide)).sec (Nat.mod_lt _ (by omega))).seg (by decide) (by decide) (by decide)).seg (by decide) (by decide) (by decide)
    · exact (((h.seg (by decide) (by decide) (by decide)).seg (by decide) (by decide) (by decide)).seg (by decide) (by decide) (by decide)).seg (by decide) (by decide) (by decide)
theorem RW.shift {ρ : Nat → Int32} {n s q : Nat} (h : RW ρ n s) : RW (rShift ρ q) n s := by
  have o : ∀ x, x < 148 → x ≠ 6 → x ≠ 8 → rShift ρ q x = ρ x := by
    intro x h1 h2 h3
    unfold rShift
    rw [upd_ne h3, pk_cpy_out (Or.inl h1), upd_ne h2]
  obtain ⟨a1, a2, a3, a4, a5, a6, a7⟩ := h
  exact ⟨(o 3 (by decide) (by decide) (by decide)).trans a1, a2, (o 1 (by decide) (by decide) (by decide)).trans a3, a4, a5, fun k hk => by rw [o _ (by omega) (by omega) (by omega)]; exact a6 k hk, fun k hk => by rw [o _ (by omega) (by omega) (by omega)]; exact a7 k hk⟩
theorem RW.watch {ρ : Nat → Int32} {n s m : Nat} (h : RW ρ n s) : RW (rWatch ρ m) n s := by
  unfold rWatch
  split
  · exact h.put (by decide) (by decide) (fun k hk => by omega)
  · split
    · exact (h.put (by decide) (by decide) (fun k hk => by omega)).put (by decide) (by decide) (fun k hk => by omega)
    · exact h
def rTick0 (ρ η : Nat → Int32) (n : Nat) : (Nat → Int32) × (Nat → Int32) := if ρ 4 = 0 ∧ ¬ ρ 6 = 0 then (rSentR ρ η n, (rSend (ρ, η) n).2) else (ρ, η)
def rTickM (n s : Nat) (p : (Nat → Int32) × (Nat → Int32)) : Nat → Int32 := rWatch (iter (rMove n s) (iter (rDrive p.2) p.1 n) n) n
def rTick (n s : Nat) (p : (Nat → Int32) × (Nat → Int32)) : (Nat → Int32) × (Nat → Int32) :=
  if p.1 0 = 10000 then p else (upd (rTickM n s (rTick0 p.1 (zeroH p.2 n) n)) 0 (rTickM n s (rTick0 p.1 (zeroH p.2 n) n) 0 + 1), (rTick0 p.1 (zeroH p.2 n) n).2)
def rSentN (ρ : Nat → Int32) : Int32 := if ρ 0 = 10000 then 0 else if ρ 4 = 0 ∧ ¬ ρ 6 = 0 then 1 else 0
section ModelPass
variable {G : Gl} {κ : Kx} {d : Nat} {Q : Option Value → Hp → Prop} {X : String → Hp → Prop} {cs ss : Nat} {σ : Hp} {a : Nat} {r : Nat → Nat} {z : Nat → Int32} {A : Nat → Nat → Int32} {rw : Nat} {ρ η : Nat → Int32}
end ModelPass
