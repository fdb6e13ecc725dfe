/-! the reference's changes -/
theorem aw_hs {G : Gl} {κ : Kx} {cs ss pc : Nat} {L : List (Option LV)} {st : List Value} {σ σ1 : Hp} (h : ∀ H : Heap, HS G σ H → HS G σ1 H) (k : AW G κ cs ss pc L st σ1) : AW G κ cs ss pc L st σ := by
  obtain ⟨p, l, e, R, s, m, args, below, meth, c, Z⟩ := κ
  intro H locs cells slots ls hH h1 h2 h3
  exact k H locs cells slots ls ⟨h H hH.1, hH.2⟩ h1 h2 h3
section MVarr
variable {G : Gl} {κ : Kx} {cs ss pc : Nat} {L : List (Option LV)} {st : List Value} {σ : Hp} {a : Nat} {r : Nat → Nat} {z : Nat → Int32} {A : Nat → Nat → Int32} {rw : Nat} {ρ η : Nat → Int32}
end MVarr
theorem upd_id (f : Nat → Int32) (k : Nat) (x : Int32) (h : f k = x) : upd f k x = f := by
  funext j
  by_cases e : j = k
  · rw [e, upd_same, h]
  · rw [upd_ne e]
def hShift (H : Nat → Int32) (i : Nat) : Nat → Int32 := fun x => if x < 184 * i then H (x + 184) else H x
def rPut0 (ρ : Nat → Int32) (q p : Nat) (x c k : Int32) : Nat → Int32 := upd (upd (upd (va_cpy ρ ρ (148 + 3 * p) (148 + 3 * p + 3) (3 * (q - p))) (148 + 3 * p + 0) x) (148 + 3 * p + 1) c) (148 + 3 * p + 2) k
def rPut (ρ : Nat → Int32) (p : Nat) (x c k : Int32) : Nat → Int32 := upd (upd (rPut0 ρ (rQ ρ) p x c k) 6 (ρ 6 + 1)) 7 (ρ 7 + 1)
theorem rPut0_lo {ρ : Nat → Int32} {q p j : Nat} {x c k : Int32} (h : j < 148) : rPut0 ρ q p x c k j = ρ j := by
  unfold rPut0
  rw [upd_ne (by omega), upd_ne (by omega), upd_ne (by omega), pk_cpy_out (Or.inl (by omega))]
abbrev Op : Type := Int32 × (Nat → Int32) × (Nat → Int32)
def oPut (z ρ : Nat → Int32) (p : Nat) (x c k : Int32) : Op := if ρ 6 = 12 then (2, z, ρ) else (0, upd z 11 (ρ 6 + 1), rPut ρ p x c k)
def oInt (z ρ : Nat → Int32) (p : Nat) (x c : Int32) : Op := oPut z ρ p x c (x ^^^ c)
def oShort (z ρ : Nat → Int32) (s : Nat) (x v : Int32) : Op := if rIsS ρ x = true then (0, upd z 11 (rCnt (upd ρ (34 + x.toNatClampNeg) v) 34 s), upd ρ (34 + x.toNatClampNeg) v) else (1, z, ρ)
def oClear (z ρ : Nat → Int32) : Op := (0, upd z 11 (ρ 6), upd (upd ρ 9 (ρ 9 + ρ 6)) 6 0)
def oRead (z ρ : Nat → Int32) (n : Nat) (x v : Int32) : Op := if ρ (58 + 15 * x.toNatClampNeg + 5) = 0 ∧ rFirst ρ n 0 v = none then (0, upd z 11 (ρ (58 + 15 * x.toNatClampNeg + 0)), upd ρ (58 + 15 * x.toNatClampNeg + 0) v) else (3, z, ρ)
def hRec (H : Nat → Int32) (u : Nat) (ρ : Nat → Int32) : Nat → Int32 := if u = 8 then va_cpy ρ (hShift H 7) 0 (184 * 7) 184 else va_cpy ρ H 0 (184 * u) 184
def hCnt (u : Nat) : Nat := if u = 8 then 8 else u + 1
/-- 'heard' doesn't matter ahead of a tick -/
def hEq (n : Nat) (η θ : Nat → Int32) : Prop := ∀ k, k < n → η k = θ k
theorem zeroH_0 (η : Nat → Int32) : ∀ (n k : Nat), k < n → zeroH η n k = 0
  | n + 1, k, hk => by
    show upd (zeroH η n) n 0 k = 0
    by_cases e : k = n
    · rw [e, upd_same]
    · rw [upd_ne e]; exact zeroH_0 η n k (by omega)
theorem rRecvIf_eq {n k : Nat} {ρ η θ : Nat → Int32} (h : hEq n η θ) : (rRecvIf (ρ, η) k).1 = (rRecvIf (ρ, θ) k).1 ∧ hEq n (rRecvIf (ρ, η) k).2 (rRecvIf (ρ, θ) k).2 := by
  unfold rRecvIf
  by_cases c : rFor ρ 0 k = true
  · rw [if_pos (show rFor (ρ, η).1 0 k = true from c), if_pos (show rFor (ρ, θ).1 0 k = true from c)]
    refine ⟨rfl, fun j hj => ?_⟩
    show rRecvH ρ η k j = rRecvH ρ θ k j
    unfold rRecvH
    split
    · exact h j hj
    · split
      · by_cases e : j = k
        · rw [e, upd_same, upd_same]
        · rw [upd_ne e, upd_ne e]; exact h j hj
      · exact h j hj
  · rw [if_neg (show ¬ rFor (ρ, η).1 0 k = true from c), if_neg (show ¬ rFor (ρ, θ).1 0 k = true from c)]
    exact ⟨rfl, h⟩
theorem rSend_eq {n : Nat} {ρ η θ : Nat → Int32} (h : hEq n η θ) : ∀ i, (rSend (ρ, η) i).1 = (rSend (ρ, θ) i).1 ∧ hEq n (rSend (ρ, η) i).2 (rSend (ρ, θ) i).2
  | 0 => ⟨rfl, h⟩
  | i + 1 => by
    obtain ⟨h1, h2⟩ := rSend_eq h i
    have h3 := rRecvIf_eq (k := i) (ρ := (rSend (ρ, η) i).1) h2
    show (rRecvIf (rSend (ρ, η) i) i).1 = (rRecvIf (rSend (ρ, θ) i) i).1 ∧ hEq n (rRecvIf (rSend (ρ, η) i) i).2 (rRecvIf (rSend (ρ, θ) i) i).2
    have e1 : rSend (ρ, θ) i = ((rSend (ρ, η) i).1, (rSend (ρ, θ) i).2) := by rw [h1]
    rw [e1]
    exact h3
theorem rTick0_eq {n : Nat} {ρ η θ : Nat → Int32} (h : hEq n η θ) : (rTick0 ρ η n).1 = (rTick0 ρ θ n).1 ∧ hEq n (rTick0 ρ η n).2 (rTick0 ρ θ n).2 := by
  obtain ⟨h1, h2⟩ := rSend_eq (ρ := ρ) h n
  unfold rTick0 rSentR
  split
  · exact ⟨by show rShift _ _ = rShift _ _; rw [h1], h2⟩
  · exact ⟨rfl, h⟩
theorem rDrive_eq {n : Nat} {ρ η θ : Nat → Int32} (h : hEq n η θ) : ∀ i, i ≤ n → iter (rDrive η) ρ i = iter (rDrive θ) ρ i := by
  intro i
  induction i with
  | zero => intro _; exact (rfl : ρ = ρ)
  | succ i ih =>
    intro hi
    show rDrive η (iter (rDrive η) ρ i) i = rDrive θ (iter (rDrive θ) ρ i) i
    have e : ∀ ρ1 : Nat → Int32, rListen ρ1 η i = rListen ρ1 θ i := fun ρ1 => by
      unfold rListen
      rw [h i (by omega)]
    rw [ih (by omega)]
    show rDim (rSpeed (rListen _ η i) i) i = rDim (rSpeed (rListen _ θ i) i) i
    rw [e]
def rT (n s : Nat) (ρ : Nat → Int32) : Nat → Int32 := (rTick n s (ρ, fun _ => 0)).1
theorem rTick_row (n s : Nat) (ρ η : Nat → Int32) : (rTick n s (ρ, η)).1 = rT n s ρ := by
  have h0 : hEq n (zeroH η n) (zeroH (fun _ => 0) n) := fun k hk => (zeroH_0 _ n k hk).trans (zeroH_0 _ n k hk).symm
  obtain ⟨h1, h2⟩ := rTick0_eq (ρ := ρ) h0
  have h3 : rTickM n s (rTick0 ρ (zeroH η n) n) = rTickM n s (rTick0 ρ (zeroH (fun _ => 0) n) n) := by
    unfold rTickM
    rw [← h1, rDrive_eq h2 n (Nat.le_refl n)]
  unfold rT rTick
  show (if ρ 0 = 10000 then _ else _ : (Nat → Int32) × (Nat → Int32)).1 = (if ρ 0 = 10000 then _ else _ : (Nat → Int32) × (Nat → Int32)).1
  by_cases c : ρ 0 = 10000
  · rw [if_pos c, if_pos c]
  · rw [if_neg c, if_neg c]
    show upd _ 0 _ = upd _ 0 _
    rw [h3]
def rPs (n s : Nat) (ρ : Nat → Int32) (t : Nat) : Nat → Int32 := iter (fun ρ _ => rT n s ρ) ρ t
def rPsN (n s : Nat) (ρ : Nat → Int32) (t : Nat) : Int32 := sumN (fun i => rSentN (rPs n s ρ i)) t
theorem rPass_row (n s : Nat) (ρ η : Nat → Int32) : ∀ t, (rPass n s (ρ, η) t).1 = rPs n s ρ t
  | 0 => rfl
  | t + 1 => by
    show (rTick n s (rPass n s (ρ, η) t)).1 = rT n s (rPs n s ρ t)
    rw [← rPass_row n s ρ η t]
    exact rTick_row n s _ _
theorem RQ.rT {ρ : Nat → Int32} {n s : Nat} (h : RQ ρ n s) : RQ (rT n s ρ) n s := RQ.tick (p := (ρ, fun _ => 0)) h
theorem RQ.rPs {ρ : Nat → Int32} {n s : Nat} (h : RQ ρ n s) (t : Nat) : RQ (rPs n s ρ t) n s := by
  rw [← rPass_row n s ρ (fun _ => 0)]
  exact RQ.pass (p := (ρ, fun _ => 0)) h t
def rUntil (n s : Nat) (b : Int32) : Nat → Nat → (Nat → Int32) → Int32
  | 0, _, _ => -1
  | m + 1, i, ρ => if b < rT n s ρ 5 then nI i else rUntil n s b m (i + 1) (rT n s ρ)
def fZ (o : Op) (u : Nat) : Nat → Int32 := if o.1 = 0 then upd (upd o.2.1 9 0) 8 (nI (hCnt u)) else upd o.2.1 9 o.1
def fB (B : Nat → Nat → Int32) (o : Op) (u : Nat) : Nat → Nat → Int32 := if o.1 = 0 then updA (updA B 0 o.2.2) 5 (hRec (B 5) u (B 0)) else updA B 0 o.2.2
section ModelChange
variable {G : Gl} {κ : Kx} {d : Nat} {Q : Option Value → Hp → Prop} {X : String → Hp → Prop} {cs ss : Nat} {σ : Hp} {a : Nat} {r : Nat → Nat} {z : Nat → Int32} {A : Nat → Nat → Int32} {rw : Nat} {ρ η : Nat → Int32}
def rAft (B : Nat → Int32) (n s : Nat) (x y : Int32) (w : Nat) : Int32 := if (rIsT B x && rIn y 0 200) = true then rPs n s B y.toNatClampNeg (58 + 15 * x.toNatClampNeg + w) else 0
variable {B : Nat → Nat → Int32}
def oWait (n s : Nat) (z ρ : Nat → Int32) (x : Int32) : Op := if 10000 < ρ 0 + x then (2, z, ρ) else (0, upd z 11 (rPsN n s ρ x.toNatClampNeg), rPs n s ρ x.toNatClampNeg)
end ModelChange
