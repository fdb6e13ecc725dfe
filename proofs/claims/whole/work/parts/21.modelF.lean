/-! the reference's changes -/
theorem aw_hs {G : Gl} {κ : Kx} {cs ss pc : Nat} {L : List (Option LV)} {st : List Value} {σ σ1 : Hp} (h : ∀ H : Heap, HS G σ H → HS G σ1 H) (k : AW G κ cs ss pc L st σ1) : AW G κ cs ss pc L st σ := by
  obtain ⟨p, l, e, R, s, m, args, below, meth, c, Z⟩ := κ
  intro H locs cells slots ls hH h1 h2 h3
  exact k H locs cells slots ls ⟨h H hH.1, hH.2⟩ h1 h2 h3
theorem aw_eI {G : Gl} {κ : Kx} {cs ss pc : Nat} {L : List (Option LV)} {st : List Value} {σ : Hp} {a n : Nat} {f : Nat → Int32} (g : Nat → Int32) (hσ : σ a = some (eI G n f)) (hg : ∀ j, j < n → f j = g j) (k : AW G κ cs ss pc L st (hset σ a (eI G n g))) : AW G κ cs ss pc L st σ := by
  refine aw_hs (fun H hH x e hx => ?_) k
  by_cases c : x = a
  · subst c
    rw [hset_same] at hx
    obtain rfl := Option.some.inj hx
    obtain ⟨h1, h2⟩ := hH x _ hσ
    refine ⟨h1, ?_⟩
    have e1 : vp_cell (gC G 0) (n, .inl f) = vp_cell (gC G 0) (n, .inl g) := by
      rw [vp_cell_i, vp_cell_i]
      unfold arrV
      congr 2
      funext j
      show Value.int (f j.val) = Value.int (g j.val)
      rw [hg j.val j.isLt]
    exact (show H[x]? = some (vp_cell (gC G 0) (n, .inl f)) from h2).trans (congrArg some e1)
  · rw [hset_ne c] at hx
    exact hH x e hx
section MVarr
variable {G : Gl} {κ : Kx} {cs ss pc : Nat} {L : List (Option LV)} {st : List Value} {σ : Hp} {a : Nat} {r : Nat → Nat} {z : Nat → Int32} {A : Nat → Nat → Int32} {rw : Nat} {ρ η : Nat → Int32}
theorem MV.arr (h : MV G σ a r z A rw ρ η) (k : Nat) (hk : mArr k) (h1 : k ≠ rw) (h2 : k ≠ 6) : σ (r k) = some (eI G (mLen k) (A k)) := by
  have h3 := MS.arr h k hk
  rw [updA_ne h2, updA_ne h1] at h3
  exact h3
theorem mv_A (h : MV G σ a r z A rw ρ η) (k : Nat) (hk : mArr k) (h1 : k ≠ rw) (h2 : k ≠ 6) {n : Nat} {f : Nat → Int32} (hn : n = mLen k) (kk : ∀ σ1 : Hp, MV G σ1 a r z (updA A k f) rw ρ η → MF a r σ σ1 → AW G κ cs ss pc L st σ1) : AW G κ cs ss pc L st (hset σ (r k) (eI G n f)) := by
  refine ms_A h k hk hn (fun σ1 h3 f3 => kk σ1 ?_ f3)
  unfold MV
  rw [updA_comm _ _ _ (Ne.symm h2), updA_comm _ _ _ (Ne.symm h1)] at h3
  exact h3
theorem mv_rw (h : MV G σ a r z A rw ρ η) {fs : List Value} (rw1 : Nat) (hrw : rw1 = 0 ∨ rw1 = 1) (hfs : fs = mFs r z (r rw1)) (kk : ∀ σ1 : Hp, MV G σ1 a r z (updA A rw ρ) rw1 (updA A rw ρ rw1) η → MF a r σ σ1 → AW G κ cs ss pc L st σ1) : AW G κ cs ss pc L st (hset σ a (.inr (10, fs))) := by
  subst hfs
  refine kk _ ?_ (MS.setz h z rw1 hrw).2
  unfold MV
  rw [updA_id]
  exact (MS.setz h z rw1 hrw).1
end MVarr
/-- what calls may find later: the row, the snapshot, the history, the output, the buffer -/
def keyP (k : Nat) : Prop := k = 4 ∨ k = 5 ∨ k = 13 ∨ k = 15 ∨ k = 25
def MP (G : Gl) (σ : Hp) (a : Nat) (r : Nat → Nat) (z : Nat → Int32) (B : Nat → Nat → Int32) : Prop := ∃ A : Nat → Nat → Int32, MV G σ a r z A 0 (B 0) (A 6) ∧ ∀ k, keyP k → A k = B k
theorem MP.mk {G : Gl} {σ : Hp} {a : Nat} {r : Nat → Nat} {z : Nat → Int32} {A : Nat → Nat → Int32} {ρ η : Nat → Int32} {B : Nat → Nat → Int32} (h : MV G σ a r z A 0 ρ η) (h0 : B 0 = ρ) (hB : ∀ k, keyP k → A k = B k) : MP G σ a r z B := by
  subst h0
  refine ⟨updA A 6 η, ?_, fun k hk => ?_⟩
  · rw [updA_same]
    unfold MV at h ⊢
    rw [updA_comm A _ _ (show (6 : Nat) ≠ 0 by decide), updA_updA]
    exact h
  · rw [updA_ne (by unfold keyP at hk; omega)]; exact hB k hk
theorem keyU {A B : Nat → Nat → Int32} (hB : ∀ k, keyP k → A k = B k) {k0 : Nat} {f : Nat → Int32} (h : ¬ keyP k0) : ∀ k, keyP k → updA A k0 f k = B k := fun k hk => (updA_ne (show k ≠ k0 from fun e => h (e ▸ hk))).trans (hB k hk)
theorem keyS {A B : Nat → Nat → Int32} (hB : ∀ k, keyP k → A k = B k) (k0 : Nat) (f : Nat → Int32) : ∀ k, keyP k → updA A k0 f k = updA B k0 f k := fun k hk => by
  by_cases e : k = k0
  · rw [e, updA_same, updA_same]
  · rw [updA_ne e, updA_ne e]; exact hB k hk
theorem key0 {A B : Nat → Nat → Int32} (hB : ∀ k, keyP k → A k = B k) (f : Nat → Int32) : ∀ k, keyP k → A k = updA B 0 f k := fun k hk => (hB k hk).trans (updA_ne (by unfold keyP at hk; omega)).symm
theorem upd_id (f : Nat → Int32) (k : Nat) (x : Int32) (h : f k = x) : upd f k x = f := by
  funext j
  by_cases e : j = k
  · rw [e, upd_same, h]
  · rw [upd_ne e]
def hShift (H : Nat → Int32) (i : Nat) : Nat → Int32 := fun x => if x < 184 * i then H (x + 184) else H x
theorem cpy0 {f g : Nat → Int32} {k : Nat} (h : k < 184) : va_cpy f g (184 * 0) (184 * 0) 184 k = f k := by
  rw [pk_cpy_in (by omega) (by omega)]
  congr 1
  omega
theorem cpyI {f g : Nat → Int32} {i k : Nat} (h : k < 184) : va_cpy f g (184 * i) (184 * 0) 184 k = f (184 * i + k) := by
  rw [pk_cpy_in (by omega) (by omega)]
  congr 1
theorem hShift_s {H : Nat → Int32} {i k : Nat} : va_cpy (hShift H i) (hShift H i) (184 * (i + 1)) (184 * i) 184 k = hShift H (i + 1) k := by
  by_cases c : 184 * i ≤ k ∧ k < 184 * i + 184
  · rw [pk_cpy_in c.1 c.2]
    unfold hShift
    rw [if_neg (by omega), if_pos (by omega)]
    congr 1
    omega
  · rw [pk_cpy_out (by omega)]
    unfold hShift
    by_cases c2 : k < 184 * i
    · rw [if_pos c2, if_pos (by omega)]
    · rw [if_neg c2, if_neg (by omega)]
theorem hShift_0 (H : Nat → Int32) : hShift H 0 = H := by
  funext k
  exact if_neg (by omega)
def rPut0 (ρ : Nat → Int32) (q p : Nat) (x c k : Int32) : Nat → Int32 := upd (upd (upd (va_cpy ρ ρ (148 + 3 * p) (148 + 3 * p + 3) (3 * (q - p))) (148 + 3 * p + 0) x) (148 + 3 * p + 1) c) (148 + 3 * p + 2) k
def rPut (ρ : Nat → Int32) (p : Nat) (x c k : Int32) : Nat → Int32 := upd (upd (rPut0 ρ (rQ ρ) p x c k) 6 (ρ 6 + 1)) 7 (ρ 7 + 1)
theorem rPut0_lo {ρ : Nat → Int32} {q p j : Nat} {x c k : Int32} (h : j < 148) : rPut0 ρ q p x c k j = ρ j := by
  unfold rPut0
  rw [upd_ne (by omega), upd_ne (by omega), upd_ne (by omega), pk_cpy_out (Or.inl (by omega))]
abbrev Op : Type := Int32 × (Nat → Int32) × (Nat → Int32)
def oPut (z ρ : Nat → Int32) (p : Nat) (x c k : Int32) : Op := if ρ 6 = 12 then (2, z, ρ) else (0, upd z 11 (ρ 6 + 1), rPut ρ p x c k)
def oInt (z ρ : Nat → Int32) (p : Nat) (x c : Int32) : Op := oPut z ρ p x c (x ^^^ c)
def oShort (z ρ : Nat → Int32) (s : Nat) (x v : Int32) : Op := if rIsS ρ x = true then (0, upd z 11 (rCnt (upd ρ (34 + x.toNatClampNeg) v) 34 s), upd ρ (34 + x.toNatClampNeg) v) else (1, z, ρ)
def oClear (z ρ : Nat → Int32) : Op := (0, upd z 11 (ρ 6), upd (upd ρ 9 (ρ 9 + ρ 6)) 6 0)
def oRead (z ρ : Nat → Int32) (n : Nat) (x v : Int32) : Op := if ρ (58 + 15 * x.toNatClampNeg + 5) = 0 ∧ rFirst ρ n 0 v = none then (0, upd z 11 (ρ (58 + 15 * x.toNatClampNeg + 0)), upd ρ (58 + 15 * x.toNatClampNeg + 0) v) else (3, z, ρ)
def hRec (H : Nat → Int32) (u : Nat) (ρ : Nat → Int32) : Nat → Int32 := if u = 8 then va_cpy ρ (hShift H 7) 0 (184 * 7) 184 else va_cpy ρ H 0 (184 * u) 184
def hCnt (u : Nat) : Nat := if u = 8 then 8 else u + 1
/-- 'heard' doesn't matter ahead of a tick -/
def hEq (n : Nat) (η θ : Nat → Int32) : Prop := ∀ k, k < n → η k = θ k
theorem zeroH_0 (η : Nat → Int32) : ∀ (n k : Nat), k < n → zeroH η n k = 0
  | n + 1, k, hk => by
    show upd (zeroH η n) n 0 k = 0
    by_cases e : k = n
    · rw [e, upd_same]
    · rw [upd_ne e]; exact zeroH_0 η n k (by omega)
theorem rRecvIf_eq {n k : Nat} {ρ η θ : Nat → Int32} (h : hEq n η θ) : (rRecvIf (ρ, η) k).1 = (rRecvIf (ρ, θ) k).1 ∧ hEq n (rRecvIf (ρ, η) k).2 (rRecvIf (ρ, θ) k).2 := by
  unfold rRecvIf
  by_cases c : rFor ρ 0 k = true
  · rw [if_pos (show rFor (ρ, η).1 0 k = true from c), if_pos (show rFor (ρ, θ).1 0 k = true from c)]
    refine ⟨rfl, fun j hj => ?_⟩
    show rRecvH ρ η k j = rRecvH ρ θ k j
    unfold rRecvH
    split
    · exact h j hj
    · split
      · by_cases e : j = k
        · rw [e, upd_same, upd_same]
        · rw [upd_ne e, upd_ne e]; exact h j hj
      · exact h j hj
  · rw [if_neg (show ¬ rFor (ρ, η).1 0 k = true from c), if_neg (show ¬ rFor (ρ, θ).1 0 k = true from c)]
    exact ⟨rfl, h⟩
theorem rSend_eq {n : Nat} {ρ η θ : Nat → Int32} (h : hEq n η θ) : ∀ i, (rSend (ρ, η) i).1 = (rSend (ρ, θ) i).1 ∧ hEq n (rSend (ρ, η) i).2 (rSend (ρ, θ) i).2
  | 0 => ⟨rfl, h⟩
  | i + 1 => by
    obtain ⟨h1, h2⟩ := rSend_eq h i
    have h3 := rRecvIf_eq (k := i) (ρ := (rSend (ρ, η) i).1) h2
    show (rRecvIf (rSend (ρ, η) i) i).1 = (rRecvIf (rSend (ρ, θ) i) i).1 ∧ hEq n (rRecvIf (rSend (ρ, η) i) i).2 (rRecvIf (rSend (ρ, θ) i) i).2
    have e1 : rSend (ρ, θ) i = ((rSend (ρ, η) i).1, (rSend (ρ, θ) i).2) := by rw [h1]
    rw [e1]
    exact h3
theorem rTick0_eq {n : Nat} {ρ η θ : Nat → Int32} (h : hEq n η θ) : (rTick0 ρ η n).1 = (rTick0 ρ θ n).1 ∧ hEq n (rTick0 ρ η n).2 (rTick0 ρ θ n).2 := by
  obtain ⟨h1, h2⟩ := rSend_eq (ρ := ρ) h n
  unfold rTick0 rSentR
  split
  · exact ⟨by show rShift _ _ = rShift _ _; rw [h1], h2⟩
  · exact ⟨rfl, h⟩
theorem rDrive_eq {n : Nat} {ρ η θ : Nat → Int32} (h : hEq n η θ) : ∀ i, i ≤ n → iter (rDrive η) ρ i = iter (rDrive θ) ρ i := by
  intro i
  induction i with
  | zero => intro _; exact (rfl : ρ = ρ)
  | succ i ih =>
    intro hi
    show rDrive η (iter (rDrive η) ρ i) i = rDrive θ (iter (rDrive θ) ρ i) i
    have e : ∀ ρ1 : Nat → Int32, rListen ρ1 η i = rListen ρ1 θ i := fun ρ1 => by
      unfold rListen
      rw [h i (by omega)]
    rw [ih (by omega)]
    show rDim (rSpeed (rListen _ η i) i) i = rDim (rSpeed (rListen _ θ i) i) i
    rw [e]
def rT (n s : Nat) (ρ : Nat → Int32) : Nat → Int32 := (rTick n s (ρ, fun _ => 0)).1
theorem rTick_row (n s : Nat) (ρ η : Nat → Int32) : (rTick n s (ρ, η)).1 = rT n s ρ := by
  have h0 : hEq n (zeroH η n) (zeroH (fun _ => 0) n) := fun k hk => (zeroH_0 _ n k hk).trans (zeroH_0 _ n k hk).symm
  obtain ⟨h1, h2⟩ := rTick0_eq (ρ := ρ) h0
  have h3 : rTickM n s (rTick0 ρ (zeroH η n) n) = rTickM n s (rTick0 ρ (zeroH (fun _ => 0) n) n) := by
    unfold rTickM
    rw [← h1, rDrive_eq h2 n (Nat.le_refl n)]
  unfold rT rTick
  show (if ρ 0 = 10000 then _ else _ : (Nat → Int32) × (Nat → Int32)).1 = (if ρ 0 = 10000 then _ else _ : (Nat → Int32) × (Nat → Int32)).1
  by_cases c : ρ 0 = 10000
  · rw [if_pos c, if_pos c]
  · rw [if_neg c, if_neg c]
    show upd _ 0 _ = upd _ 0 _
    rw [h3]
def rPs (n s : Nat) (ρ : Nat → Int32) (t : Nat) : Nat → Int32 := iter (fun ρ _ => rT n s ρ) ρ t
def rPsN (n s : Nat) (ρ : Nat → Int32) (t : Nat) : Int32 := sumN (fun i => rSentN (rPs n s ρ i)) t
theorem rPass_row (n s : Nat) (ρ η : Nat → Int32) : ∀ t, (rPass n s (ρ, η) t).1 = rPs n s ρ t
  | 0 => rfl
  | t + 1 => by
    show (rTick n s (rPass n s (ρ, η) t)).1 = rT n s (rPs n s ρ t)
    rw [← rPass_row n s ρ η t]
    exact rTick_row n s _ _
theorem rPassN_row (n s : Nat) (ρ η : Nat → Int32) : ∀ t, rPassN n s (ρ, η) t = rPsN n s ρ t
  | 0 => rfl
  | t + 1 => by
    show rPassN n s (ρ, η) t + rSentN (rPass n s (ρ, η) t).1 = rPsN n s ρ t + rSentN (rPs n s ρ t)
    rw [rPassN_row n s ρ η t, rPass_row]
theorem RQ.rT {ρ : Nat → Int32} {n s : Nat} (h : RQ ρ n s) : RQ (rT n s ρ) n s := RQ.tick (p := (ρ, fun _ => 0)) h
theorem RQ.rPs {ρ : Nat → Int32} {n s : Nat} (h : RQ ρ n s) (t : Nat) : RQ (rPs n s ρ t) n s := by
  rw [← rPass_row n s ρ (fun _ => 0)]
  exact RQ.pass (p := (ρ, fun _ => 0)) h t
def rUntil (n s : Nat) (b : Int32) : Nat → Nat → (Nat → Int32) → Int32
  | 0, _, _ => -1
  | m + 1, i, ρ => if b < rT n s ρ 5 then nI i else rUntil n s b m (i + 1) (rT n s ρ)
def fZ (o : Op) (u : Nat) : Nat → Int32 := if o.1 = 0 then upd (upd o.2.1 9 0) 8 (nI (hCnt u)) else upd o.2.1 9 o.1
def fB (B : Nat → Nat → Int32) (o : Op) (u : Nat) : Nat → Nat → Int32 := if o.1 = 0 then updA (updA B 0 o.2.2) 5 (hRec (B 5) u (B 0)) else updA B 0 o.2.2
def fV (o : Op) : Int32 := if o.1 = 0 then o.2.1 11 else 0
section ModelChange
variable {G : Gl} {κ : Kx} {d : Nat} {Q : Option Value → Hp → Prop} {X : String → Hp → Prop} {cs ss : Nat} {σ : Hp} {a : Nat} {r : Nat → Nat} {z : Nat → Int32} {A : Nat → Nat → Int32} {rw : Nat} {ρ η : Nat → Int32}
theorem sp_copy (hΓ : Ok G κ mX13_copy (d + 1) Q X) {p0 p2 n0 n1 i j : Nat} {x y : Int32} {f g f' : Nat → Int32} (h0 : σ p0 = some (eI G n0 f)) (h1 : σ p2 = some (eI G n1 g)) (hx : x = nI i) (hy : y = nI j) (hi : 184 * i + 184 ≤ n0) (hj : 184 * j + 184 ≤ n1) (hn0 : n0 < 2 ^ 31) (hn1 : n1 < 2 ^ 31) (hf : ∀ k, k < n1 → va_cpy f g (184 * i) (184 * j) 184 k = f' k) (hq : Q none (hset σ p2 (eI G n1 f'))) : AW G κ cs ss 0 [lR p0, lI x, lR p2, lI y] [] σ := by
  refine sX13_copy_0 hΓ rfl ?_
  refine sX13_copy_1 hΓ ?_
  refine sX13_copy_4 hΓ rfl ?_
  refine sX13_copy_5 hΓ ?_
  refine sX13_copy_6 hΓ rfl ?_
  refine sX13_copy_7 hΓ ?_
  refine sX13_copy_10 hΓ rfl ?_
  refine sX13_copy_11 hΓ ?_
  refine sX13_copy_12 hΓ ?_
  refine sX13_copy_15 hΓ (Nat.le_of_ble_eq_true rfl) h0 h1 (i := 184 * i) (j := 184 * j) (n := 184) (by rw [hx]; exact pk_mul 184 i) (by rw [hy]; exact pk_mul 184 j) rfl hi hj hn0 hn1 ?_
  refine aw_eI f' (hset_same _ _ _) hf ?_
  rw [hset_hset]
  exact sX13_copy_18 hΓ hq
theorem sp_passR (hΓ : Ok G κ mX13_pass (d + 6) Q X) (h : MV G σ a r z A rw ρ η) {n s t : Nat} {y : Int32} (hy : y = nI t) (ht : t < 1000000) (hR : RQ ρ n s) (hq : ∀ (σ1 : Hp) (η1 : Nat → Int32), MV G σ1 a r z A rw (rPs n s ρ t) η1 → MF a r σ σ1 → Q (some (.int (rPsN n s ρ t))) σ1) : AW G κ cs ss 0 [lR a, lI y, none, none] [] σ :=
  sp_pass hΓ h hy ht hR (fun σ1 h1 f1 => by rw [rPassN_row]; rw [rPass_row] at h1; exact hq σ1 _ h1 f1)
theorem sp_passTickR (hΓ : Ok G κ mX13_passTick (d + 5) Q X) (h : MV G σ a r z A rw ρ η) {n s : Nat} (hR : RQ ρ n s) (hq : ∀ (σ1 : Hp) (η1 : Nat → Int32), MV G σ1 a r z A rw (rT n s ρ) η1 → MF a r σ σ1 → Q (some (.int (rSentN ρ))) σ1) : AW G κ cs ss 0 [lR a, none, none] [] σ := by
  obtain ⟨hR1, q, hq12, hQ⟩ := hR
  exact sp_passTick hΓ h hR1 hQ hq12 (fun σ1 h1 f1 => by rw [rTick_row] at h1; exact hq σ1 _ h1 f1)
theorem sp_keep (hΓ : Ok G κ mX13_keep (d + 2) Q X) (h : MV G σ a r z A 0 ρ η) (hq : ∀ σ1 : Hp, MV G σ1 a r z (updA A 3 ρ) 0 ρ η → MF a r σ σ1 → Q none σ1) : AW G κ cs ss 0 [lR a] [] σ := by
  refine sX13_keep_0 hΓ rfl ?_
  refine sX13_keep_1 hΓ h.o rfl ?_
  refine sX13_keep_4 hΓ ?_
  refine sX13_keep_5 hΓ rfl ?_
  refine sX13_keep_6 hΓ h.o rfl ?_
  refine sX13_keep_9 hΓ ?_
  refine sX13_keep_10 hΓ 0 0 (Nat.le_of_ble_eq_true rfl) (fun κ_10 hΓ_10 => sp_copy hΓ_10 h.row (h.arr 3 (Or.inl (by decide)) (by decide) (by decide)) (i := 0) (j := 0) rfl rfl (by decide) (by decide) (by decide) (by decide) (f' := ρ) (fun k hk => cpy0 hk) (mv_A h 3 (Or.inl (by decide)) (by decide) (by decide) rfl (fun σ1 h1 f1 => ?_)))
  show AW G κ _ _ 13 _ _ _
  exact sX13_keep_13 hΓ (hq _ h1 f1)
theorem sp_record (hΓ : Ok G κ mX13_record (d + 2) Q X) (h : MV G σ a r z A 0 ρ η) {u : Nat} (hu : z 8 = nI u) (hu8 : u ≤ 8) (hq : ∀ σ1 : Hp, MV G σ1 a r (upd z 8 (nI (hCnt u))) (updA A 5 (hRec (A 5) u (A 3))) 0 ρ η → MF a r σ σ1 → Q none σ1) : AW G κ cs ss 0 [lR a, none] [] σ := by
  suffices fin : ∀ (σ2 : Hp) (u2 : Nat) (H5 : Nat → Int32) (o : Option LV), u2 ≤ 7 → MV G σ2 a r (upd z 8 (nI u2)) (updA A 5 H5) 0 ρ η → MF a r σ σ2 → hCnt u = u2 + 1 → hRec (A 5) u (A 3) = va_cpy (A 3) H5 0 (184 * u2) 184 → AW G κ cs ss 48 [lR a, o] [] σ2 by
    refine sX13_record_0 hΓ rfl ?_
    refine sX13_record_1 hΓ h.o rfl ?_
    refine sX13_record_4 hΓ ?_
    refine sX13_record_6 hΓ (fun c6 => ?_) (fun c6 => ?_)
    · have hu7 : u ≠ 8 := fun e => c6 (by rw [hu, e]; rfl)
      exact fin σ u (A 5) _ (by omega) (by rw [upd_id z 8 _ hu, updA_id]; exact h) MF.rf (by rw [hCnt, if_neg hu7]) (by rw [hRec, if_neg hu7])
    · have e8 : u = 8 := (nI_eq (by omega) (by decide)).mp (hu.symm.trans c6)
      subst e8
      suffices loop : ∀ (m i : Nat) (x : Int32) (σ2 : Hp), i + m = 7 → x = nI (i + 1) → MV G σ2 a r z (updA A 5 (hShift (A 5) i)) 0 ρ η → MF a r σ σ2 → AW G κ cs ss 11 [lR a, lI x] [] σ2 by
        refine sX13_record_9 hΓ ?_
        refine sX13_record_10 hΓ ?_
        exact loop 7 0 _ σ rfl rfl (by rw [hShift_0, updA_id]; exact h) MF.rf
      intro m
      induction m with
      | zero =>
        intro i x σ2 hi hx h f
        have ei : i = 7 := by omega
        subst ei
        refine sX13_record_11 hΓ rfl ?_
        refine sX13_record_12 hΓ ?_
        refine sX13_record_14 hΓ (fun c14 => ?_) (fun c14 => absurd (lp_out hx (n := 8) rfl (by decide) (by decide)) c14)
        refine sX13_record_38 hΓ rfl ?_
        refine sX13_record_39 hΓ ?_
        refine sX13_record_40 hΓ h.o rfl ?_
        refine sX13_record_43 hΓ ?_
        refine sX13_record_44 hΓ ?_
        refine sX13_record_45 hΓ h.o  (Nat.le_of_ble_eq_true rfl) (mv_z h (upd z 8 (z 8 - 1)) rfl (fun σ1 h1 f1 => ?_))
        exact fin _ 7 (hShift (A 5) 7) _ (by decide) (by rw [hu, show nI 8 - 1 = nI 7 from pk_sub (b := 1) (by decide)] at h1; exact h1) (f.tr f1) rfl rfl
      | succ m ih =>
        intro i x σ2 hi hx h f
        refine sX13_record_11 hΓ rfl ?_
        refine sX13_record_12 hΓ ?_
        refine sX13_record_14 hΓ (fun c14 => absurd c14 (lp_in hx (n := 8) rfl (by omega) (by decide))) (fun c14 => ?_)
        refine sX13_record_17 hΓ rfl ?_
        refine sX13_record_18 hΓ h.o rfl ?_
        refine sX13_record_21 hΓ rfl ?_
        refine sX13_record_22 hΓ rfl ?_
        refine sX13_record_23 hΓ h.o rfl ?_
        refine sX13_record_26 hΓ rfl ?_
        refine sX13_record_27 hΓ ?_
        refine sX13_record_28 hΓ ?_
        refine sX13_record_29 hΓ 0 0 (Nat.le_of_ble_eq_true rfl) (fun κ_29 hΓ_29 => sp_copy hΓ_29 (h.arr 5 (Or.inl (by decide)) (by decide) (by decide)) (h.arr 5 (Or.inl (by decide)) (by decide) (by decide)) (i := i + 1) (j := i) hx (by rw [hx]; exact nI_pred i) (by show _ ≤ 1472; omega) (by show _ ≤ 1472; omega) (by decide) (by decide) (f' := hShift (A 5) (i + 1)) (fun k hk => by rw [updA_same]; exact hShift_s) (mv_A h 5 (Or.inl (by decide)) (by decide) (by decide) rfl (fun σ11 h11 f11 => ?_)))
        show AW G κ _ _ 32 _ _ _
        refine sX13_record_32 hΓ rfl ?_
        refine sX13_record_35 hΓ ?_
        exact ih (i + 1) _ _ (by omega) (lp_1 hx) (by rw [updA_updA] at h11; exact h11) (f.tr f11)
  intro σ2 u2 H5 o hu2 h f e1 e2
  refine sX13_record_48 hΓ rfl ?_
  refine sX13_record_49 hΓ h.o rfl ?_
  refine sX13_record_52 hΓ ?_
  refine sX13_record_53 hΓ rfl ?_
  refine sX13_record_54 hΓ h.o rfl ?_
  refine sX13_record_57 hΓ rfl ?_
  refine sX13_record_58 hΓ h.o rfl ?_
  refine sX13_record_61 hΓ 0 0 (Nat.le_of_ble_eq_true rfl) (fun κ_61 hΓ_61 => sp_copy hΓ_61 (h.arr 3 (Or.inl (by decide)) (by decide) (by decide)) (h.arr 5 (Or.inl (by decide)) (by decide) (by decide)) (i := 0) (j := u2) rfl (upd_same _ _ _) (by decide) (by show _ ≤ 1472; omega) (by decide) (by decide) (f' := va_cpy (A 3) H5 0 (184 * u2) 184) (fun _ _ => rfl) (mv_A h 5 (Or.inl (by decide)) (by decide) (by decide) rfl (fun σ31 h31 f31 => ?_)))
  show AW G κ _ _ 64 _ _ _
  refine sX13_record_64 hΓ rfl ?_
  refine sX13_record_65 hΓ ?_
  refine sX13_record_66 hΓ h31.o rfl ?_
  refine sX13_record_69 hΓ ?_
  refine sX13_record_70 hΓ ?_
  refine sX13_record_71 hΓ h31.o  (Nat.le_of_ble_eq_true rfl) (mv_z h31 (upd (upd z 8 (nI u2)) 8 ((upd z 8 (nI u2)) 8 + 1)) rfl (fun σ32 h32 f32 => ?_))
  exact sX13_record_74 hΓ (hq _ (by rw [e1, e2]; rw [updA_updA, updI_updI, upd_same, nI_1] at h32; exact h32) ((f.tr f31).tr f32))
theorem sp_ends (hΓ : Ok G κ mX13_ends (d + 3) Q X) (h : MV G σ a r z A 0 ρ η) {u : Nat} {x : Int32} (hu : z 8 = nI u) (hu8 : u ≤ 8) (hq0 : x = 0 → ∀ σ1 : Hp, MV G σ1 a r (upd (upd z 9 0) 8 (nI (hCnt u))) (updA A 5 (hRec (A 5) u (A 3))) 0 ρ η → MF a r σ σ1 → Q (some (.int (z 11))) σ1) (hq1 : ¬ x = 0 → ∀ σ1 : Hp, MV G σ1 a r (upd z 9 x) A 0 ρ η → MF a r σ σ1 → Q (some (.int 0)) σ1) : AW G κ cs ss 0 [lR a, lI x] [] σ := by
  refine sX13_ends_0 hΓ rfl ?_
  refine sX13_ends_1 hΓ rfl ?_
  refine sX13_ends_2 hΓ h.o  (Nat.le_of_ble_eq_true rfl) (mv_z h (upd z 9 x) rfl (fun σ1 h1 f1 => ?_))
  refine sX13_ends_5 hΓ rfl ?_
  refine sX13_ends_6 hΓ (fun c6 => ?_) (fun c6 => ?_)
  · refine sX13_ends_11 hΓ rfl ?_
    refine sX13_ends_12 hΓ 0 0 (Nat.le_of_ble_eq_true rfl) h1.o (fun κ_12 hΓ_12 => sp_record hΓ_12 h1 (u := u) ((upd_ne (by decide)).trans hu) hu8 (fun σ2 h2 f2 => ?_))
    show AW G κ _ _ 15 _ _ _
    refine sX13_ends_15 hΓ rfl ?_
    refine sX13_ends_16 hΓ h2.o rfl ?_
    exact sX13_ends_19 hΓ (hq0 c6 _ (by rw [c6] at h2; exact h2) (f1.tr f2))
  · refine sX13_ends_9 hΓ ?_
    exact sX13_ends_10 hΓ (hq1 c6 _ h1 f1)
theorem sp_foresee (hΓ : Ok G κ mX13_foresee (d + 7) Q X) (h : MV G σ a r z A 0 ρ η) {n s t : Nat} {y : Int32} (hy : y = nI t) (ht : t < 1000000) (hR : RQ ρ n s) (hq : ∀ (σ1 : Hp) (η1 : Nat → Int32), MV G σ1 a r z (updA A 2 ρ) 0 (rPs n s ρ t) η1 → MF a r σ σ1 → Q none σ1) : AW G κ cs ss 0 [lR a, lI y, none] [] σ := by
  refine sX13_foresee_0 hΓ rfl ?_
  refine sX13_foresee_1 hΓ h.o rfl ?_
  refine sX13_foresee_4 hΓ ?_
  refine sX13_foresee_5 hΓ rfl ?_
  refine sX13_foresee_6 hΓ h.o rfl ?_
  refine sX13_foresee_9 hΓ ?_
  refine sX13_foresee_10 hΓ 0 0 (Nat.le_of_ble_eq_true rfl) (fun κ_10 hΓ_10 => sp_copy hΓ_10 h.row (h.arr 2 (Or.inl (by decide)) (by decide) (by decide)) (i := 0) (j := 0) rfl rfl (by decide) (by decide) (by decide) (by decide) (f' := ρ) (fun k hk => cpy0 hk) (mv_A h 2 (Or.inl (by decide)) (by decide) (by decide) rfl (fun σ1 h1 f1 => ?_)))
  show AW G κ _ _ 13 _ _ _
  refine sX13_foresee_13 hΓ rfl ?_
  refine sX13_foresee_14 hΓ rfl ?_
  refine sX13_foresee_15 hΓ 0 0 (Nat.le_of_ble_eq_true rfl) h1.o (fun κ_15 hΓ_15 => sp_passR hΓ_15 h1 hy ht hR (fun σ2 η2 h2 f2 => ?_))
  show AW G κ _ _ 18 _ _ _
  refine sX13_foresee_18 hΓ ?_
  exact sX13_foresee_19 hΓ (hq _ _ h2 (f1.tr f2))
theorem sp_laidBack (hΓ : Ok G κ mX13_laidBack (d + 2) Q X) (h : MV G σ a r z A 0 ρ η) {y : Int32} (hq : ∀ σ1 : Hp, MV G σ1 a r z A 0 (A 2) η → MF a r σ σ1 → Q (some (.int y)) σ1) : AW G κ cs ss 0 [lR a, lI y] [] σ := by
  refine sX13_laidBack_0 hΓ rfl ?_
  refine sX13_laidBack_1 hΓ h.o rfl ?_
  refine sX13_laidBack_4 hΓ ?_
  refine sX13_laidBack_5 hΓ rfl ?_
  refine sX13_laidBack_6 hΓ h.o rfl ?_
  refine sX13_laidBack_9 hΓ ?_
  refine sX13_laidBack_10 hΓ 0 0 (Nat.le_of_ble_eq_true rfl) (fun κ_10 hΓ_10 => sp_copy hΓ_10 (h.arr 2 (Or.inl (by decide)) (by decide) (by decide)) h.row (i := 0) (j := 0) rfl rfl (by decide) (by decide) (by decide) (by decide) (f' := A 2) (fun k hk => cpy0 hk) (mv_row h (fun σ1 h1 f1 => ?_)))
  show AW G κ _ _ 13 _ _ _
  refine sX13_laidBack_13 hΓ rfl ?_
  exact sX13_laidBack_14 hΓ (hq _ h1 f1)
def rAft (B : Nat → Int32) (n s : Nat) (x y : Int32) (w : Nat) : Int32 := if (rIsT B x && rIn y 0 200) = true then rPs n s B y.toNatClampNeg (58 + 15 * x.toNatClampNeg + w) else 0
variable {B : Nat → Nat → Int32}
theorem rp_after (hΓ : Ok G κ mX13_after (d + 8) Q X) (h : MP G σ a r z B) {n s w : Nat} {x y v : Int32} (hv : v = nI w) (hw : w < 15) (hR : RQ (B 0) n s) (hq : ∀ σ1 : Hp, MP G σ1 a r (upd z 9 (rThr2 (rIsT (B 0) x) (rIn y 0 200))) B → MF a r σ σ1 → Q (some (.int (rAft (B 0) n s x y w))) σ1) : AW G κ cs ss 0 [lR a, lI x, lI y, lI v] [] σ := by
  obtain ⟨A, h, hB⟩ := h
  have hn6 := hR.1.2.1
  refine sX13_after_0 hΓ rfl ?_
  refine sX13_after_1 hΓ rfl ?_
  refine sX13_after_2 hΓ rfl ?_
  refine sX13_after_3 hΓ 0 0 (Nat.le_of_ble_eq_true rfl) h.o (fun κ_3 hΓ_3 => sp_isTrain hΓ_3 h ?_)
  show AW G κ _ _ 6 _ _ _
  refine sX13_after_6 hΓ rfl ?_
  refine sX13_after_7 hΓ ?_
  refine sX13_after_8 hΓ ?_
  refine sX13_after_11 hΓ 0 0 (Nat.le_of_ble_eq_true rfl) (fun κ_11 hΓ_11 => sp_inRange hΓ_11 ?_)
  show AW G κ _ _ 14 _ _ _
  refine sX13_after_14 hΓ 0 0 (Nat.le_of_ble_eq_true rfl) h.o (fun κ_14 hΓ_14 => sp_lacksBoth hΓ_14 h rfl rfl (fun σ1 h1 f1 => ?_))
  show AW G κ _ _ 17 _ _ _
  refine sX13_after_17 hΓ (fun c17 => ?_) (fun c17 => ?_)
  · obtain ⟨c1, c2⟩ := rThr2_0 c17
    obtain ⟨k, hk, hx⟩ := rIn_nI (n := n) (by omega) (by rw [← hR.1.1]; exact c1)
    obtain ⟨t, ht, hy⟩ := rIn_nI (n := 201) (by omega) (show rIn y 0 (nI 201 - 1) = true from c2)
    have eA : rAft (B 0) n s x y w = rPs n s (B 0) t (58 + 15 * k + w) := by rw [rAft, c1, c2, hx, hy, nI_clamp (by omega), nI_clamp (by omega)]; rfl
    rw [eA] at hq
    refine sX13_after_22 hΓ rfl ?_
    refine sX13_after_23 hΓ rfl ?_
    refine sX13_after_24 hΓ 0 0 (Nat.le_of_ble_eq_true rfl) h1.o (fun κ_24 hΓ_24 => sp_foresee hΓ_24 h1 hy (by omega) hR (fun σ2 η2 h2 f2 => ?_))
    show AW G κ _ _ 27 _ _ _
    refine sX13_after_27 hΓ rfl ?_
    refine sX13_after_28 hΓ rfl ?_
    refine sX13_after_29 hΓ rfl ?_
    refine sX13_after_30 hΓ rfl ?_
    refine sX13_after_31 hΓ 0 0 (Nat.le_of_ble_eq_true rfl) h2.o (fun κ_31 hΓ_31 => sp_of hΓ_31 h2 hx hv (by omega) hw ?_)
    show AW G κ _ _ 34 _ _ _
    refine sX13_after_34 hΓ 0 0 (Nat.le_of_ble_eq_true rfl) h2.o (fun κ_34 hΓ_34 => sp_laidBack hΓ_34 h2 (fun σ3 h3 f3 => ?_))
    show AW G κ _ _ 37 _ _ _
    exact sX13_after_37 hΓ (hq _ (MP.mk h3 (updA_same _ _ _).symm (keyU hB (by unfold keyP; omega))) ((f1.tr f2).tr f3))
  · have eA : rAft (B 0) n s x y w = 0 := by rw [rAft, bN_n c17]; rfl
    rw [eA] at hq
    refine sX13_after_20 hΓ ?_
    exact sX13_after_21 hΓ (hq _ (MP.mk h1 rfl hB) f1)
theorem rp_sectionAfter (hΓ : Ok G κ mX13_sectionAfter (d + 9) Q X) (h : MP G σ a r z B) {n s : Nat} {x y : Int32} (hR : RQ (B 0) n s) (hq : ∀ σ1 : Hp, MP G σ1 a r (upd z 9 (rThr2 (rIsT (B 0) x) (rIn y 0 200))) B → MF a r σ σ1 → Q (some (.int (rAft (B 0) n s x y 3))) σ1) : AW G κ cs ss 0 [lR a, lI x, lI y] [] σ := by
  obtain ⟨A, h, hB⟩ := h
  refine sX13_sectionAfter_0 hΓ rfl ?_
  refine sX13_sectionAfter_1 hΓ rfl ?_
  refine sX13_sectionAfter_2 hΓ rfl ?_
  refine sX13_sectionAfter_3 hΓ ?_
  refine sX13_sectionAfter_4 hΓ 0 0 (Nat.le_of_ble_eq_true rfl) h.o (fun κ_4 hΓ_4 => rp_after hΓ_4 ⟨A, h, hB⟩ (w := 3) rfl (by decide) hR (fun σ1 h1 f1 => ?_))
  show AW G κ _ _ 7 _ _ _
  exact sX13_sectionAfter_7 hΓ (hq _ h1 f1)
theorem rp_speedAfter (hΓ : Ok G κ mX13_speedAfter (d + 9) Q X) (h : MP G σ a r z B) {n s : Nat} {x y : Int32} (hR : RQ (B 0) n s) (hq : ∀ σ1 : Hp, MP G σ1 a r (upd z 9 (rThr2 (rIsT (B 0) x) (rIn y 0 200))) B → MF a r σ σ1 → Q (some (.int (rAft (B 0) n s x y 5))) σ1) : AW G κ cs ss 0 [lR a, lI x, lI y] [] σ := by
  obtain ⟨A, h, hB⟩ := h
  refine sX13_speedAfter_0 hΓ rfl ?_
  refine sX13_speedAfter_1 hΓ rfl ?_
  refine sX13_speedAfter_2 hΓ rfl ?_
  refine sX13_speedAfter_3 hΓ ?_
  refine sX13_speedAfter_4 hΓ 0 0 (Nat.le_of_ble_eq_true rfl) h.o (fun κ_4 hΓ_4 => rp_after hΓ_4 ⟨A, h, hB⟩ (w := 5) rfl (by decide) hR (fun σ1 h1 f1 => ?_))
  show AW G κ _ _ 7 _ _ _
  exact sX13_speedAfter_7 hΓ (hq _ h1 f1)
theorem sp_untilCutoff (hΓ : Ok G κ mX13_untilCutoff (d + 6) Q X) (h : MV G σ a r z A 0 ρ η) {n s : Nat} (hR : RQ ρ n s) (hq : ∀ (σ1 : Hp) (ρ1 η1 : Nat → Int32), MV G σ1 a r z A 0 ρ1 η1 → MF a r σ σ1 → Q (some (.int (rUntil n s (ρ 5) 200 1 ρ))) σ1) : AW G κ cs ss 0 [lR a, none, none, none] [] σ := by
  suffices loop : ∀ (m i : Nat) (x : Int32) (o : Option LV) (σ2 : Hp) (ρ2 η2 : Nat → Int32), i + m = 201 → x = nI i → MV G σ2 a r z A 0 ρ2 η2 → MF a r σ σ2 → RQ ρ2 n s → rUntil n s (ρ 5) m i ρ2 = rUntil n s (ρ 5) 200 1 ρ → AW G κ cs ss 9 [lR a, lI (ρ 5), lI x, o] [] σ2 by
    refine sX13_untilCutoff_0 hΓ rfl ?_
    refine sX13_untilCutoff_1 hΓ h.o rfl ?_
    refine sX13_untilCutoff_4 hΓ ?_
    refine sX13_untilCutoff_5 hΓ h.row (j := 5) rfl (by decide) (by decide) ?_
    refine sX13_untilCutoff_6 hΓ ?_
    refine sX13_untilCutoff_7 hΓ ?_
    refine sX13_untilCutoff_8 hΓ ?_
    exact loop 200 1 _ _ σ ρ η rfl rfl h MF.rf hR rfl
  intro m
  induction m with
  | zero =>
    intro i x o σ2 ρ2 η2 hi hx h f hR2 e
    rw [← e] at hq
    refine sX13_untilCutoff_9 hΓ rfl ?_
    refine sX13_untilCutoff_10 hΓ ?_
    refine sX13_untilCutoff_13 hΓ (fun c13 => ?_) (fun c13 => absurd (show (200 : Int32) < x by rw [hx]; exact nI_lt (a := 200) (by omega) (by omega)) (Int32.not_lt.mpr (Int32.not_lt.mp c13)))
    refine sX13_untilCutoff_39 hΓ ?_
    exact sX13_untilCutoff_40 hΓ (hq _ _ _ h f)
  | succ m ih =>
    intro i x o σ2 ρ2 η2 hi hx h f hR2 e
    refine sX13_untilCutoff_9 hΓ rfl ?_
    refine sX13_untilCutoff_10 hΓ ?_
    refine sX13_untilCutoff_13 hΓ (fun c13 => absurd c13 (Int32.not_lt.mpr (by rw [hx]; exact nI_le (b := 200) (by omega) (by omega)))) (fun c13 => ?_)
    refine sX13_untilCutoff_16 hΓ rfl ?_
    refine sX13_untilCutoff_17 hΓ 0 0 (Nat.le_of_ble_eq_true rfl) h.o (fun κ_17 hΓ_17 => sp_passTickR hΓ_17 h hR2 (fun σ11 η11 h11 f11 => ?_))
    show AW G κ _ _ 20 _ _ _
    refine sX13_untilCutoff_20 hΓ ?_
    refine sX13_untilCutoff_21 hΓ rfl ?_
    refine sX13_untilCutoff_22 hΓ h11.o rfl ?_
    refine sX13_untilCutoff_25 hΓ ?_
    refine sX13_untilCutoff_26 hΓ h11.row (j := 5) rfl (by decide) (by decide) ?_
    refine sX13_untilCutoff_27 hΓ rfl ?_
    refine sX13_untilCutoff_28 hΓ (fun c28 => ?_) (fun c28 => ?_)
    · rw [rUntil, if_neg (Int32.not_lt.mpr c28)] at e
      refine sX13_untilCutoff_33 hΓ rfl ?_
      refine sX13_untilCutoff_36 hΓ ?_
      exact ih (i + 1) _ _ _ _ _ (by omega) (lp_1 hx) h11 (f.tr f11) hR2.rT e
    · rw [rUntil, if_pos (Int32.not_le.mp c28)] at e
      rw [← e] at hq
      refine sX13_untilCutoff_31 hΓ rfl ?_
      exact sX13_untilCutoff_32 hΓ (by rw [hx]; exact hq _ _ _ h11 (f.tr f11))
theorem rp_ticksToCutoff (hΓ : Ok G κ mX13_ticksToCutoff (d + 8) Q X) (h : MP G σ a r z B) {n s : Nat} (hR : RQ (B 0) n s) (hq : ∀ σ1 : Hp, MP G σ1 a r (upd z 9 0) B → MF a r σ σ1 → Q (some (.int (rUntil n s (B 0 5) 200 1 (B 0)))) σ1) : AW G κ cs ss 0 [lR a] [] σ := by
  obtain ⟨A, h, hB⟩ := h
  refine sX13_ticksToCutoff_0 hΓ rfl ?_
  refine sX13_ticksToCutoff_1 hΓ ?_
  refine sX13_ticksToCutoff_2 hΓ h.o  (Nat.le_of_ble_eq_true rfl) (mv_z h (upd z 9 0) rfl (fun σ1 h1 f1 => ?_))
  refine sX13_ticksToCutoff_5 hΓ rfl ?_
  refine sX13_ticksToCutoff_6 hΓ ?_
  refine sX13_ticksToCutoff_7 hΓ 0 0 (Nat.le_of_ble_eq_true rfl) h1.o (fun κ_7 hΓ_7 => sp_foresee hΓ_7 h1 (t := 0) rfl (by decide) hR (fun σ2 η2 h2 f2 => ?_))
  show AW G κ _ _ 10 _ _ _
  refine sX13_ticksToCutoff_10 hΓ rfl ?_
  refine sX13_ticksToCutoff_11 hΓ rfl ?_
  refine sX13_ticksToCutoff_12 hΓ 0 0 (Nat.le_of_ble_eq_true rfl) h2.o (fun κ_12 hΓ_12 => sp_untilCutoff hΓ_12 h2 hR (fun σ8 ρ8 η8 h8 f8 => ?_))
  show AW G κ _ _ 15 _ _ _
  refine sX13_ticksToCutoff_15 hΓ 0 0 (Nat.le_of_ble_eq_true rfl) h8.o (fun κ_15 hΓ_15 => sp_laidBack hΓ_15 h8 (fun σ4 h4 f4 => ?_))
  show AW G κ _ _ 18 _ _ _
  exact sX13_ticksToCutoff_18 hΓ (hq _ (MP.mk h4 (updA_same _ _ _).symm (keyU hB (by unfold keyP; omega))) (((f1.tr f2).tr f8).tr f4))
theorem sp_doPacket (hΓ : Ok G κ mX13_doPacket (d + 1) Q X) (h : MV G σ a r z A rw ρ η) {p q : Nat} {y x c k : Int32} (hy : y = nI p) (hQ : ρ 6 = nI q) (hq12 : q ≤ 12) (hpq : p ≤ q) (hq : ∀ σ1 : Hp, MV G σ1 a r (oPut z ρ p x c k).2.1 A rw (oPut z ρ p x c k).2.2 η → MF a r σ σ1 → Q (some (.int (oPut z ρ p x c k).1)) σ1) : AW G κ cs ss 0 [lR a, lI y, lI x, lI c, lI k, none] [] σ := by
  refine sX13_doPacket_0 hΓ rfl ?_
  refine sX13_doPacket_1 hΓ h.o rfl ?_
  refine sX13_doPacket_4 hΓ ?_
  refine sX13_doPacket_6 hΓ h.row (j := 6) rfl (by decide) (by decide) ?_
  refine sX13_doPacket_7 hΓ ?_
  refine sX13_doPacket_9 hΓ (fun c9 => ?_) (fun c9 => ?_)
  · have eO : oPut z ρ p x c k = (0, upd z 11 (ρ 6 + 1), rPut ρ p x c k) := if_neg c9
    rw [eO] at hq
    have hq11 : q ≤ 11 := by rcases Nat.lt_or_ge q 12 with e | e; exact Nat.le_of_lt_succ e; exact absurd (hQ.trans (show nI q = 12 by rw [show q = 12 by omega]; rfl)) c9
    have eat : (148 : Int32) + 3 * y = nI (148 + 3 * p) := by rw [hy]; simp only [fa_lit, pk_mul, nI_add]
    have elen : (3 : Int32) * (ρ 6 - y) = nI (3 * (q - p)) := by rw [hQ, hy, pk_sub hpq]; exact pk_mul 3 (q - p)
    have erq : rQ ρ = q := by rw [rQ, hQ]; exact nI_clamp (by omega)
    refine sX13_doPacket_14 hΓ ?_
    refine sX13_doPacket_17 hΓ ?_
    refine sX13_doPacket_18 hΓ rfl ?_
    refine sX13_doPacket_19 hΓ ?_
    refine sX13_doPacket_20 hΓ ?_
    refine sX13_doPacket_21 hΓ ?_
    refine sX13_doPacket_23 hΓ rfl ?_
    refine sX13_doPacket_24 hΓ h.o rfl ?_
    refine sX13_doPacket_27 hΓ rfl ?_
    refine sX13_doPacket_29 hΓ rfl ?_
    refine sX13_doPacket_30 hΓ h.o rfl ?_
    refine sX13_doPacket_33 hΓ rfl ?_
    refine sX13_doPacket_35 hΓ ?_
    refine sX13_doPacket_36 hΓ ?_
    refine sX13_doPacket_37 hΓ ?_
    refine sX13_doPacket_38 hΓ rfl ?_
    refine sX13_doPacket_39 hΓ h.o rfl ?_
    refine sX13_doPacket_42 hΓ ?_
    refine sX13_doPacket_44 hΓ h.row (j := 6) rfl (by decide) (by decide) ?_
    refine sX13_doPacket_45 hΓ rfl ?_
    refine sX13_doPacket_46 hΓ ?_
    refine sX13_doPacket_47 hΓ ?_
    refine sX13_doPacket_48 hΓ (Nat.le_of_ble_eq_true rfl) h.row h.row (i := 148 + 3 * p) (j := 148 + 3 * p + 3) (n := 3 * (q - p)) eat (by rw [eat]; exact nI_add _ 3) elen (by omega) (by omega) (by decide) (by decide) (mv_row h (fun σ1 h1 f1 => ?_))
    refine sX13_doPacket_51 hΓ rfl ?_
    refine sX13_doPacket_52 hΓ h1.o rfl ?_
    refine sX13_doPacket_55 hΓ rfl ?_
    refine sX13_doPacket_57 hΓ ?_
    refine sX13_doPacket_58 hΓ ?_
    refine sX13_doPacket_59 hΓ rfl ?_
    refine sX13_doPacket_60 hΓ h1.row (ixS (w := 0) eat rfl) (by omega) (by decide) (mv_row h1 (fun σ2 h2 f2 => ?_))
    refine sX13_doPacket_61 hΓ rfl ?_
    refine sX13_doPacket_62 hΓ h2.o rfl ?_
    refine sX13_doPacket_65 hΓ rfl ?_
    refine sX13_doPacket_67 hΓ ?_
    refine sX13_doPacket_68 hΓ ?_
    refine sX13_doPacket_69 hΓ rfl ?_
    refine sX13_doPacket_70 hΓ h2.row (ixS (w := 1) eat rfl) (by omega) (by decide) (mv_row h2 (fun σ3 h3 f3 => ?_))
    refine sX13_doPacket_71 hΓ rfl ?_
    refine sX13_doPacket_72 hΓ h3.o rfl ?_
    refine sX13_doPacket_75 hΓ rfl ?_
    refine sX13_doPacket_77 hΓ ?_
    refine sX13_doPacket_78 hΓ ?_
    refine sX13_doPacket_79 hΓ rfl ?_
    refine sX13_doPacket_81 hΓ h3.row (ixS (w := 2) eat rfl) (by omega) (by decide) (mv_row h3 (fun σ4 h4 f4 => ?_))
    change MV G σ4 a r z A rw (rPut0 ρ q p x c k) η at h4
    refine sX13_doPacket_82 hΓ rfl ?_
    refine sX13_doPacket_83 hΓ h4.o rfl ?_
    refine sX13_doPacket_86 hΓ ?_
    refine sX13_doPacket_88 hΓ ?_
    refine sX13_doPacket_89 hΓ h4.row (j := 6) rfl (by decide) (by decide) ?_
    rw [rPut0_lo (j := 6) (by decide)]
    refine sX13_doPacket_90 hΓ ?_
    refine sX13_doPacket_91 hΓ ?_
    refine sX13_doPacket_92 hΓ h4.row (j := 6) rfl (by decide) (by decide) (mv_row h4 (fun σ5 h5 f5 => ?_))
    refine sX13_doPacket_93 hΓ rfl ?_
    refine sX13_doPacket_94 hΓ h5.o rfl ?_
    refine sX13_doPacket_97 hΓ ?_
    refine sX13_doPacket_99 hΓ ?_
    refine sX13_doPacket_100 hΓ h5.row (j := 7) rfl (by decide) (by decide) ?_
    rw [upd_ne (by decide), rPut0_lo (j := 7) (by decide)]
    refine sX13_doPacket_101 hΓ ?_
    refine sX13_doPacket_102 hΓ ?_
    refine sX13_doPacket_103 hΓ h5.row (j := 7) rfl (by decide) (by decide) (mv_row h5 (fun σ6 h6 f6 => ?_))
    refine sX13_doPacket_104 hΓ rfl ?_
    refine sX13_doPacket_105 hΓ rfl ?_
    refine sX13_doPacket_106 hΓ h6.o rfl ?_
    refine sX13_doPacket_109 hΓ ?_
    refine sX13_doPacket_111 hΓ h6.row (j := 6) rfl (by decide) (by decide) ?_
    rw [upd_ne (by decide), upd_same]
    refine sX13_doPacket_112 hΓ h6.o  (Nat.le_of_ble_eq_true rfl) (mv_z h6 (upd z 11 (ρ 6 + 1)) rfl (fun σ7 h7 f7 => ?_))
    refine sX13_doPacket_115 hΓ ?_
    exact sX13_doPacket_116 hΓ (hq _ (by rw [rPut, erq]; exact h7) ((((((f1.tr f2).tr f3).tr f4).tr f5).tr f6).tr f7))
  · have eO : oPut z ρ p x c k = (2, z, ρ) := if_pos c9
    rw [eO] at hq
    refine sX13_doPacket_12 hΓ ?_
    exact sX13_doPacket_13 hΓ (hq _ h MF.rf)
theorem sp_doIntact (hΓ : Ok G κ mX13_doIntact (d + 2) Q X) (h : MV G σ a r z A rw ρ η) {p q : Nat} {y x c : Int32} (hy : y = nI p) (hQ : ρ 6 = nI q) (hq12 : q ≤ 12) (hpq : p ≤ q) (hq : ∀ σ1 : Hp, MV G σ1 a r (oInt z ρ p x c).2.1 A rw (oInt z ρ p x c).2.2 η → MF a r σ σ1 → Q (some (.int (oInt z ρ p x c).1)) σ1) : AW G κ cs ss 0 [lR a, lI y, lI x, lI c] [] σ := by
  refine sX13_doIntact_0 hΓ rfl ?_
  refine sX13_doIntact_1 hΓ rfl ?_
  refine sX13_doIntact_2 hΓ rfl ?_
  refine sX13_doIntact_3 hΓ rfl ?_
  refine sX13_doIntact_4 hΓ rfl ?_
  refine sX13_doIntact_5 hΓ rfl ?_
  refine sX13_doIntact_6 hΓ ?_
  refine sX13_doIntact_7 hΓ 0 0 (Nat.le_of_ble_eq_true rfl) h.o (fun κ_7 hΓ_7 => sp_doPacket hΓ_7 h hy hQ hq12 hpq (fun σ1 h1 f1 => ?_))
  show AW G κ _ _ 10 _ _ _
  exact sX13_doIntact_10 hΓ (hq _ h1 f1)
theorem sp_doSpeed (hΓ : Ok G κ mX13_doSpeed (d + 3) Q X) (h : MV G σ a r z A rw ρ η) {q : Nat} (hQ : ρ 6 = nI q) (hq12 : q ≤ 12) {x c : Int32} (hq : ∀ σ1 : Hp, MV G σ1 a r (oInt z ρ q x c).2.1 A rw (oInt z ρ q x c).2.2 η → MF a r σ σ1 → Q (some (.int (oInt z ρ q x c).1)) σ1) : AW G κ cs ss 0 [lR a, lI x, lI c] [] σ := by
  refine sX13_doSpeed_0 hΓ rfl ?_
  refine sX13_doSpeed_1 hΓ rfl ?_
  refine sX13_doSpeed_2 hΓ h.o rfl ?_
  refine sX13_doSpeed_5 hΓ ?_
  refine sX13_doSpeed_7 hΓ h.row (j := 6) rfl (by decide) (by decide) ?_
  refine sX13_doSpeed_8 hΓ rfl ?_
  refine sX13_doSpeed_9 hΓ rfl ?_
  refine sX13_doSpeed_10 hΓ 0 0 (Nat.le_of_ble_eq_true rfl) h.o (fun κ_10 hΓ_10 => sp_doIntact hΓ_10 h hQ hQ hq12 (Nat.le_refl q) (fun σ1 h1 f1 => ?_))
  show AW G κ _ _ 13 _ _ _
  exact sX13_doSpeed_13 hΓ (hq _ h1 f1)
theorem sp_doLamp (hΓ : Ok G κ mX13_doLamp (d + 3) Q X) (h : MV G σ a r z A rw ρ η) {q : Nat} (hQ : ρ 6 = nI q) (hq12 : q ≤ 12) {x c : Int32} (hq : ∀ σ1 : Hp, MV G σ1 a r (oInt z ρ q x (64 + c)).2.1 A rw (oInt z ρ q x (64 + c)).2.2 η → MF a r σ σ1 → Q (some (.int (oInt z ρ q x (64 + c)).1)) σ1) : AW G κ cs ss 0 [lR a, lI x, lI c] [] σ := by
  refine sX13_doLamp_0 hΓ rfl ?_
  refine sX13_doLamp_1 hΓ rfl ?_
  refine sX13_doLamp_2 hΓ h.o rfl ?_
  refine sX13_doLamp_5 hΓ ?_
  refine sX13_doLamp_7 hΓ h.row (j := 6) rfl (by decide) (by decide) ?_
  refine sX13_doLamp_8 hΓ rfl ?_
  refine sX13_doLamp_9 hΓ ?_
  refine sX13_doLamp_11 hΓ rfl ?_
  refine sX13_doLamp_12 hΓ ?_
  refine sX13_doLamp_13 hΓ 0 0 (Nat.le_of_ble_eq_true rfl) h.o (fun κ_13 hΓ_13 => sp_doIntact hΓ_13 h hQ hQ hq12 (Nat.le_refl q) (fun σ1 h1 f1 => ?_))
  show AW G κ _ _ 16 _ _ _
  exact sX13_doLamp_16 hΓ (hq _ h1 f1)
theorem sp_doStop (hΓ : Ok G κ mX13_doStop (d + 3) Q X) (h : MV G σ a r z A rw ρ η) {q : Nat} (hQ : ρ 6 = nI q) (hq12 : q ≤ 12) {x : Int32} (hq : ∀ σ1 : Hp, MV G σ1 a r (oInt z ρ 0 x 128).2.1 A rw (oInt z ρ 0 x 128).2.2 η → MF a r σ σ1 → Q (some (.int (oInt z ρ 0 x 128).1)) σ1) : AW G κ cs ss 0 [lR a, lI x] [] σ := by
  refine sX13_doStop_0 hΓ rfl ?_
  refine sX13_doStop_1 hΓ ?_
  refine sX13_doStop_2 hΓ rfl ?_
  refine sX13_doStop_3 hΓ ?_
  refine sX13_doStop_6 hΓ 0 0 (Nat.le_of_ble_eq_true rfl) h.o (fun κ_6 hΓ_6 => sp_doIntact hΓ_6 h (p := 0) rfl hQ hq12 (Nat.zero_le q) (fun σ1 h1 f1 => ?_))
  show AW G κ _ _ 9 _ _ _
  exact sX13_doStop_9 hΓ (hq _ h1 f1)
theorem sp_doShort (hΓ : Ok G κ mX13_doShort (d + 2) Q X) (h : MV G σ a r z A rw ρ η) {n s : Nat} (hR : RW ρ n s) {x v : Int32} (hq : ∀ σ1 : Hp, MV G σ1 a r (oShort z ρ s x v).2.1 A rw (oShort z ρ s x v).2.2 η → MF a r σ σ1 → Q (some (.int (oShort z ρ s x v).1)) σ1) : AW G κ cs ss 0 [lR a, lI x, lI v] [] σ := by
  have hs24 := hR.2.2.2.2.1
  refine sX13_doShort_0 hΓ rfl ?_
  refine sX13_doShort_1 hΓ rfl ?_
  refine sX13_doShort_2 hΓ 0 0 (Nat.le_of_ble_eq_true rfl) h.o (fun κ_2 hΓ_2 => sp_isSection hΓ_2 h ?_)
  show AW G κ _ _ 5 _ _ _
  refine sX13_doShort_5 hΓ (fun c5 => ?_) (fun c5 => ?_)
  · have c := bI_n0 c5
    have eO : oShort z ρ s x v = _ := if_pos c
    rw [eO] at hq
    obtain ⟨k, hk, hx⟩ := rIn_nI (n := s) (by omega) (by rw [← hR.2.2.1]; exact c)
    rw [hx, nI_clamp (by omega)] at hq
    refine sX13_doShort_10 hΓ rfl ?_
    refine sX13_doShort_11 hΓ h.o rfl ?_
    refine sX13_doShort_14 hΓ ?_
    refine sX13_doShort_16 hΓ rfl ?_
    refine sX13_doShort_17 hΓ ?_
    refine sX13_doShort_18 hΓ rfl ?_
    refine sX13_doShort_19 hΓ h.row (ixS (k := 34) rfl hx) (by omega) (by decide) (mv_row h (fun σ1 h1 f1 => ?_))
    refine sX13_doShort_20 hΓ rfl ?_
    refine sX13_doShort_21 hΓ rfl ?_
    refine sX13_doShort_22 hΓ ?_
    refine sX13_doShort_24 hΓ 0 0 (Nat.le_of_ble_eq_true rfl) h1.o (fun κ_24 hΓ_24 => sp_countIn hΓ_24 h1 (hR.put (by omega) (by omega) (fun j hj => by omega)) (b := 34) rfl (by decide) ?_)
    show AW G κ _ _ 27 _ _ _
    refine sX13_doShort_27 hΓ h1.o  (Nat.le_of_ble_eq_true rfl) (mv_z h1 (upd z 11 (rCnt (upd ρ (34 + k) v) 34 s)) rfl (fun σ2 h2 f2 => ?_))
    refine sX13_doShort_30 hΓ ?_
    exact sX13_doShort_31 hΓ (hq _ h2 (f1.tr f2))
  · have eO : oShort z ρ s x v = (1, z, ρ) := if_neg (by rw [bI_0 c5]; exact Bool.false_ne_true)
    rw [eO] at hq
    refine sX13_doShort_8 hΓ ?_
    exact sX13_doShort_9 hΓ (hq _ h MF.rf)
theorem sp_doClear (hΓ : Ok G κ mX13_doClear (d + 0) Q X) (h : MV G σ a r z A rw ρ η) (hq : ∀ σ1 : Hp, MV G σ1 a r (oClear z ρ).2.1 A rw (oClear z ρ).2.2 η → MF a r σ σ1 → Q (some (.int (oClear z ρ).1)) σ1) : AW G κ cs ss 0 [lR a] [] σ := by
  refine sX13_doClear_0 hΓ rfl ?_
  refine sX13_doClear_1 hΓ rfl ?_
  refine sX13_doClear_2 hΓ h.o rfl ?_
  refine sX13_doClear_5 hΓ ?_
  refine sX13_doClear_7 hΓ h.row (j := 6) rfl (by decide) (by decide) ?_
  refine sX13_doClear_8 hΓ h.o  (Nat.le_of_ble_eq_true rfl) (mv_z h (upd z 11 (ρ 6)) rfl (fun σ1 h1 f1 => ?_))
  refine sX13_doClear_11 hΓ rfl ?_
  refine sX13_doClear_12 hΓ h1.o rfl ?_
  refine sX13_doClear_15 hΓ ?_
  refine sX13_doClear_17 hΓ ?_
  refine sX13_doClear_18 hΓ h1.row (j := 9) rfl (by decide) (by decide) ?_
  refine sX13_doClear_19 hΓ rfl ?_
  refine sX13_doClear_20 hΓ h1.o rfl ?_
  refine sX13_doClear_23 hΓ ?_
  refine sX13_doClear_25 hΓ h1.row (j := 6) rfl (by decide) (by decide) ?_
  refine sX13_doClear_26 hΓ ?_
  refine sX13_doClear_27 hΓ h1.row (j := 9) rfl (by decide) (by decide) (mv_row h1 (fun σ2 h2 f2 => ?_))
  refine sX13_doClear_28 hΓ rfl ?_
  refine sX13_doClear_29 hΓ h2.o rfl ?_
  refine sX13_doClear_32 hΓ ?_
  refine sX13_doClear_34 hΓ ?_
  refine sX13_doClear_35 hΓ h2.row (j := 6) rfl (by decide) (by decide) (mv_row h2 (fun σ3 h3 f3 => ?_))
  refine sX13_doClear_36 hΓ ?_
  exact sX13_doClear_37 hΓ (hq _ h3 ((f1.tr f2).tr f3))
theorem sp_doReaddress (hΓ : Ok G κ mX13_doReaddress (d + 2) Q X) (h : MV G σ a r z A rw ρ η) {n s k : Nat} (hR : RW ρ n s) {x v : Int32} (hx : x = nI k) (hk : k < n) (hq : ∀ σ1 : Hp, MV G σ1 a r (oRead z ρ n x v).2.1 A rw (oRead z ρ n x v).2.2 η → MF a r σ σ1 → Q (some (.int (oRead z ρ n x v).1)) σ1) : AW G κ cs ss 0 [lR a, lI x, lI v] [] σ := by
  have hn6 := hR.2.1
  refine sX13_doReaddress_0 hΓ rfl ?_
  refine sX13_doReaddress_1 hΓ rfl ?_
  refine sX13_doReaddress_2 hΓ ?_
  refine sX13_doReaddress_3 hΓ 0 0 (Nat.le_of_ble_eq_true rfl) h.o (fun κ_3 hΓ_3 => sp_of hΓ_3 h (w := 5) hx rfl (by omega) (by decide) ?_)
  show AW G κ _ _ 6 _ _ _
  refine sX13_doReaddress_6 hΓ (fun c6 => ?_) (fun c6 => ?_)
  · have eO : oRead z ρ n x v = (3, z, ρ) := if_neg (fun e => c6 (by rw [hx, nI_clamp (by omega)] at e; exact e.1))
    rw [eO] at hq
    refine sX13_doReaddress_19 hΓ ?_
    exact sX13_doReaddress_20 hΓ (hq _ h MF.rf)
  · refine sX13_doReaddress_9 hΓ rfl ?_
    refine sX13_doReaddress_10 hΓ ?_
    refine sX13_doReaddress_11 hΓ rfl ?_
    refine sX13_doReaddress_12 hΓ 0 0 (Nat.le_of_ble_eq_true rfl) h.o (fun κ_12 hΓ_12 => sp_first hΓ_12 h hR.1 hR.2.1 (w := 0) rfl (by decide) ?_)
    show AW G κ _ _ 15 _ _ _
    refine sX13_doReaddress_15 hΓ ?_
    refine sX13_doReaddress_16 hΓ (fun c16 => ?_) (fun c16 => ?_)
    · have e1 : rFirst ρ n 0 v = none := (oI_none c16).elim id (fun ⟨k1, e, e1⟩ => absurd (fsB_lt _ e).1 (by have := hR.2.1; omega))
      have eO : oRead z ρ n x v = _ := if_pos ⟨by rw [hx, nI_clamp (by omega)]; exact c6, e1⟩
      rw [eO, hx, nI_clamp (by omega)] at hq
      refine sX13_doReaddress_21 hΓ rfl ?_
      refine sX13_doReaddress_22 hΓ rfl ?_
      refine sX13_doReaddress_23 hΓ rfl ?_
      refine sX13_doReaddress_24 hΓ ?_
      refine sX13_doReaddress_25 hΓ 0 0 (Nat.le_of_ble_eq_true rfl) h.o (fun κ_25 hΓ_25 => sp_of hΓ_25 h (w := 0) hx rfl (by omega) (by decide) ?_)
      show AW G κ _ _ 28 _ _ _
      refine sX13_doReaddress_28 hΓ h.o  (Nat.le_of_ble_eq_true rfl) (mv_z h (upd z 11 (ρ (58 + 15 * k + 0))) rfl (fun σ1 h1 f1 => ?_))
      refine sX13_doReaddress_31 hΓ rfl ?_
      refine sX13_doReaddress_32 hΓ rfl ?_
      refine sX13_doReaddress_33 hΓ ?_
      refine sX13_doReaddress_34 hΓ rfl ?_
      refine sX13_doReaddress_35 hΓ 0 0 (Nat.le_of_ble_eq_true rfl) h1.o (fun κ_35 hΓ_35 => sp_lay hΓ_35 h1 (w := 0) hx rfl (by omega) (by decide) (fun σ2 h2 f2 => ?_))
      show AW G κ _ _ 38 _ _ _
      refine sX13_doReaddress_38 hΓ ?_
      exact sX13_doReaddress_39 hΓ (hq _ h2 (f1.tr f2))
    · have eO : oRead z ρ n x v = (3, z, ρ) := if_neg (fun e => c16 (show oI (rFirst ρ n 0 v) = -1 by rw [e.2]; rfl))
      rw [eO] at hq
      refine sX13_doReaddress_19 hΓ ?_
      exact sX13_doReaddress_20 hΓ (hq _ h MF.rf)
def oWait (n s : Nat) (z ρ : Nat → Int32) (x : Int32) : Op := if 10000 < ρ 0 + x then (2, z, ρ) else (0, upd z 11 (rPsN n s ρ x.toNatClampNeg), rPs n s ρ x.toNatClampNeg)
theorem sp_doWait (hΓ : Ok G κ mX13_doWait (d + 7) Q X) (h : MV G σ a r z A rw ρ η) {n s t : Nat} {x : Int32} (hx : x = nI t) (ht : t < 1000000) (hR : RQ ρ n s) (hq : ∀ (σ1 : Hp) (η1 : Nat → Int32), MV G σ1 a r (oWait n s z ρ x).2.1 A rw (oWait n s z ρ x).2.2 η1 → MF a r σ σ1 → Q (some (.int (oWait n s z ρ x).1)) σ1) : AW G κ cs ss 0 [lR a, lI x] [] σ := by
  refine sX13_doWait_0 hΓ rfl ?_
  refine sX13_doWait_1 hΓ h.o rfl ?_
  refine sX13_doWait_4 hΓ ?_
  refine sX13_doWait_5 hΓ h.row (j := 0) rfl (by decide) (by decide) ?_
  refine sX13_doWait_6 hΓ rfl ?_
  refine sX13_doWait_7 hΓ ?_
  refine sX13_doWait_8 hΓ ?_
  refine sX13_doWait_11 hΓ (fun c11 => ?_) (fun c11 => ?_)
  · have eO : oWait n s z ρ x = (0, upd z 11 (rPsN n s ρ t), rPs n s ρ t) := by rw [oWait, if_neg (Int32.not_lt.mpr c11), hx, nI_clamp (by omega)]
    rw [eO] at hq
    refine sX13_doWait_16 hΓ rfl ?_
    refine sX13_doWait_17 hΓ rfl ?_
    refine sX13_doWait_18 hΓ rfl ?_
    refine sX13_doWait_19 hΓ 0 0 (Nat.le_of_ble_eq_true rfl) h.o (fun κ_19 hΓ_19 => sp_passR hΓ_19 h hx ht hR (fun σ1 η1 h1 f1 => ?_))
    show AW G κ _ _ 22 _ _ _
    refine sX13_doWait_22 hΓ h1.o  (Nat.le_of_ble_eq_true rfl) (mv_z h1 (upd z 11 (rPsN n s ρ t)) rfl (fun σ2 h2 f2 => ?_))
    refine sX13_doWait_25 hΓ ?_
    exact sX13_doWait_26 hΓ (hq _ _ h2 (f1.tr f2))
  · have eO : oWait n s z ρ x = (2, z, ρ) := if_pos (Int32.not_le.mp c11)
    rw [eO] at hq
    refine sX13_doWait_14 hΓ ?_
    exact sX13_doWait_15 hΓ (hq _ η h MF.rf)
theorem fin0 {o : Op} (h : o.1 = 0) (B : Nat → Nat → Int32) (u : Nat) : fZ o u = upd (upd o.2.1 9 0) 8 (nI (hCnt u)) ∧ fB B o u = updA (updA B 0 o.2.2) 5 (hRec (B 5) u (B 0)) ∧ fV o = o.2.1 11 := ⟨if_pos h, if_pos h, if_pos h⟩
theorem fin1 {o : Op} (h : ¬ o.1 = 0) (B : Nat → Nat → Int32) (u : Nat) : fZ o u = upd o.2.1 9 o.1 ∧ fB B o u = updA B 0 o.2.2 ∧ fV o = 0 := ⟨if_neg h, if_neg h, if_neg h⟩
theorem sp_fin (hΓ : Ok G κ mX13_ends (d + 3) Q X) {B : Nat → Nat → Int32} {o : Op} {u : Nat} (h : MV G σ a r o.2.1 (updA A 3 (B 0)) 0 o.2.2 η) (hB : ∀ k, keyP k → A k = B k) (hu : o.2.1 8 = nI u) (hu8 : u ≤ 8) (hq : ∀ σ1 : Hp, MP G σ1 a r (fZ o u) (fB B o u) → MF a r σ σ1 → Q (some (.int (fV o))) σ1) : AW G κ cs ss 0 [lR a, lI o.1] [] σ := by
  refine sp_ends hΓ h hu hu8 (fun e σ1 h1 f1 => ?_) (fun e σ1 h1 f1 => ?_)
  · obtain ⟨e1, e2, e3⟩ := fin0 e B u
    rw [e1, e2, e3] at hq
    refine hq σ1 (MP.mk h1 ?_ ?_) f1
    · rw [updA_ne (by decide), updA_same]
    · have e5 : updA A 3 (B 0) 5 = B 5 := (updA_ne (by decide)).trans (hB 5 (Or.inr (Or.inl rfl)))
      have e3 : updA A 3 (B 0) 3 = B 0 := updA_same _ _ _
      rw [e5, e3]
      exact keyS (key0 (keyU hB (by unfold keyP; omega)) _) 5 _
  · obtain ⟨e1, e2, e3⟩ := fin1 e B u
    rw [e1, e2, e3] at hq
    exact hq σ1 (MP.mk h1 (updA_same _ _ _) (key0 (keyU hB (by unfold keyP; omega)) _)) f1
theorem oP8 {z ρ : Nat → Int32} {p : Nat} {x c k : Int32} : (oPut z ρ p x c k).2.1 8 = z 8 := by
  unfold oPut
  split
  · rfl
  · rfl
theorem oS8 {z ρ : Nat → Int32} {s : Nat} {x v : Int32} : (oShort z ρ s x v).2.1 8 = z 8 := by
  unfold oShort
  split
  · rfl
  · rfl
theorem oR8 {z ρ : Nat → Int32} {n : Nat} {x v : Int32} : (oRead z ρ n x v).2.1 8 = z 8 := by
  unfold oRead
  split
  · rfl
  · rfl
theorem oW8 {n s : Nat} {z ρ : Nat → Int32} {x : Int32} : (oWait n s z ρ x).2.1 8 = z 8 := by
  unfold oWait
  split
  · rfl
  · rfl
/-- a change whose arguments are asked first: nothing happens if they aren't right -/
def gZ (b : Bool) (z : Nat → Int32) (o : Op) (u : Nat) : Nat → Int32 := if b = true then fZ o u else upd z 9 1
def gB' (b : Bool) (B : Nat → Nat → Int32) (o : Op) (u : Nat) : Nat → Nat → Int32 := if b = true then fB B o u else B
def gV' (b : Bool) (o : Op) : Int32 := if b = true then fV o else 0
theorem g_t {b : Bool} (h : b = true) (z : Nat → Int32) (B : Nat → Nat → Int32) (o : Op) (u : Nat) : gZ b z o u = fZ o u ∧ gB' b B o u = fB B o u ∧ gV' b o = fV o := by subst h; exact ⟨rfl, rfl, rfl⟩
theorem g_f {b : Bool} (h : b = false) (z : Nat → Int32) (B : Nat → Nat → Int32) (o : Op) (u : Nat) : gZ b z o u = upd z 9 1 ∧ gB' b B o u = B ∧ gV' b o = 0 := by subst h; exact ⟨rfl, rfl, rfl⟩
theorem rp_sendPacket (hΓ : Ok G κ mX13_sendPacket (d + 4) Q X) (h : MP G σ a r z B) (hQ : B 0 6 = nI (rQ (B 0))) (hq12 : rQ (B 0) ≤ 12) {u : Nat} (hu : z 8 = nI u) (hu8 : u ≤ 8) {x y v : Int32} (hq : ∀ σ1 : Hp, MP G σ1 a r (gZ (rByte x && rByte y && rByte v) z (oPut (upd z 9 0) (B 0) (rQ (B 0)) x y v) u) (gB' (rByte x && rByte y && rByte v) B (oPut (upd z 9 0) (B 0) (rQ (B 0)) x y v) u) → MF a r σ σ1 → Q (some (.int (gV' (rByte x && rByte y && rByte v) (oPut (upd z 9 0) (B 0) (rQ (B 0)) x y v)))) σ1) : AW G κ cs ss 0 [lR a, lI x, lI y, lI v] [] σ := by
  obtain ⟨A, h, hB⟩ := h
  refine sX13_sendPacket_0 hΓ rfl ?_
  refine sX13_sendPacket_1 hΓ rfl ?_
  refine sX13_sendPacket_2 hΓ 0 0 (Nat.le_of_ble_eq_true rfl) (fun κ_2 hΓ_2 => sp_isByte hΓ_2 ?_)
  show AW G κ _ _ 5 _ _ _
  refine sX13_sendPacket_5 hΓ (fun c5 => ?_) (fun c5 => ?_)
  · have e : (0 : Int32) = bI (rByte x && rByte y && rByte v) := by rw [bI_0 c5]; rfl
    refine sX13_sendPacket_26 hΓ ?_
    refine sX13_sendPacket_27 hΓ 0 0 (Nat.le_of_ble_eq_true rfl) h.o (fun κ_27 hΓ_27 => sp_lacks hΓ_27 h (b := rByte x && rByte y && rByte v) e (fun σ1 h1 f1 => ?_))
    show AW G κ _ _ 30 _ _ _
    refine sX13_sendPacket_30 hΓ (fun c30 => ?_) (fun c30 => ?_)
    · have cb : (rByte x && rByte y && rByte v) = true := bN_0 c30
      obtain ⟨g1, g2, g3⟩ := g_t cb z B (oPut (upd z 9 0) (B 0) (rQ (B 0)) x y v) u
      rw [g1, g2, g3] at hq
      rw [cb] at h1
      refine sX13_sendPacket_35 hΓ rfl ?_
      refine sX13_sendPacket_36 hΓ 0 0 (Nat.le_of_ble_eq_true rfl) h1.o (fun κ_36 hΓ_36 => sp_keep hΓ_36 h1 (fun σ2 h2 f2 => ?_))
      show AW G κ _ _ 39 _ _ _
      refine sX13_sendPacket_39 hΓ rfl ?_
      refine sX13_sendPacket_40 hΓ rfl ?_
      refine sX13_sendPacket_41 hΓ rfl ?_
      refine sX13_sendPacket_42 hΓ h2.o rfl ?_
      refine sX13_sendPacket_45 hΓ ?_
      refine sX13_sendPacket_47 hΓ h2.row (j := 6) rfl (by decide) (by decide) ?_
      refine sX13_sendPacket_48 hΓ rfl ?_
      refine sX13_sendPacket_49 hΓ rfl ?_
      refine sX13_sendPacket_50 hΓ rfl ?_
      refine sX13_sendPacket_51 hΓ 0 0 (Nat.le_of_ble_eq_true rfl) h2.o (fun κ_51 hΓ_51 => sp_doPacket hΓ_51 h2 hQ hQ hq12 (Nat.le_refl _) (fun σ3 h3 f3 => ?_))
      show AW G κ _ _ 54 _ _ _
      refine sX13_sendPacket_54 hΓ 0 0 (Nat.le_of_ble_eq_true rfl) h3.o (fun κ_54 hΓ_54 => sp_fin hΓ_54 (o := oPut (upd z 9 0) (B 0) (rQ (B 0)) x y v) (B := B) (u := u) h3 hB (by rw [oP8]; exact (upd_ne (by decide)).trans hu) hu8 (fun σ99 h99 f99 => ?_))
      show AW G κ _ _ 57 _ _ _
      exact sX13_sendPacket_57 hΓ (hq _ h99 (((f1.tr f2).tr f3).tr f99))
    · have cb : (rByte x && rByte y && rByte v) = false := bN_n c30
      obtain ⟨g1, g2, g3⟩ := g_f cb z B (oPut (upd z 9 0) (B 0) (rQ (B 0)) x y v) u
      rw [g1, g2, g3] at hq
      rw [cb] at h1
      refine sX13_sendPacket_33 hΓ ?_
      exact sX13_sendPacket_34 hΓ (hq _ (MP.mk h1 rfl hB) f1)
  · refine sX13_sendPacket_8 hΓ rfl ?_
    refine sX13_sendPacket_9 hΓ 0 0 (Nat.le_of_ble_eq_true rfl) (fun κ_9 hΓ_9 => sp_isByte hΓ_9 ?_)
    show AW G κ _ _ 12 _ _ _
    refine sX13_sendPacket_12 hΓ (fun c12 => ?_) (fun c12 => ?_)
    · have e : (0 : Int32) = bI (rByte x && rByte y && rByte v) := by rw [bI_0 c12, Bool.and_false]; rfl
      refine sX13_sendPacket_26 hΓ ?_
      refine sX13_sendPacket_27 hΓ 0 0 (Nat.le_of_ble_eq_true rfl) h.o (fun κ_27 hΓ_27 => sp_lacks hΓ_27 h (b := rByte x && rByte y && rByte v) e (fun σ5 h5 f5 => ?_))
      show AW G κ _ _ 30 _ _ _
      refine sX13_sendPacket_30 hΓ (fun c30 => ?_) (fun c30 => ?_)
      · have cb : (rByte x && rByte y && rByte v) = true := bN_0 c30
        obtain ⟨g1, g2, g3⟩ := g_t cb z B (oPut (upd z 9 0) (B 0) (rQ (B 0)) x y v) u
        rw [g1, g2, g3] at hq
        rw [cb] at h5
        refine sX13_sendPacket_35 hΓ rfl ?_
        refine sX13_sendPacket_36 hΓ 0 0 (Nat.le_of_ble_eq_true rfl) h5.o (fun κ_36 hΓ_36 => sp_keep hΓ_36 h5 (fun σ6 h6 f6 => ?_))
        show AW G κ _ _ 39 _ _ _
        refine sX13_sendPacket_39 hΓ rfl ?_
        refine sX13_sendPacket_40 hΓ rfl ?_
        refine sX13_sendPacket_41 hΓ rfl ?_
        refine sX13_sendPacket_42 hΓ h6.o rfl ?_
        refine sX13_sendPacket_45 hΓ ?_
        refine sX13_sendPacket_47 hΓ h6.row (j := 6) rfl (by decide) (by decide) ?_
        refine sX13_sendPacket_48 hΓ rfl ?_
        refine sX13_sendPacket_49 hΓ rfl ?_
        refine sX13_sendPacket_50 hΓ rfl ?_
        refine sX13_sendPacket_51 hΓ 0 0 (Nat.le_of_ble_eq_true rfl) h6.o (fun κ_51 hΓ_51 => sp_doPacket hΓ_51 h6 hQ hQ hq12 (Nat.le_refl _) (fun σ7 h7 f7 => ?_))
        show AW G κ _ _ 54 _ _ _
        refine sX13_sendPacket_54 hΓ 0 0 (Nat.le_of_ble_eq_true rfl) h7.o (fun κ_54 hΓ_54 => sp_fin hΓ_54 (o := oPut (upd z 9 0) (B 0) (rQ (B 0)) x y v) (B := B) (u := u) h7 hB (by rw [oP8]; exact (upd_ne (by decide)).trans hu) hu8 (fun σ99 h99 f99 => ?_))
        show AW G κ _ _ 57 _ _ _
        exact sX13_sendPacket_57 hΓ (hq _ h99 (((f5.tr f6).tr f7).tr f99))
      · have cb : (rByte x && rByte y && rByte v) = false := bN_n c30
        obtain ⟨g1, g2, g3⟩ := g_f cb z B (oPut (upd z 9 0) (B 0) (rQ (B 0)) x y v) u
        rw [g1, g2, g3] at hq
        rw [cb] at h5
        refine sX13_sendPacket_33 hΓ ?_
        exact sX13_sendPacket_34 hΓ (hq _ (MP.mk h5 rfl hB) f5)
    · refine sX13_sendPacket_15 hΓ rfl ?_
      refine sX13_sendPacket_16 hΓ 0 0 (Nat.le_of_ble_eq_true rfl) (fun κ_16 hΓ_16 => sp_isByte hΓ_16 ?_)
      show AW G κ _ _ 19 _ _ _
      refine sX13_sendPacket_19 hΓ (fun c19 => ?_) (fun c19 => ?_)
      · have e : (0 : Int32) = bI (rByte x && rByte y && rByte v) := by rw [bI_0 c19, Bool.and_false]; rfl
        refine sX13_sendPacket_26 hΓ ?_
        refine sX13_sendPacket_27 hΓ 0 0 (Nat.le_of_ble_eq_true rfl) h.o (fun κ_27 hΓ_27 => sp_lacks hΓ_27 h (b := rByte x && rByte y && rByte v) e (fun σ9 h9 f9 => ?_))
        show AW G κ _ _ 30 _ _ _
        refine sX13_sendPacket_30 hΓ (fun c30 => ?_) (fun c30 => ?_)
        · have cb : (rByte x && rByte y && rByte v) = true := bN_0 c30
          obtain ⟨g1, g2, g3⟩ := g_t cb z B (oPut (upd z 9 0) (B 0) (rQ (B 0)) x y v) u
          rw [g1, g2, g3] at hq
          rw [cb] at h9
          refine sX13_sendPacket_35 hΓ rfl ?_
          refine sX13_sendPacket_36 hΓ 0 0 (Nat.le_of_ble_eq_true rfl) h9.o (fun κ_36 hΓ_36 => sp_keep hΓ_36 h9 (fun σ10 h10 f10 => ?_))
          show AW G κ _ _ 39 _ _ _
          refine sX13_sendPacket_39 hΓ rfl ?_
          refine sX13_sendPacket_40 hΓ rfl ?_
          refine sX13_sendPacket_41 hΓ rfl ?_
          refine sX13_sendPacket_42 hΓ h10.o rfl ?_
          refine sX13_sendPacket_45 hΓ ?_
          refine sX13_sendPacket_47 hΓ h10.row (j := 6) rfl (by decide) (by decide) ?_
          refine sX13_sendPacket_48 hΓ rfl ?_
          refine sX13_sendPacket_49 hΓ rfl ?_
          refine sX13_sendPacket_50 hΓ rfl ?_
          refine sX13_sendPacket_51 hΓ 0 0 (Nat.le_of_ble_eq_true rfl) h10.o (fun κ_51 hΓ_51 => sp_doPacket hΓ_51 h10 hQ hQ hq12 (Nat.le_refl _) (fun σ11 h11 f11 => ?_))
          show AW G κ _ _ 54 _ _ _
          refine sX13_sendPacket_54 hΓ 0 0 (Nat.le_of_ble_eq_true rfl) h11.o (fun κ_54 hΓ_54 => sp_fin hΓ_54 (o := oPut (upd z 9 0) (B 0) (rQ (B 0)) x y v) (B := B) (u := u) h11 hB (by rw [oP8]; exact (upd_ne (by decide)).trans hu) hu8 (fun σ99 h99 f99 => ?_))
          show AW G κ _ _ 57 _ _ _
          exact sX13_sendPacket_57 hΓ (hq _ h99 (((f9.tr f10).tr f11).tr f99))
        · have cb : (rByte x && rByte y && rByte v) = false := bN_n c30
          obtain ⟨g1, g2, g3⟩ := g_f cb z B (oPut (upd z 9 0) (B 0) (rQ (B 0)) x y v) u
          rw [g1, g2, g3] at hq
          rw [cb] at h9
          refine sX13_sendPacket_33 hΓ ?_
          exact sX13_sendPacket_34 hΓ (hq _ (MP.mk h9 rfl hB) f9)
      · have e : (1 : Int32) = bI (rByte x && rByte y && rByte v) := by rw [bI_n0 c5, bI_n0 c12, bI_n0 c19]; rfl
        refine sX13_sendPacket_22 hΓ ?_
        refine sX13_sendPacket_23 hΓ ?_
        refine sX13_sendPacket_27 hΓ 0 0 (Nat.le_of_ble_eq_true rfl) h.o (fun κ_27 hΓ_27 => sp_lacks hΓ_27 h (b := rByte x && rByte y && rByte v) e (fun σ13 h13 f13 => ?_))
        show AW G κ _ _ 30 _ _ _
        refine sX13_sendPacket_30 hΓ (fun c30 => ?_) (fun c30 => ?_)
        · have cb : (rByte x && rByte y && rByte v) = true := bN_0 c30
          obtain ⟨g1, g2, g3⟩ := g_t cb z B (oPut (upd z 9 0) (B 0) (rQ (B 0)) x y v) u
          rw [g1, g2, g3] at hq
          rw [cb] at h13
          refine sX13_sendPacket_35 hΓ rfl ?_
          refine sX13_sendPacket_36 hΓ 0 0 (Nat.le_of_ble_eq_true rfl) h13.o (fun κ_36 hΓ_36 => sp_keep hΓ_36 h13 (fun σ14 h14 f14 => ?_))
          show AW G κ _ _ 39 _ _ _
          refine sX13_sendPacket_39 hΓ rfl ?_
          refine sX13_sendPacket_40 hΓ rfl ?_
          refine sX13_sendPacket_41 hΓ rfl ?_
          refine sX13_sendPacket_42 hΓ h14.o rfl ?_
          refine sX13_sendPacket_45 hΓ ?_
          refine sX13_sendPacket_47 hΓ h14.row (j := 6) rfl (by decide) (by decide) ?_
          refine sX13_sendPacket_48 hΓ rfl ?_
          refine sX13_sendPacket_49 hΓ rfl ?_
          refine sX13_sendPacket_50 hΓ rfl ?_
          refine sX13_sendPacket_51 hΓ 0 0 (Nat.le_of_ble_eq_true rfl) h14.o (fun κ_51 hΓ_51 => sp_doPacket hΓ_51 h14 hQ hQ hq12 (Nat.le_refl _) (fun σ15 h15 f15 => ?_))
          show AW G κ _ _ 54 _ _ _
          refine sX13_sendPacket_54 hΓ 0 0 (Nat.le_of_ble_eq_true rfl) h15.o (fun κ_54 hΓ_54 => sp_fin hΓ_54 (o := oPut (upd z 9 0) (B 0) (rQ (B 0)) x y v) (B := B) (u := u) h15 hB (by rw [oP8]; exact (upd_ne (by decide)).trans hu) hu8 (fun σ99 h99 f99 => ?_))
          show AW G κ _ _ 57 _ _ _
          exact sX13_sendPacket_57 hΓ (hq _ h99 (((f13.tr f14).tr f15).tr f99))
        · have cb : (rByte x && rByte y && rByte v) = false := bN_n c30
          obtain ⟨g1, g2, g3⟩ := g_f cb z B (oPut (upd z 9 0) (B 0) (rQ (B 0)) x y v) u
          rw [g1, g2, g3] at hq
          rw [cb] at h13
          refine sX13_sendPacket_33 hΓ ?_
          exact sX13_sendPacket_34 hΓ (hq _ (MP.mk h13 rfl hB) f13)
theorem rp_setSpeed (hΓ : Ok G κ mX13_setSpeed (d + 4) Q X) (h : MP G σ a r z B) (hQ : B 0 6 = nI (rQ (B 0))) (hq12 : rQ (B 0) ≤ 12) {u : Nat} (hu : z 8 = nI u) (hu8 : u ≤ 8) {x y : Int32} (hq : ∀ σ1 : Hp, MP G σ1 a r (gZ (rIn x 0 127 && rIn y 0 28) z (oInt (upd z 9 0) (B 0) (rQ (B 0)) x y) u) (gB' (rIn x 0 127 && rIn y 0 28) B (oInt (upd z 9 0) (B 0) (rQ (B 0)) x y) u) → MF a r σ σ1 → Q (some (.int (gV' (rIn x 0 127 && rIn y 0 28) (oInt (upd z 9 0) (B 0) (rQ (B 0)) x y)))) σ1) : AW G κ cs ss 0 [lR a, lI x, lI y] [] σ := by
  obtain ⟨A, h, hB⟩ := h
  refine sX13_setSpeed_0 hΓ rfl ?_
  refine sX13_setSpeed_1 hΓ rfl ?_
  refine sX13_setSpeed_2 hΓ 0 0 (Nat.le_of_ble_eq_true rfl) (fun κ_2 hΓ_2 => sp_isAddress hΓ_2 ?_)
  show AW G κ _ _ 5 _ _ _
  refine sX13_setSpeed_5 hΓ (fun c5 => ?_) (fun c5 => ?_)
  · have e : (0 : Int32) = bI (rIn x 0 127 && rIn y 0 28) := by rw [bI_0 c5]; rfl
    refine sX13_setSpeed_22 hΓ ?_
    refine sX13_setSpeed_23 hΓ 0 0 (Nat.le_of_ble_eq_true rfl) h.o (fun κ_23 hΓ_23 => sp_lacks hΓ_23 h (b := rIn x 0 127 && rIn y 0 28) e (fun σ1 h1 f1 => ?_))
    show AW G κ _ _ 26 _ _ _
    refine sX13_setSpeed_26 hΓ (fun c26 => ?_) (fun c26 => ?_)
    · have cb : (rIn x 0 127 && rIn y 0 28) = true := bN_0 c26
      obtain ⟨g1, g2, g3⟩ := g_t cb z B (oInt (upd z 9 0) (B 0) (rQ (B 0)) x y) u
      rw [g1, g2, g3] at hq
      rw [cb] at h1
      refine sX13_setSpeed_31 hΓ rfl ?_
      refine sX13_setSpeed_32 hΓ 0 0 (Nat.le_of_ble_eq_true rfl) h1.o (fun κ_32 hΓ_32 => sp_keep hΓ_32 h1 (fun σ2 h2 f2 => ?_))
      show AW G κ _ _ 35 _ _ _
      refine sX13_setSpeed_35 hΓ rfl ?_
      refine sX13_setSpeed_36 hΓ rfl ?_
      refine sX13_setSpeed_37 hΓ rfl ?_
      refine sX13_setSpeed_38 hΓ rfl ?_
      refine sX13_setSpeed_39 hΓ 0 0 (Nat.le_of_ble_eq_true rfl) h2.o (fun κ_39 hΓ_39 => sp_doSpeed hΓ_39 h2 hQ hq12 (fun σ3 h3 f3 => ?_))
      show AW G κ _ _ 42 _ _ _
      refine sX13_setSpeed_42 hΓ 0 0 (Nat.le_of_ble_eq_true rfl) h3.o (fun κ_42 hΓ_42 => sp_fin hΓ_42 (o := oInt (upd z 9 0) (B 0) (rQ (B 0)) x y) (B := B) (u := u) h3 hB (by rw [oInt, oP8]; exact (upd_ne (by decide)).trans hu) hu8 (fun σ99 h99 f99 => ?_))
      show AW G κ _ _ 45 _ _ _
      exact sX13_setSpeed_45 hΓ (hq _ h99 (((f1.tr f2).tr f3).tr f99))
    · have cb : (rIn x 0 127 && rIn y 0 28) = false := bN_n c26
      obtain ⟨g1, g2, g3⟩ := g_f cb z B (oInt (upd z 9 0) (B 0) (rQ (B 0)) x y) u
      rw [g1, g2, g3] at hq
      rw [cb] at h1
      refine sX13_setSpeed_29 hΓ ?_
      exact sX13_setSpeed_30 hΓ (hq _ (MP.mk h1 rfl hB) f1)
  · refine sX13_setSpeed_8 hΓ rfl ?_
    refine sX13_setSpeed_9 hΓ ?_
    refine sX13_setSpeed_10 hΓ ?_
    refine sX13_setSpeed_12 hΓ 0 0 (Nat.le_of_ble_eq_true rfl) (fun κ_12 hΓ_12 => sp_inRange hΓ_12 ?_)
    show AW G κ _ _ 15 _ _ _
    refine sX13_setSpeed_15 hΓ (fun c15 => ?_) (fun c15 => ?_)
    · have e : (0 : Int32) = bI (rIn x 0 127 && rIn y 0 28) := by rw [bI_0 c15, Bool.and_false]; rfl
      refine sX13_setSpeed_22 hΓ ?_
      refine sX13_setSpeed_23 hΓ 0 0 (Nat.le_of_ble_eq_true rfl) h.o (fun κ_23 hΓ_23 => sp_lacks hΓ_23 h (b := rIn x 0 127 && rIn y 0 28) e (fun σ5 h5 f5 => ?_))
      show AW G κ _ _ 26 _ _ _
      refine sX13_setSpeed_26 hΓ (fun c26 => ?_) (fun c26 => ?_)
      · have cb : (rIn x 0 127 && rIn y 0 28) = true := bN_0 c26
        obtain ⟨g1, g2, g3⟩ := g_t cb z B (oInt (upd z 9 0) (B 0) (rQ (B 0)) x y) u
        rw [g1, g2, g3] at hq
        rw [cb] at h5
        refine sX13_setSpeed_31 hΓ rfl ?_
        refine sX13_setSpeed_32 hΓ 0 0 (Nat.le_of_ble_eq_true rfl) h5.o (fun κ_32 hΓ_32 => sp_keep hΓ_32 h5 (fun σ6 h6 f6 => ?_))
        show AW G κ _ _ 35 _ _ _
        refine sX13_setSpeed_35 hΓ rfl ?_
        refine sX13_setSpeed_36 hΓ rfl ?_
        refine sX13_setSpeed_37 hΓ rfl ?_
        refine sX13_setSpeed_38 hΓ rfl ?_
        refine sX13_setSpeed_39 hΓ 0 0 (Nat.le_of_ble_eq_true rfl) h6.o (fun κ_39 hΓ_39 => sp_doSpeed hΓ_39 h6 hQ hq12 (fun σ7 h7 f7 => ?_))
        show AW G κ _ _ 42 _ _ _
        refine sX13_setSpeed_42 hΓ 0 0 (Nat.le_of_ble_eq_true rfl) h7.o (fun κ_42 hΓ_42 => sp_fin hΓ_42 (o := oInt (upd z 9 0) (B 0) (rQ (B 0)) x y) (B := B) (u := u) h7 hB (by rw [oInt, oP8]; exact (upd_ne (by decide)).trans hu) hu8 (fun σ99 h99 f99 => ?_))
        show AW G κ _ _ 45 _ _ _
        exact sX13_setSpeed_45 hΓ (hq _ h99 (((f5.tr f6).tr f7).tr f99))
      · have cb : (rIn x 0 127 && rIn y 0 28) = false := bN_n c26
        obtain ⟨g1, g2, g3⟩ := g_f cb z B (oInt (upd z 9 0) (B 0) (rQ (B 0)) x y) u
        rw [g1, g2, g3] at hq
        rw [cb] at h5
        refine sX13_setSpeed_29 hΓ ?_
        exact sX13_setSpeed_30 hΓ (hq _ (MP.mk h5 rfl hB) f5)
    · have e : (1 : Int32) = bI (rIn x 0 127 && rIn y 0 28) := by rw [bI_n0 c5, bI_n0 c15]; rfl
      refine sX13_setSpeed_18 hΓ ?_
      refine sX13_setSpeed_19 hΓ ?_
      refine sX13_setSpeed_23 hΓ 0 0 (Nat.le_of_ble_eq_true rfl) h.o (fun κ_23 hΓ_23 => sp_lacks hΓ_23 h (b := rIn x 0 127 && rIn y 0 28) e (fun σ9 h9 f9 => ?_))
      show AW G κ _ _ 26 _ _ _
      refine sX13_setSpeed_26 hΓ (fun c26 => ?_) (fun c26 => ?_)
      · have cb : (rIn x 0 127 && rIn y 0 28) = true := bN_0 c26
        obtain ⟨g1, g2, g3⟩ := g_t cb z B (oInt (upd z 9 0) (B 0) (rQ (B 0)) x y) u
        rw [g1, g2, g3] at hq
        rw [cb] at h9
        refine sX13_setSpeed_31 hΓ rfl ?_
        refine sX13_setSpeed_32 hΓ 0 0 (Nat.le_of_ble_eq_true rfl) h9.o (fun κ_32 hΓ_32 => sp_keep hΓ_32 h9 (fun σ10 h10 f10 => ?_))
        show AW G κ _ _ 35 _ _ _
        refine sX13_setSpeed_35 hΓ rfl ?_
        refine sX13_setSpeed_36 hΓ rfl ?_
        refine sX13_setSpeed_37 hΓ rfl ?_
        refine sX13_setSpeed_38 hΓ rfl ?_
        refine sX13_setSpeed_39 hΓ 0 0 (Nat.le_of_ble_eq_true rfl) h10.o (fun κ_39 hΓ_39 => sp_doSpeed hΓ_39 h10 hQ hq12 (fun σ11 h11 f11 => ?_))
        show AW G κ _ _ 42 _ _ _
        refine sX13_setSpeed_42 hΓ 0 0 (Nat.le_of_ble_eq_true rfl) h11.o (fun κ_42 hΓ_42 => sp_fin hΓ_42 (o := oInt (upd z 9 0) (B 0) (rQ (B 0)) x y) (B := B) (u := u) h11 hB (by rw [oInt, oP8]; exact (upd_ne (by decide)).trans hu) hu8 (fun σ99 h99 f99 => ?_))
        show AW G κ _ _ 45 _ _ _
        exact sX13_setSpeed_45 hΓ (hq _ h99 (((f9.tr f10).tr f11).tr f99))
      · have cb : (rIn x 0 127 && rIn y 0 28) = false := bN_n c26
        obtain ⟨g1, g2, g3⟩ := g_f cb z B (oInt (upd z 9 0) (B 0) (rQ (B 0)) x y) u
        rw [g1, g2, g3] at hq
        rw [cb] at h9
        refine sX13_setSpeed_29 hΓ ?_
        exact sX13_setSpeed_30 hΓ (hq _ (MP.mk h9 rfl hB) f9)
theorem rp_setLamp (hΓ : Ok G κ mX13_setLamp (d + 4) Q X) (h : MP G σ a r z B) (hQ : B 0 6 = nI (rQ (B 0))) (hq12 : rQ (B 0) ≤ 12) {u : Nat} (hu : z 8 = nI u) (hu8 : u ≤ 8) {x y : Int32} (hq : ∀ σ1 : Hp, MP G σ1 a r (gZ (rIn x 0 127 && rIn y 0 15) z (oInt (upd z 9 0) (B 0) (rQ (B 0)) x (64 + y)) u) (gB' (rIn x 0 127 && rIn y 0 15) B (oInt (upd z 9 0) (B 0) (rQ (B 0)) x (64 + y)) u) → MF a r σ σ1 → Q (some (.int (gV' (rIn x 0 127 && rIn y 0 15) (oInt (upd z 9 0) (B 0) (rQ (B 0)) x (64 + y))))) σ1) : AW G κ cs ss 0 [lR a, lI x, lI y] [] σ := by
  obtain ⟨A, h, hB⟩ := h
  refine sX13_setLamp_0 hΓ rfl ?_
  refine sX13_setLamp_1 hΓ rfl ?_
  refine sX13_setLamp_2 hΓ 0 0 (Nat.le_of_ble_eq_true rfl) (fun κ_2 hΓ_2 => sp_isAddress hΓ_2 ?_)
  show AW G κ _ _ 5 _ _ _
  refine sX13_setLamp_5 hΓ (fun c5 => ?_) (fun c5 => ?_)
  · have e : (0 : Int32) = bI (rIn x 0 127 && rIn y 0 15) := by rw [bI_0 c5]; rfl
    refine sX13_setLamp_22 hΓ ?_
    refine sX13_setLamp_23 hΓ 0 0 (Nat.le_of_ble_eq_true rfl) h.o (fun κ_23 hΓ_23 => sp_lacks hΓ_23 h (b := rIn x 0 127 && rIn y 0 15) e (fun σ1 h1 f1 => ?_))
    show AW G κ _ _ 26 _ _ _
    refine sX13_setLamp_26 hΓ (fun c26 => ?_) (fun c26 => ?_)
    · have cb : (rIn x 0 127 && rIn y 0 15) = true := bN_0 c26
      obtain ⟨g1, g2, g3⟩ := g_t cb z B (oInt (upd z 9 0) (B 0) (rQ (B 0)) x (64 + y)) u
      rw [g1, g2, g3] at hq
      rw [cb] at h1
      refine sX13_setLamp_31 hΓ rfl ?_
      refine sX13_setLamp_32 hΓ 0 0 (Nat.le_of_ble_eq_true rfl) h1.o (fun κ_32 hΓ_32 => sp_keep hΓ_32 h1 (fun σ2 h2 f2 => ?_))
      show AW G κ _ _ 35 _ _ _
      refine sX13_setLamp_35 hΓ rfl ?_
      refine sX13_setLamp_36 hΓ rfl ?_
      refine sX13_setLamp_37 hΓ rfl ?_
      refine sX13_setLamp_38 hΓ rfl ?_
      refine sX13_setLamp_39 hΓ 0 0 (Nat.le_of_ble_eq_true rfl) h2.o (fun κ_39 hΓ_39 => sp_doLamp hΓ_39 h2 hQ hq12 (fun σ3 h3 f3 => ?_))
      show AW G κ _ _ 42 _ _ _
      refine sX13_setLamp_42 hΓ 0 0 (Nat.le_of_ble_eq_true rfl) h3.o (fun κ_42 hΓ_42 => sp_fin hΓ_42 (o := oInt (upd z 9 0) (B 0) (rQ (B 0)) x (64 + y)) (B := B) (u := u) h3 hB (by rw [oInt, oP8]; exact (upd_ne (by decide)).trans hu) hu8 (fun σ99 h99 f99 => ?_))
      show AW G κ _ _ 45 _ _ _
      exact sX13_setLamp_45 hΓ (hq _ h99 (((f1.tr f2).tr f3).tr f99))
    · have cb : (rIn x 0 127 && rIn y 0 15) = false := bN_n c26
      obtain ⟨g1, g2, g3⟩ := g_f cb z B (oInt (upd z 9 0) (B 0) (rQ (B 0)) x (64 + y)) u
      rw [g1, g2, g3] at hq
      rw [cb] at h1
      refine sX13_setLamp_29 hΓ ?_
      exact sX13_setLamp_30 hΓ (hq _ (MP.mk h1 rfl hB) f1)
  · refine sX13_setLamp_8 hΓ rfl ?_
    refine sX13_setLamp_9 hΓ ?_
    refine sX13_setLamp_10 hΓ ?_
    refine sX13_setLamp_12 hΓ 0 0 (Nat.le_of_ble_eq_true rfl) (fun κ_12 hΓ_12 => sp_inRange hΓ_12 ?_)
    show AW G κ _ _ 15 _ _ _
    refine sX13_setLamp_15 hΓ (fun c15 => ?_) (fun c15 => ?_)
    · have e : (0 : Int32) = bI (rIn x 0 127 && rIn y 0 15) := by rw [bI_0 c15, Bool.and_false]; rfl
      refine sX13_setLamp_22 hΓ ?_
      refine sX13_setLamp_23 hΓ 0 0 (Nat.le_of_ble_eq_true rfl) h.o (fun κ_23 hΓ_23 => sp_lacks hΓ_23 h (b := rIn x 0 127 && rIn y 0 15) e (fun σ5 h5 f5 => ?_))
      show AW G κ _ _ 26 _ _ _
      refine sX13_setLamp_26 hΓ (fun c26 => ?_) (fun c26 => ?_)
      · have cb : (rIn x 0 127 && rIn y 0 15) = true := bN_0 c26
        obtain ⟨g1, g2, g3⟩ := g_t cb z B (oInt (upd z 9 0) (B 0) (rQ (B 0)) x (64 + y)) u
        rw [g1, g2, g3] at hq
        rw [cb] at h5
        refine sX13_setLamp_31 hΓ rfl ?_
        refine sX13_setLamp_32 hΓ 0 0 (Nat.le_of_ble_eq_true rfl) h5.o (fun κ_32 hΓ_32 => sp_keep hΓ_32 h5 (fun σ6 h6 f6 => ?_))
        show AW G κ _ _ 35 _ _ _
        refine sX13_setLamp_35 hΓ rfl ?_
        refine sX13_setLamp_36 hΓ rfl ?_
        refine sX13_setLamp_37 hΓ rfl ?_
        refine sX13_setLamp_38 hΓ rfl ?_
        refine sX13_setLamp_39 hΓ 0 0 (Nat.le_of_ble_eq_true rfl) h6.o (fun κ_39 hΓ_39 => sp_doLamp hΓ_39 h6 hQ hq12 (fun σ7 h7 f7 => ?_))
        show AW G κ _ _ 42 _ _ _
        refine sX13_setLamp_42 hΓ 0 0 (Nat.le_of_ble_eq_true rfl) h7.o (fun κ_42 hΓ_42 => sp_fin hΓ_42 (o := oInt (upd z 9 0) (B 0) (rQ (B 0)) x (64 + y)) (B := B) (u := u) h7 hB (by rw [oInt, oP8]; exact (upd_ne (by decide)).trans hu) hu8 (fun σ99 h99 f99 => ?_))
        show AW G κ _ _ 45 _ _ _
        exact sX13_setLamp_45 hΓ (hq _ h99 (((f5.tr f6).tr f7).tr f99))
      · have cb : (rIn x 0 127 && rIn y 0 15) = false := bN_n c26
        obtain ⟨g1, g2, g3⟩ := g_f cb z B (oInt (upd z 9 0) (B 0) (rQ (B 0)) x (64 + y)) u
        rw [g1, g2, g3] at hq
        rw [cb] at h5
        refine sX13_setLamp_29 hΓ ?_
        exact sX13_setLamp_30 hΓ (hq _ (MP.mk h5 rfl hB) f5)
    · have e : (1 : Int32) = bI (rIn x 0 127 && rIn y 0 15) := by rw [bI_n0 c5, bI_n0 c15]; rfl
      refine sX13_setLamp_18 hΓ ?_
      refine sX13_setLamp_19 hΓ ?_
      refine sX13_setLamp_23 hΓ 0 0 (Nat.le_of_ble_eq_true rfl) h.o (fun κ_23 hΓ_23 => sp_lacks hΓ_23 h (b := rIn x 0 127 && rIn y 0 15) e (fun σ9 h9 f9 => ?_))
      show AW G κ _ _ 26 _ _ _
      refine sX13_setLamp_26 hΓ (fun c26 => ?_) (fun c26 => ?_)
      · have cb : (rIn x 0 127 && rIn y 0 15) = true := bN_0 c26
        obtain ⟨g1, g2, g3⟩ := g_t cb z B (oInt (upd z 9 0) (B 0) (rQ (B 0)) x (64 + y)) u
        rw [g1, g2, g3] at hq
        rw [cb] at h9
        refine sX13_setLamp_31 hΓ rfl ?_
        refine sX13_setLamp_32 hΓ 0 0 (Nat.le_of_ble_eq_true rfl) h9.o (fun κ_32 hΓ_32 => sp_keep hΓ_32 h9 (fun σ10 h10 f10 => ?_))
        show AW G κ _ _ 35 _ _ _
        refine sX13_setLamp_35 hΓ rfl ?_
        refine sX13_setLamp_36 hΓ rfl ?_
        refine sX13_setLamp_37 hΓ rfl ?_
        refine sX13_setLamp_38 hΓ rfl ?_
        refine sX13_setLamp_39 hΓ 0 0 (Nat.le_of_ble_eq_true rfl) h10.o (fun κ_39 hΓ_39 => sp_doLamp hΓ_39 h10 hQ hq12 (fun σ11 h11 f11 => ?_))
        show AW G κ _ _ 42 _ _ _
        refine sX13_setLamp_42 hΓ 0 0 (Nat.le_of_ble_eq_true rfl) h11.o (fun κ_42 hΓ_42 => sp_fin hΓ_42 (o := oInt (upd z 9 0) (B 0) (rQ (B 0)) x (64 + y)) (B := B) (u := u) h11 hB (by rw [oInt, oP8]; exact (upd_ne (by decide)).trans hu) hu8 (fun σ99 h99 f99 => ?_))
        show AW G κ _ _ 45 _ _ _
        exact sX13_setLamp_45 hΓ (hq _ h99 (((f9.tr f10).tr f11).tr f99))
      · have cb : (rIn x 0 127 && rIn y 0 15) = false := bN_n c26
        obtain ⟨g1, g2, g3⟩ := g_f cb z B (oInt (upd z 9 0) (B 0) (rQ (B 0)) x (64 + y)) u
        rw [g1, g2, g3] at hq
        rw [cb] at h9
        refine sX13_setLamp_29 hΓ ?_
        exact sX13_setLamp_30 hΓ (hq _ (MP.mk h9 rfl hB) f9)
theorem rp_stop (hΓ : Ok G κ mX13_stop (d + 4) Q X) (h : MP G σ a r z B) (hQ : B 0 6 = nI (rQ (B 0))) (hq12 : rQ (B 0) ≤ 12) {u : Nat} (hu : z 8 = nI u) (hu8 : u ≤ 8) {x : Int32} (hq : ∀ σ1 : Hp, MP G σ1 a r (gZ (rIn x 0 127) z (oInt (upd z 9 0) (B 0) 0 x 128) u) (gB' (rIn x 0 127) B (oInt (upd z 9 0) (B 0) 0 x 128) u) → MF a r σ σ1 → Q (some (.int (gV' (rIn x 0 127) (oInt (upd z 9 0) (B 0) 0 x 128)))) σ1) : AW G κ cs ss 0 [lR a, lI x] [] σ := by
  obtain ⟨A, h, hB⟩ := h
  refine sX13_stop_0 hΓ rfl ?_
  refine sX13_stop_1 hΓ rfl ?_
  refine sX13_stop_2 hΓ 0 0 (Nat.le_of_ble_eq_true rfl) (fun κ_2 hΓ_2 => sp_isAddress hΓ_2 ?_)
  show AW G κ _ _ 5 _ _ _
  refine sX13_stop_5 hΓ 0 0 (Nat.le_of_ble_eq_true rfl) h.o (fun κ_5 hΓ_5 => sp_lacks hΓ_5 h rfl (fun σ1 h1 f1 => ?_))
  show AW G κ _ _ 8 _ _ _
  refine sX13_stop_8 hΓ (fun c8 => ?_) (fun c8 => ?_)
  · have cb : (rIn x 0 127) = true := bN_0 c8
    obtain ⟨g1, g2, g3⟩ := g_t cb z B (oInt (upd z 9 0) (B 0) 0 x 128) u
    rw [g1, g2, g3] at hq
    rw [cb] at h1
    refine sX13_stop_13 hΓ rfl ?_
    refine sX13_stop_14 hΓ 0 0 (Nat.le_of_ble_eq_true rfl) h1.o (fun κ_14 hΓ_14 => sp_keep hΓ_14 h1 (fun σ2 h2 f2 => ?_))
    show AW G κ _ _ 17 _ _ _
    refine sX13_stop_17 hΓ rfl ?_
    refine sX13_stop_18 hΓ rfl ?_
    refine sX13_stop_19 hΓ rfl ?_
    refine sX13_stop_20 hΓ 0 0 (Nat.le_of_ble_eq_true rfl) h2.o (fun κ_20 hΓ_20 => sp_doStop hΓ_20 h2 hQ hq12 (fun σ3 h3 f3 => ?_))
    show AW G κ _ _ 23 _ _ _
    refine sX13_stop_23 hΓ 0 0 (Nat.le_of_ble_eq_true rfl) h3.o (fun κ_23 hΓ_23 => sp_fin hΓ_23 (o := oInt (upd z 9 0) (B 0) 0 x 128) (B := B) (u := u) h3 hB (by rw [oInt, oP8]; exact (upd_ne (by decide)).trans hu) hu8 (fun σ99 h99 f99 => ?_))
    show AW G κ _ _ 26 _ _ _
    exact sX13_stop_26 hΓ (hq _ h99 (((f1.tr f2).tr f3).tr f99))
  · have cb : (rIn x 0 127) = false := bN_n c8
    obtain ⟨g1, g2, g3⟩ := g_f cb z B (oInt (upd z 9 0) (B 0) 0 x 128) u
    rw [g1, g2, g3] at hq
    rw [cb] at h1
    refine sX13_stop_11 hΓ ?_
    exact sX13_stop_12 hΓ (hq _ (MP.mk h1 rfl hB) f1)
theorem rp_setShort (hΓ : Ok G κ mX13_setShort (d + 4) Q X) (h : MP G σ a r z B) {n s : Nat} (hR : RW (B 0) n s) {u : Nat} (hu : z 8 = nI u) (hu8 : u ≤ 8) {x y : Int32} (hy : y = 0 ∨ y = 1) (hq : ∀ σ1 : Hp, MP G σ1 a r (fZ (oShort z (B 0) s x y) u) (fB B (oShort z (B 0) s x y) u) → MF a r σ σ1 → Q (some (.int (fV (oShort z (B 0) s x y)))) σ1) : AW G κ cs ss 0 [lR a, lI x, lI y] [] σ := by
  obtain ⟨A, h, hB⟩ := h
  refine sX13_setShort_0 hΓ rfl ?_
  refine sX13_setShort_1 hΓ 0 0 (Nat.le_of_ble_eq_true rfl) h.o (fun κ_1 hΓ_1 => sp_keep hΓ_1 h (fun σ1 h1 f1 => ?_))
  show AW G κ _ _ 4 _ _ _
  refine sX13_setShort_4 hΓ rfl ?_
  refine sX13_setShort_5 hΓ rfl ?_
  refine sX13_setShort_6 hΓ rfl ?_
  refine sX13_setShort_7 hΓ rfl ?_
  refine sX13_setShort_8 hΓ (fun c8 => ?_) (fun c8 => ?_)
  · have e : y = 0 := hy.elim id (fun e => absurd c8 (by rw [e]; decide))
    rw [e] at hq
    refine sX13_setShort_15 hΓ ?_
    refine sX13_setShort_16 hΓ 0 0 (Nat.le_of_ble_eq_true rfl) h1.o (fun κ_16 hΓ_16 => sp_doShort hΓ_16 h1 hR (fun σ2 h2 f2 => ?_))
    show AW G κ _ _ 19 _ _ _
    refine sX13_setShort_19 hΓ 0 0 (Nat.le_of_ble_eq_true rfl) h2.o (fun κ_19 hΓ_19 => sp_fin hΓ_19 (o := oShort z (B 0) s x 0) (B := B) (u := u) h2 hB (by rw [oS8]; exact hu) hu8 (fun σ99 h99 f99 => ?_))
    show AW G κ _ _ 22 _ _ _
    exact sX13_setShort_22 hΓ (hq _ h99 ((f1.tr f2).tr f99))
  · have e : y = 1 := hy.elim (fun e => absurd e c8) id
    rw [e] at hq
    refine sX13_setShort_11 hΓ ?_
    refine sX13_setShort_12 hΓ ?_
    refine sX13_setShort_16 hΓ 0 0 (Nat.le_of_ble_eq_true rfl) h1.o (fun κ_16 hΓ_16 => sp_doShort hΓ_16 h1 hR (fun σ4 h4 f4 => ?_))
    show AW G κ _ _ 19 _ _ _
    refine sX13_setShort_19 hΓ 0 0 (Nat.le_of_ble_eq_true rfl) h4.o (fun κ_19 hΓ_19 => sp_fin hΓ_19 (o := oShort z (B 0) s x 1) (B := B) (u := u) h4 hB (by rw [oS8]; exact hu) hu8 (fun σ99 h99 f99 => ?_))
    show AW G κ _ _ 22 _ _ _
    exact sX13_setShort_22 hΓ (hq _ h99 ((f1.tr f4).tr f99))
theorem rp_clearQueue (hΓ : Ok G κ mX13_clearQueue (d + 4) Q X) (h : MP G σ a r z B) {u : Nat} (hu : z 8 = nI u) (hu8 : u ≤ 8) (hq : ∀ σ1 : Hp, MP G σ1 a r (fZ (oClear z (B 0)) u) (fB B (oClear z (B 0)) u) → MF a r σ σ1 → Q (some (.int (fV (oClear z (B 0))))) σ1) : AW G κ cs ss 0 [lR a] [] σ := by
  obtain ⟨A, h, hB⟩ := h
  refine sX13_clearQueue_0 hΓ rfl ?_
  refine sX13_clearQueue_1 hΓ 0 0 (Nat.le_of_ble_eq_true rfl) h.o (fun κ_1 hΓ_1 => sp_keep hΓ_1 h (fun σ1 h1 f1 => ?_))
  show AW G κ _ _ 4 _ _ _
  refine sX13_clearQueue_4 hΓ rfl ?_
  refine sX13_clearQueue_5 hΓ rfl ?_
  refine sX13_clearQueue_6 hΓ 0 0 (Nat.le_of_ble_eq_true rfl) h1.o (fun κ_6 hΓ_6 => sp_doClear hΓ_6 h1 (fun σ2 h2 f2 => ?_))
  show AW G κ _ _ 9 _ _ _
  refine sX13_clearQueue_9 hΓ 0 0 (Nat.le_of_ble_eq_true rfl) h2.o (fun κ_9 hΓ_9 => sp_fin hΓ_9 (o := oClear z (B 0)) (B := B) (u := u) h2 hB (show upd z 11 (B 0 6) 8 = nI u from (upd_ne (by decide)).trans hu) hu8 (fun σ99 h99 f99 => ?_))
  show AW G κ _ _ 12 _ _ _
  exact sX13_clearQueue_12 hΓ (hq _ h99 ((f1.tr f2).tr f99))
def gZ2 (b c : Bool) (z : Nat → Int32) (o : Op) (u : Nat) : Nat → Int32 := if (b && c) = true then fZ o u else upd z 9 (rThr2 b c)
theorem rp_readdress (hΓ : Ok G κ mX13_readdress (d + 4) Q X) (h : MP G σ a r z B) {n s : Nat} (hR : RW (B 0) n s) {u : Nat} (hu : z 8 = nI u) (hu8 : u ≤ 8) {x y : Int32} (hq : ∀ σ1 : Hp, MP G σ1 a r (gZ2 (rIsT (B 0) x) (rIn y 1 127) z (oRead (upd z 9 0) (B 0) n x y) u) (gB' (rIsT (B 0) x && rIn y 1 127) B (oRead (upd z 9 0) (B 0) n x y) u) → MF a r σ σ1 → Q (some (.int (gV' (rIsT (B 0) x && rIn y 1 127) (oRead (upd z 9 0) (B 0) n x y)))) σ1) : AW G κ cs ss 0 [lR a, lI x, lI y] [] σ := by
  obtain ⟨A, h, hB⟩ := h
  have hn6 := hR.2.1
  refine sX13_readdress_0 hΓ rfl ?_
  refine sX13_readdress_1 hΓ rfl ?_
  refine sX13_readdress_2 hΓ rfl ?_
  refine sX13_readdress_3 hΓ 0 0 (Nat.le_of_ble_eq_true rfl) h.o (fun κ_3 hΓ_3 => sp_isTrain hΓ_3 h ?_)
  show AW G κ _ _ 6 _ _ _
  refine sX13_readdress_6 hΓ rfl ?_
  refine sX13_readdress_7 hΓ ?_
  refine sX13_readdress_8 hΓ ?_
  refine sX13_readdress_10 hΓ 0 0 (Nat.le_of_ble_eq_true rfl) (fun κ_10 hΓ_10 => sp_inRange hΓ_10 ?_)
  show AW G κ _ _ 13 _ _ _
  refine sX13_readdress_13 hΓ 0 0 (Nat.le_of_ble_eq_true rfl) h.o (fun κ_13 hΓ_13 => sp_lacksBoth hΓ_13 h rfl rfl (fun σ1 h1 f1 => ?_))
  show AW G κ _ _ 16 _ _ _
  refine sX13_readdress_16 hΓ (fun c16 => ?_) (fun c16 => ?_)
  · obtain ⟨c1, c2⟩ := rThr2_0 c16
    have cb : (rIsT (B 0) x && rIn y 1 127) = true := by rw [c1, c2]; rfl
    have g1 : gZ2 (rIsT (B 0) x) (rIn y 1 127) z (oRead (upd z 9 0) (B 0) n x y) u = fZ (oRead (upd z 9 0) (B 0) n x y) u := if_pos cb
    obtain ⟨_, g2, g3⟩ := g_t cb z B (oRead (upd z 9 0) (B 0) n x y) u
    rw [g1, g2, g3] at hq
    rw [c1, c2] at h1
    change MV G σ1 a r (upd z 9 0) A 0 (B 0) _ at h1
    obtain ⟨k, hk, hx⟩ := rIn_nI (n := n) (by omega) (by rw [← hR.1]; exact c1)
    refine sX13_readdress_21 hΓ rfl ?_
    refine sX13_readdress_22 hΓ 0 0 (Nat.le_of_ble_eq_true rfl) h1.o (fun κ_22 hΓ_22 => sp_keep hΓ_22 h1 (fun σ2 h2 f2 => ?_))
    show AW G κ _ _ 25 _ _ _
    refine sX13_readdress_25 hΓ rfl ?_
    refine sX13_readdress_26 hΓ rfl ?_
    refine sX13_readdress_27 hΓ rfl ?_
    refine sX13_readdress_28 hΓ rfl ?_
    refine sX13_readdress_29 hΓ 0 0 (Nat.le_of_ble_eq_true rfl) h2.o (fun κ_29 hΓ_29 => sp_doReaddress hΓ_29 h2 hR hx hk (fun σ3 h3 f3 => ?_))
    show AW G κ _ _ 32 _ _ _
    refine sX13_readdress_32 hΓ 0 0 (Nat.le_of_ble_eq_true rfl) h3.o (fun κ_32 hΓ_32 => sp_fin hΓ_32 (o := oRead (upd z 9 0) (B 0) n x y) (B := B) (u := u) h3 hB (by rw [oR8]; exact (upd_ne (by decide)).trans hu) hu8 (fun σ99 h99 f99 => ?_))
    show AW G κ _ _ 35 _ _ _
    exact sX13_readdress_35 hΓ (hq _ h99 (((f1.tr f2).tr f3).tr f99))
  · have cb : (rIsT (B 0) x && rIn y 1 127) = false := bN_n c16
    have g1 : gZ2 (rIsT (B 0) x) (rIn y 1 127) z (oRead (upd z 9 0) (B 0) n x y) u = upd z 9 (rThr2 (rIsT (B 0) x) (rIn y 1 127)) := if_neg (by rw [cb]; exact Bool.false_ne_true)
    obtain ⟨_, g2, g3⟩ := g_f cb z B (oRead (upd z 9 0) (B 0) n x y) u
    rw [g1, g2, g3] at hq
    refine sX13_readdress_19 hΓ ?_
    exact sX13_readdress_20 hΓ (hq _ (MP.mk h1 rfl hB) f1)
theorem rp_passTicks (hΓ : Ok G κ mX13_passTicks (d + 8) Q X) (h : MP G σ a r z B) {n s : Nat} (hR : RQ (B 0) n s) {u : Nat} (hu : z 8 = nI u) (hu8 : u ≤ 8) {x : Int32} (hq : ∀ σ1 : Hp, MP G σ1 a r (gZ (rIn x 1 60) z (oWait n s (upd z 9 0) (B 0) x) u) (gB' (rIn x 1 60) B (oWait n s (upd z 9 0) (B 0) x) u) → MF a r σ σ1 → Q (some (.int (gV' (rIn x 1 60) (oWait n s (upd z 9 0) (B 0) x)))) σ1) : AW G κ cs ss 0 [lR a, lI x] [] σ := by
  obtain ⟨A, h, hB⟩ := h
  refine sX13_passTicks_0 hΓ rfl ?_
  refine sX13_passTicks_1 hΓ rfl ?_
  refine sX13_passTicks_2 hΓ ?_
  refine sX13_passTicks_3 hΓ ?_
  refine sX13_passTicks_5 hΓ 0 0 (Nat.le_of_ble_eq_true rfl) (fun κ_5 hΓ_5 => sp_inRange hΓ_5 ?_)
  show AW G κ _ _ 8 _ _ _
  refine sX13_passTicks_8 hΓ 0 0 (Nat.le_of_ble_eq_true rfl) h.o (fun κ_8 hΓ_8 => sp_lacks hΓ_8 h rfl (fun σ1 h1 f1 => ?_))
  show AW G κ _ _ 11 _ _ _
  refine sX13_passTicks_11 hΓ (fun c11 => ?_) (fun c11 => ?_)
  · have cb : (rIn x 1 60) = true := bN_0 c11
    obtain ⟨g1, g2, g3⟩ := g_t cb z B (oWait n s (upd z 9 0) (B 0) x) u
    rw [g1, g2, g3] at hq
    rw [cb] at h1
    obtain ⟨t, ht, hx⟩ := rIn_nI (n := 61) (x := x) (by omega) (rIn_in (fun e => absurd (Int32.lt_of_lt_of_le e (by decide : (0 : Int32) ≤ 1)) (Int32.not_lt.mpr (rIn_t cb).1)) (Int32.not_lt.mpr (rIn_t cb).2))
    refine sX13_passTicks_16 hΓ rfl ?_
    refine sX13_passTicks_17 hΓ 0 0 (Nat.le_of_ble_eq_true rfl) h1.o (fun κ_17 hΓ_17 => sp_keep hΓ_17 h1 (fun σ2 h2 f2 => ?_))
    show AW G κ _ _ 20 _ _ _
    refine sX13_passTicks_20 hΓ rfl ?_
    refine sX13_passTicks_21 hΓ rfl ?_
    refine sX13_passTicks_22 hΓ rfl ?_
    refine sX13_passTicks_23 hΓ 0 0 (Nat.le_of_ble_eq_true rfl) h2.o (fun κ_23 hΓ_23 => sp_doWait hΓ_23 h2 hx (by omega) hR (fun σ3 η3 h3 f3 => ?_))
    show AW G κ _ _ 26 _ _ _
    refine sX13_passTicks_26 hΓ 0 0 (Nat.le_of_ble_eq_true rfl) h3.o (fun κ_26 hΓ_26 => sp_fin hΓ_26 (o := oWait n s (upd z 9 0) (B 0) x) (B := B) (u := u) h3 hB (by rw [oW8]; exact (upd_ne (by decide)).trans hu) hu8 (fun σ99 h99 f99 => ?_))
    show AW G κ _ _ 29 _ _ _
    exact sX13_passTicks_29 hΓ (hq _ h99 (((f1.tr f2).tr f3).tr f99))
  · have cb : (rIn x 1 60) = false := bN_n c11
    obtain ⟨g1, g2, g3⟩ := g_f cb z B (oWait n s (upd z 9 0) (B 0) x) u
    rw [g1, g2, g3] at hq
    rw [cb] at h1
    refine sX13_passTicks_14 hΓ ?_
    exact sX13_passTicks_15 hΓ (hq _ (MP.mk h1 rfl hB) f1)
end ModelChange
