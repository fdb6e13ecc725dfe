/-! sums; the sections between the trains -/
def sN (f : Nat → Nat) : Nat → Nat
  | 0 => 0
  | n + 1 => sN f n + f n
theorem sN_cg {f g : Nat → Nat} : ∀ n, (∀ k, k < n → f k = g k) → sN f n = sN g n
  | 0, _ => rfl
  | n + 1, h => by
    show sN f n + f n = sN g n + g n
    rw [sN_cg n (fun k hk => h k (by omega)), h n (Nat.lt_succ_self n)]
theorem sN_add (f g : Nat → Nat) : ∀ n, sN (fun k => f k + g k) n = sN f n + sN g n
  | 0 => rfl
  | n + 1 => by
    show sN (fun k => f k + g k) n + (f n + g n) = sN f n + f n + (sN g n + g n)
    rw [sN_add f g n]
    omega
theorem sN_0 : ∀ n, sN (fun _ => 0) n = 0
  | 0 => rfl
  | n + 1 => sN_0 n
theorem sN_c (c : Nat) : ∀ n, sN (fun _ => c) n = c * n
  | 0 => rfl
  | n + 1 => by
    show sN (fun _ => c) n + c = c * (n + 1)
    rw [sN_c c n, Nat.mul_succ]
theorem sN_one {f : Nat → Nat} {a : Nat} : ∀ n, sN (fun j => if j = a then f j else 0) n = if a < n then f a else 0
  | 0 => rfl
  | n + 1 => by
    show sN (fun j => if j = a then f j else 0) n + (if n = a then f n else 0) = _
    rw [sN_one n]
    by_cases e : n = a
    · subst e
      rw [if_neg (Nat.lt_irrefl n), if_pos rfl, if_pos (Nat.lt_succ_self n), Nat.zero_add]
    · rw [if_neg e, Nat.add_zero]
      by_cases h : a < n
      · rw [if_pos h, if_pos (by omega)]
      · rw [if_neg h, if_neg (by omega)]
theorem sumN_n (f : Nat → Int32) (g : Nat → Nat) : ∀ n, (∀ k, k < n → f k = nI (g k)) → sumN f n = nI (sN g n)
  | 0, _ => rfl
  | n + 1, h => by
    show sumN f n + f n = nI (sN g n + g n)
    rw [sumN_n f g n (fun k hk => h k (by omega)), h n (Nat.lt_succ_self n), nI_add]
theorem sumN_add3 (f g h : Nat → Int32) : ∀ n, sumN (fun k => f k + g k + h k) n = sumN f n + sumN g n + sumN h n
  | 0 => rfl
  | n + 1 => by
    show sumN (fun k => f k + g k + h k) n + (f n + g n + h n) = sumN f n + f n + (sumN g n + g n) + (sumN h n + h n)
    rw [sumN_add3 f g h n]
    ac_rfl
/-- is section j held by one of the first n -/
def oc (e : Nat → Nat) : Nat → Nat → Bool
  | 0, _ => false
  | n + 1, j => oc e n j || e n == j
theorem oc_iff {e : Nat → Nat} : ∀ {n j : Nat}, oc e n j = true ↔ ∃ k, k < n ∧ e k = j
  | 0, j => ⟨fun h => Bool.noConfusion h, fun ⟨k, h, _⟩ => absurd h (Nat.not_lt_zero k)⟩
  | n + 1, j => by
    show (oc e n j || e n == j) = true ↔ _
    rw [Bool.or_eq_true, oc_iff, beq_iff_eq]
    constructor
    · rintro (⟨k, h1, h2⟩ | h)
      · exact ⟨k, by omega, h2⟩
      · exact ⟨n, Nat.lt_succ_self n, h⟩
    · rintro ⟨k, h1, h2⟩
      by_cases ek : k = n
      · subst ek; exact Or.inr h2
      · exact Or.inl ⟨k, by omega, h2⟩
/-- over the trains is over the sections that they hold -/
theorem sN_oc {e : Nat → Nat} {f : Nat → Nat} {s : Nat} : ∀ n, (∀ k, k < n → e k < s) → (∀ i j, i < n → j < n → e i = e j → i = j) → sN (fun k => f (e k)) n = sN (fun j => if oc e n j = true then f j else 0) s
  | 0, _, _ => (sN_0 s).symm
  | n + 1, h1, h2 => by
    show sN (fun k => f (e k)) n + f (e n) = _
    rw [sN_oc n (fun k hk => h1 k (by omega)) (fun i j hi hj => h2 i j (by omega) (by omega))]
    have e1 : f (e n) = sN (fun j => if j = e n then f j else 0) s := by rw [sN_one s, if_pos (h1 n (Nat.lt_succ_self n))]
    rw [e1, ← sN_add]
    refine sN_cg s (fun j _ => ?_)
    by_cases c : oc e n j = true
    · have hne : ¬ j = e n := fun ej => by
        obtain ⟨k, k1, k2⟩ := oc_iff.mp c
        have := h2 k n (by omega) (Nat.lt_succ_self n) (k2.trans ej)
        omega
      rw [if_pos c, if_neg hne, if_pos (show oc e (n + 1) j = true from by show (oc e n j || e n == j) = true; rw [c]; rfl)]
      rfl
    · by_cases ej : j = e n
      · rw [if_neg c, if_pos ej, if_pos (show oc e (n + 1) j = true from by show (oc e n j || e n == j) = true; rw [← ej, beq_self_eq_true, Bool.or_true])]
        exact Nat.zero_add _
      · rw [if_neg c, if_neg ej, if_neg (fun h => by
          have h9 : (oc e n j || e n == j) = true := h
          rw [Bool.or_eq_true, beq_iff_eq] at h9
          rcases h9 with h9 | h9
          · exact c h9
          · exact ej h9.symm)]
/-- how far ahead the next held section is -/
def gp (p : Nat → Bool) (s i : Nat) : Nat := match fsB (fun m => p ((i + m) % s)) s with
  | some m => m
  | none => 0
theorem gp_spec {p : Nat → Bool} {s a : Nat} (ha : a < s) (hp : p a = true) (i : Nat) : gp p s i < s ∧ p ((i + gp p s i) % s) = true ∧ (∀ m, m < gp p s i → p ((i + m) % s) = false) ∧ fsB (fun m => p ((i + m) % s)) s = some (gp p s i) := by
  have ex : ∃ m, m < s ∧ p ((i + m) % s) = true := by
    refine ⟨(a + s - i % s) % s, Nat.mod_lt _ (by omega), ?_⟩
    have h1 : i % s < s := Nat.mod_lt _ (by omega)
    rw [show (i + (a + s - i % s) % s) % s = a by
      rw [Nat.add_mod_mod]
      have h2 := Nat.div_add_mod i s
      rw [show i + (a + s - i % s) = a + s * (i / s + 1) by rw [Nat.mul_add, Nat.mul_one]; omega, Nat.add_mul_mod_self_left]
      exact Nat.mod_eq_of_lt ha]
    exact hp
  obtain ⟨m, m1, m2⟩ := ex
  obtain ⟨k, hk⟩ := fsB_ex (p := fun m => p ((i + m) % s)) m1 m2
  obtain ⟨k1, k2, k3⟩ := fsB_lt _ hk
  have e : gp p s i = k := by unfold gp; rw [hk]
  rw [e]
  exact ⟨k1, k2, k3, hk⟩
theorem gp_uniq {p : Nat → Bool} {s i m : Nat} (h1 : m < s) (h2 : p ((i + m) % s) = true) (h3 : ∀ m', m' < m → p ((i + m') % s) = false) : gp p s i = m := by
  unfold gp
  rw [fsB_some (fun m => p ((i + m) % s)) h2 h3 h1]
theorem gp_0 {p : Nat → Bool} {s i : Nat} (hs : 0 < s) (h : p (i % s) = true) : gp p s i = 0 := gp_uniq hs (by rw [Nat.add_zero]; exact h) (fun m' h => absurd h (Nat.not_lt_zero m'))
theorem gp_s {p : Nat → Bool} {s a i : Nat} (ha : a < s) (hp : p a = true) (h : ¬ p (i % s) = true) : gp p s i = gp p s (i + 1) + 1 := by
  obtain ⟨g1, g2, g3, -⟩ := gp_spec ha hp i
  have hne : gp p s i ≠ 0 := fun e => by rw [e, Nat.add_zero] at g2; exact h g2
  obtain ⟨m, em⟩ : ∃ m, gp p s i = m + 1 := ⟨gp p s i - 1, by omega⟩
  rw [em] at g1 g2 g3 ⊢
  rw [gp_uniq (p := p) (s := s) (i := i + 1) (m := m) (by omega) (by rw [show i + 1 + m = i + (m + 1) by omega]; exact g2) (fun m' hm' => by rw [show i + 1 + m' = i + (m' + 1) by omega]; exact g3 (m' + 1) (by omega))]
theorem gp_p {p : Nat → Bool} {s i : Nat} : gp p s (i + s) = gp p s i := by
  unfold gp
  rw [fsB_cg (p := fun m => p ((i + s + m) % s)) (q := fun m => p ((i + m) % s)) (fun k _ => by
    show p ((i + s + k) % s) = p ((i + k) % s)
    rw [show i + s + k = i + k + s by omega, Nat.add_mod_right])]
/-- the gaps and the held sections are all sections -/
theorem gp_sum {p : Nat → Bool} {s a : Nat} (ha : a < s) (hp : p a = true) : sN (fun j => if p j = true then 1 + gp p s (j + 1) else 0) s = s := by
  have hs : 0 < s := by omega
  have key : ∀ i, i ≤ s → sN (fun j => if p j = true then 1 + gp p s (j + 1) else 0) i + gp p s 0 = i + gp p s i := by
    intro i
    induction i with
    | zero => intro _; rfl
    | succ i ih =>
      intro hi
      have h1 := ih (by omega)
      have em : i % s = i := Nat.mod_eq_of_lt (by omega)
      show sN _ i + (if p i = true then 1 + gp p s (i + 1) else 0) + gp p s 0 = i + 1 + gp p s (i + 1)
      by_cases c : p i = true
      · have h2 := gp_0 (p := p) (i := i) hs (by rw [em]; exact c)
        rw [if_pos c]
        omega
      · have h2 := gp_s (i := i) ha hp (by rw [em]; exact c)
        rw [if_neg c]
        omega
  have h1 := key s (Nat.le_refl s)
  have h2 := gp_p (p := p) (s := s) (i := 0)
  rw [Nat.zero_add] at h2
  omega
/-- what a good row tells -/
theorem fst_some {ρ : Nat → Int32} {n w k : Nat} {v : Int32} (hk : k < n) (hv : tf ρ k w = v) (hu : ∀ j, j < k → ¬ tf ρ j w = v) : rFirst ρ n w v = some k := by
  unfold rFirst
  refine fsB_some _ ?_ (fun j hj => ?_) hk
  · show (ρ (58 + 15 * k + w) == v) = true
    rw [show ρ (58 + 15 * k + w) = v from hv]
    exact beq_self_eq_true v
  · show (ρ (58 + 15 * j + w) == v) = false
    exact beq_eq_false_iff_ne.mpr (hu j hj)
theorem GR.sec {ρ : Nat → Int32} {n s τ : Nat} (h : GR ρ n s τ) {k : Nat} (hk : k < n) : rSec ρ k < s ∧ tf ρ k 3 = nI (rSec ρ k) := h.1.1.1.at3 hk
theorem GR.secI {ρ : Nat → Int32} {n s τ : Nat} (h : GR ρ n s τ) : ∀ i j, i < n → j < n → rSec ρ i = rSec ρ j → i = j := fun i j hi hj e => h.2.2.2.2.1 i j hi hj (by rw [(h.sec hi).2, (h.sec hj).2, e])
theorem GR.trainIn {ρ : Nat → Int32} {n s τ : Nat} (h : GR ρ n s τ) {k : Nat} (hk : k < n) : rFirst ρ n 3 (nI (rSec ρ k)) = some k := fst_some hk (h.sec hk).2 (fun j hj e => by
  have := h.2.2.2.2.1 j k (by omega) hk (e.trans (h.sec hk).2.symm)
  omega)
theorem GR.trainWith {ρ : Nat → Int32} {n s τ : Nat} (h : GR ρ n s τ) {k : Nat} (hk : k < n) : rFirst ρ n 0 (tf ρ k 0) = some k := fst_some hk rfl (fun j hj e => by
  have := h.2.2.2.2.2.1 j k (by omega) hk e
  omega)
/-- the sections with a train -/
theorem GR.occ {ρ : Nat → Int32} {n s τ : Nat} (h : GR ρ n s τ) {j : Nat} (hj : j < s) : (rFirst ρ n 3 (nI j)).isSome = oc (rSec ρ) n j := by
  have hs := h.1.1.1.2.2.2.2.1
  cases hf : rFirst ρ n 3 (nI j) with
  | none =>
    show false = _
    refine (Bool.eq_false_iff.mpr (fun e => ?_)).symm
    obtain ⟨k, k1, k2⟩ := oc_iff.mp e
    exact fst_none hf k k1 (by rw [(h.sec k1).2, k2])
  | some k =>
    show true = _
    unfold rFirst at hf
    obtain ⟨k1, k2, -⟩ := fsB_lt _ hf
    have k3 : ρ (58 + 15 * k + 3) = nI j := beq_iff_eq.mp k2
    refine (oc_iff.mpr ⟨k, k1, ?_⟩).symm
    unfold rSec
    rw [k3]
    exact nI_clamp (by omega)
theorem GR.there {ρ : Nat → Int32} {n s τ : Nat} (h : GR ρ n s τ) : sumN (fun j => if 0 ≤ oI (rFirst ρ n 3 (nI j)) then (1 : Int32) else 0) s = nI n := by
  have e1 : sumN (fun j => if 0 ≤ oI (rFirst ρ n 3 (nI j)) then (1 : Int32) else 0) s = nI (sN (fun j => if oc (rSec ρ) n j = true then 1 else 0) s) := by
    refine sumN_n _ _ s (fun j hj => ?_)
    have ho := h.occ hj
    have hn6 := h.1.n6
    cases hf : rFirst ρ n 3 (nI j) with
    | none =>
      rw [hf] at ho
      rw [← ho]
      rfl
    | some k =>
      rw [hf] at ho
      have hk : k < n := by unfold rFirst at hf; exact (fsB_lt _ hf).1
      rw [← ho, if_pos (show 0 ≤ oI (some k) from nI_pos' (by omega))]
      rfl
  rw [e1, ← sN_oc (f := fun _ => 1) n (fun k hk => (h.sec hk).1) h.secI, sN_c]
  congr 1
  omega
theorem GR.free1 {ρ : Nat → Int32} {n s τ : Nat} (h : GR ρ n s τ) {k : Nat} (hk : k < n) : rFree ρ n s (rSec ρ k) = nI (gp (oc (rSec ρ) n) s (rSec ρ k + 1)) := by
  obtain ⟨s1, -⟩ := h.sec hk
  have ho : oc (rSec ρ) n (rSec ρ k) = true := oc_iff.mpr ⟨k, hk, rfl⟩
  have e1 : fsB (rFreeP ρ n s (rSec ρ k)) s = fsB (fun m => oc (rSec ρ) n ((rSec ρ k + 1 + m) % s)) s := fsB_cg (fun m _ => h.occ (Nat.mod_lt _ (by omega)))
  unfold rFree
  rw [e1, (gp_spec s1 ho (rSec ρ k + 1)).2.2.2]
  rfl
theorem GR.free {ρ : Nat → Int32} {n s τ : Nat} (h : GR ρ n s τ) : sumN (fun k => rFree ρ n s (rSec ρ k)) n = ρ 1 - ρ 3 := by
  have hn1 : 1 ≤ n := h.1.2.1
  have hn6 := h.1.n6
  have hs := h.1.1.1.2.2.2.2.1
  obtain ⟨s1, -⟩ := h.sec (k := 0) (by omega)
  have ho : oc (rSec ρ) n (rSec ρ 0) = true := oc_iff.mpr ⟨0, by omega, rfl⟩
  rw [sumN_n _ (fun k => gp (oc (rSec ρ) n) s (rSec ρ k + 1)) n (fun k hk => h.free1 hk), h.1.1.1.1, h.1.1.1.2.2.1]
  have e1 := gp_sum s1 ho
  have e2 := sN_oc (f := fun j => 1 + gp (oc (rSec ρ) n) s (j + 1)) n (fun k hk => (h.sec hk).1) h.secI
  rw [e1] at e2
  have e3 : sN (fun k => 1 + gp (oc (rSec ρ) n) s (rSec ρ k + 1)) n = n + sN (fun k => gp (oc (rSec ρ) n) s (rSec ρ k + 1)) n := by
    rw [sN_add, sN_c]
    omega
  have e4 : sN (fun k => gp (oc (rSec ρ) n) s (rSec ρ k + 1)) n = s - n := by
    have e5 : sN (fun k => (fun j => 1 + gp (oc (rSec ρ) n) s (j + 1)) (rSec ρ k)) n = sN (fun k => 1 + gp (oc (rSec ρ) n) s (rSec ρ k + 1)) n := rfl
    omega
  rw [e4]
  refine (pk_sub ?_).symm
  omega
/-- the brakes -/
theorem brk_f : ∀ v : Fin 10, ∀ sp : Fin 29, 0 < v.1 → ((rBrk false (nI v.1) 28 (nI sp.1) 0 = 0) ↔ sp.1 = 0) ∧ rBrk false (nI v.1) 28 (nI sp.1) 0 ≤ nI sp.1 ∧ rBrk true (nI v.1) 28 (nI sp.1) 0 ≤ nI sp.1 * rBrk false (nI v.1) 28 (nI sp.1) 0 := by decide +kernel
/-- no train is faster than the fastest -/
theorem fast_le {ρ : Nat → Int32} : ∀ m k, k ≤ m → tf ρ k 5 ≤ tf ρ (rFast ρ m) 5 ∧ rFast ρ m ≤ m
  | 0, k, h => by
    obtain rfl : k = 0 := by omega
    exact ⟨Int32.le_refl _, Nat.le_refl _⟩
  | m + 1, k, h => by
    show tf ρ k 5 ≤ tf ρ (if ρ (58 + 15 * rFast ρ m + 5) < ρ (58 + 15 * (m + 1) + 5) then m + 1 else rFast ρ m) 5 ∧ (if ρ (58 + 15 * rFast ρ m + 5) < ρ (58 + 15 * (m + 1) + 5) then m + 1 else rFast ρ m) ≤ m + 1
    by_cases c : ρ (58 + 15 * rFast ρ m + 5) < ρ (58 + 15 * (m + 1) + 5)
    · rw [if_pos c]
      refine ⟨?_, Nat.le_refl _⟩
      by_cases ek : k = m + 1
      · rw [ek]; exact Int32.le_refl _
      · exact Int32.le_trans (fast_le m k (by omega)).1 (Int32.le_of_lt c)
    · rw [if_neg c]
      have h0 := (fast_le (ρ := ρ) m 0 (by omega)).2
      refine ⟨?_, by omega⟩
      by_cases ek : k = m + 1
      · rw [ek]; exact Int32.not_lt.mp c
      · exact (fast_le m k (by omega)).1
/-- no pair in one section -/
theorem GR.gap {ρ : Nat → Int32} {n s τ : Nat} (h : GR ρ n s τ) : rGap ρ n = 0 := by
  have e1 : ρ 7 - ρ 8 - ρ 9 - ρ 6 = 0 := by
    rw [h.2.2.2.2.2.2.2.1]
    rw [Int32.sub_eq_add_neg, Int32.sub_eq_add_neg, Int32.sub_eq_add_neg, show ρ 8 + ρ 9 + ρ 6 + -ρ 8 + -ρ 9 + -ρ 6 = (ρ 8 + -ρ 8) + (ρ 9 + -ρ 9) + (ρ 6 + -ρ 6) by ac_rfl, Int32.add_right_neg, Int32.add_right_neg, Int32.add_right_neg]
    rfl
  have z : ∀ (f : Nat → Int32) m, (∀ k, k < m → f k = 0) → sumN f m = 0 := fun f m => by
    induction m with
    | zero => intro _; rfl
    | succ m ih =>
      intro hf
      show sumN f m + f m = 0
      rw [ih (fun k hk => hf k (by omega)), hf m (Nat.lt_succ_self m)]
      rfl
  unfold rGap
  rw [e1]
  have e2 : rPairs ρ n = 0 := z _ n (fun i hi => z _ i (fun j hj => by
    show bI (ρ (58 + 15 * i + 3) == ρ (58 + 15 * j + 3)) = 0
    have hne : ¬ ρ (58 + 15 * i + 3) = ρ (58 + 15 * j + 3) := fun e => by
      have := h.2.2.2.2.1 i j hi (by omega) e
      omega
    rw [beq_eq_false_iff_ne.mpr hne]
    rfl))
  rw [e2]
  rfl
