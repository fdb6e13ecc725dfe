/-! the law's start: the text that it builds, the row that is read -/
def mZ0 : Nat → Int32 := fun j => if j = 23 then -1 else 0
def mB0 : Nat → Nat → Int32 := fun k => if k = 0 then mRow0 else fun _ => 0
theorem mRow0_ok : RV mRow0 2 8 := by
  have hB : RB mRow0 := by
    unfold mRow0 rNewT rBeg
    refine RB.put (RB.put (RB.put (RB.put (RB.put (RB.put (RB.put (RB.put (RB.put (RB.put (RB.put (RB.put (RB.put (RB.put (RB.put (fun _ => okV_0 _) ?_) ?_) ?_) ?_) ?_) ?_) ?_) ?_) ?_) ?_) ?_) ?_) ?_) ?_) ?_
    · exact okV_u (by decide)
    · exact okV_u (by decide)
    · exact okV_n (m := 1) (by decide)
    · exact okV_n (m := 1) (by decide)
    · exact okV_n (m := 1) (by decide)
    · exact okV_u (by decide)
    · exact okV_u (by decide)
    · exact okV_n (m := 2) (by decide)
    · exact okV_n (m := 4) (by decide)
    · exact okV_u (by decide)
    · exact okV_u (by decide)
    · exact okV_u (by decide)
    · exact okV_n (m := 1) (by decide)
    · exact okV_n (m := 2) (by decide)
    · exact okV_u (by decide)
  refine ⟨⟨⟨rfl, by decide, rfl, by decide, by decide, fun k hk => ?_, fun k hk => ?_⟩, 0, by decide, rfl⟩, by decide, hB⟩
  · match k, hk with
    | 0, _ => exact ⟨0, by decide, rfl⟩
    | 1, _ => exact ⟨2, by decide, rfl⟩
  · match k, hk with
    | 0, _ => decide
    | 1, _ => decide
/-- the row that the law's text gives is good -/
theorem tunR_o {f : Nat → Bool} {k0 : Nat} {ρ : Nat → Int32} {j : Nat} : ∀ m, k0 + m ≤ 24 → j < 10 ∨ 34 ≤ j → tunR f k0 ρ m j = ρ j
  | 0, _, _ => rfl
  | m + 1, hm, hj => by
    show (if f (k0 + m) = true then upd (tunR f k0 ρ m) (10 + (k0 + m)) 1 else tunR f k0 ρ m) j = ρ j
    split
    · rw [upd_ne (by omega)]; exact tunR_o m (by omega) hj
    · exact tunR_o m (by omega) hj
theorem trnR_o {ad ac dv : Nat → Nat} {ρ : Nat → Int32} {j : Nat} : ∀ m, j ≠ 3 → (∀ k w, k < m → w < 4 → j ≠ 58 + 15 * k + w) → trnR ad ac dv ρ m j = ρ j
  | 0, _, _ => rfl
  | m + 1, h3, h => by
    show rNewT (trnR ad ac dv ρ m) m (nI (ad m)) (nI (ac m)) (nI (dv m)) (nI m) j = ρ j
    unfold rNewT
    rw [upd_ne (h m 3 (by omega) (by decide)), upd_ne (h m 2 (by omega) (by decide)), upd_ne (h m 1 (by omega) (by decide)), upd_ne (h m 0 (by omega) (by decide)), upd_ne h3]
    exact trnR_o m h3 (fun k w hk hw => h k w (by omega) hw)
theorem trnR_3 {ad ac dv : Nat → Nat} {ρ : Nat → Int32} (m : Nat) : trnR ad ac dv ρ (m + 1) 3 = nI (m + 1) := by
  show rNewT (trnR ad ac dv ρ m) m (nI (ad m)) (nI (ac m)) (nI (dv m)) (nI m) 3 = _
  unfold rNewT
  rw [upd_ne (by omega), upd_ne (by omega), upd_ne (by omega), upd_ne (by omega), upd_same]
theorem rBeg_o {x y : Int32} {j : Nat} (h1 : j ≠ 1) (h2 : j ≠ 2) : rBeg x y j = 0 := by
  unfold rBeg
  rw [upd_ne h2, upd_ne h1]
theorem law_row {n c m : Nat} {f : Nat → Bool} {ad ac dv : Nat → Nat} (hn : 4 ≤ n) (hn2 : n ≤ 12) (hm : 1 ≤ m) (hm4 : m ≤ 4) (hd : ∀ i j, ad i = ad j → i = j) (h1 : ∀ k, 1 ≤ ad k) (h2 : ∀ k, k < m → ad k ≤ 127) (hV : ∃ n1 s1, RV (trnR ad ac dv (tunR f 0 (rBeg (nI n) (nI c)) n) m) n1 s1) : GR (trnR ad ac dv (tunR f 0 (rBeg (nI n) (nI c)) n) m) m n 0 ∧ trnR ad ac dv (tunR f 0 (rBeg (nI n) (nI c)) n) m 3 = nI m := by
  obtain ⟨m, rfl⟩ : ∃ q, m = q + 1 := ⟨m - 1, by omega⟩
  have e3 := trnR_3 (ad := ad) (ac := ac) (dv := dv) (ρ := tunR f 0 (rBeg (nI n) (nI c)) n) m
  have o : ∀ j, j ≠ 3 → j ≠ 1 → j ≠ 2 → (j < 10 ∨ 34 ≤ j) → (∀ k w, k < m + 1 → w < 4 → j ≠ 58 + 15 * k + w) → trnR ad ac dv (tunR f 0 (rBeg (nI n) (nI c)) n) (m + 1) j = 0 := fun j a3 a1 a2 a10 aT => by
    rw [trnR_o (m + 1) a3 aT, tunR_o n (by omega) a10, rBeg_o a1 a2]
  have e1 : trnR ad ac dv (tunR f 0 (rBeg (nI n) (nI c)) n) (m + 1) 1 = nI n := by
    rw [trnR_o (m + 1) (by decide) (fun k w hk hw => by omega), tunR_o n (by omega) (by omega)]
    rfl
  have hf := trnR_f (ad := ad) (ac := ac) (dv := dv) (ρ := tunR f 0 (rBeg (nI n) (nI c)) n) (m + 1)
  generalize hρ : trnR ad ac dv (tunR f 0 (rBeg (nI n) (nI c)) n) (m + 1) = ρ at *
  have ot : ∀ k w, k < m + 1 → 4 ≤ w → w < 15 → tf ρ k w = 0 := fun k w hk hw1 hw2 => o _ (by omega) (by omega) (by omega) (by omega) (fun k1 w1 hk1 hw3 => by omega)
  have hV1 : RV ρ (m + 1) n := by
    obtain ⟨n1, s1, hv⟩ := hV
    have en : n1 = m + 1 := (nI_eq (by have := hv.n6; omega) (by omega)).mp (hv.1.1.1.symm.trans e3)
    have es : s1 = n := (nI_eq (by have := hv.s4.2.2; omega) (by omega)).mp (hv.s4.1.symm.trans e1)
    rw [en, es] at hv
    exact hv
  refine ⟨⟨hV1, o 0 (by decide) (by decide) (by decide) (by decide) (fun k w hk hw => by omega), by decide, ⟨hn2, hm4⟩, fun i j hi hj e => ?_, fun i j hi hj e => ?_, fun k hk => ?_, ?_, 0, Nat.le_refl _, o 5 (by decide) (by decide) (by decide) (by decide) (fun k w hk hw => by omega)⟩, e3⟩
  · rw [(hf i hi).2, (hf j hj).2] at e
    exact (nI_eq (by omega) (by omega)).mp e
  · rw [(hf i hi).1, (hf j hj).1] at e
    have a1 := h2 i hi
    have a2 := h2 j hj
    exact hd i j ((nI_eq (by omega) (by omega)).mp e)
  · refine ⟨⟨ad k, h1 k, h2 k hk, (hf k hk).1⟩, ⟨0, by decide, ot k 4 hk (by decide) (by decide)⟩, ⟨0, Nat.le_refl _, ot k 9 hk (by decide) (by decide), fun e => by omega⟩, ⟨0, Nat.le_refl _, ot k 10 hk (by decide) (by decide)⟩, 0, 0, 0, Nat.le_refl _, ot k 11 hk (by decide) (by decide), ot k 12 hk (by decide) (by decide), ot k 13 hk (by decide) (by decide)⟩
  · rw [o 7 (by decide) (by decide) (by decide) (by decide) (fun k w hk hw => by omega), o 8 (by decide) (by decide) (by decide) (by decide) (fun k w hk hw => by omega), o 9 (by decide) (by decide) (by decide) (by decide) (fun k w hk hw => by omega), o 6 (by decide) (by decide) (by decide) (by decide) (fun k w hk hw => by omega)]
    rfl
/-! the builder, by the list that it holds -/
section LawBuild
variable {G : Gl} {κ : Kx} {d : Nat} {Q : Option Value → Hp → Prop} {X : String → Hp → Prop} {cs ss : Nat} {σ σ0 : Hp} {b : Nat} {l : List Nat}
def BT (G : Gl) (σ0 σ : Hp) (b : Nat) (l : List Nat) : Prop := ∃ (t : Nat → Nat) (v m : Nat) (a : Nat → Int32) (ml : Int32), SBv G σ0 σ b t l.length v m a ml ∧ ∀ i, i < l.length → t i = gl l i
theorem gl_ap2 {l m : List Nat} {i : Nat} : gl (l ++ m) (l.length + i) = gl m i := by
  unfold gl
  rw [List.getD_eq_getElem?_getD, List.getD_eq_getElem?_getD, List.getElem?_append_right (Nat.le_add_right _ _), Nat.add_sub_cancel_left]
theorem BT.add {t u : Nat → Nat} {v m n : Nat} {a : Nat → Int32} {ml : Int32} {k : List Nat} (hl : ∀ i, i < l.length → t i = gl l i) (hk : ∀ i, i < k.length → u i = gl k i) (hn : n = l.length + k.length) (h : SBv G σ0 σ b (sb_cat t l.length u) n v m a ml) : BT G σ0 σ b (l ++ k) := by
  subst hn
  refine ⟨sb_cat t l.length u, v, m, a, ml, by rw [List.length_append]; exact h, fun i hi => ?_⟩
  rw [List.length_append] at hi
  rcases Nat.lt_or_ge i l.length with c | c
  · rw [sb_cat_lo c, gl_app c]; exact hl i c
  · obtain ⟨j, rfl⟩ : ∃ j, i = l.length + j := ⟨i - l.length, by omega⟩
    rw [sb_cat_hi, gl_ap2]
    exact hk j (by omega)
theorem bt_aC (hΓ : Ok G κ mJ4_append_cf468 (d + 5) Q X) (h : BT G σ0 σ b l) {c : Nat} (hc : c < 128) (hn9 : l.length + 1 ≤ 300) (hq : ∀ σ1 : Hp, BT G σ0 σ1 b (l ++ [c]) → Q (some (.ref b)) σ1) : AW G κ (cs + 1) (ss + 640) 0 [lR b, lI (nI c)] [] σ := by
  obtain ⟨t, v, m, a, ml, h1, h2⟩ := h
  exact sj_aC hΓ h1 hc hn9 (fun σ1 v1 m1 a1 h3 => hq σ1 (BT.add (k := [c]) h2 (fun i hi => by
    obtain rfl : i = 0 := by have : i < 1 := hi; omega
    rfl) rfl h3))
theorem bt_aI (hΓ : Ok G κ mJ4_append_bf812 (d + 5) Q X) (h : BT G σ0 σ b l) {k : Nat} (hk : k < 1000) (hn9 : l.length + 3 ≤ 300) (hq : ∀ σ1 : Hp, BT G σ0 σ1 b (l ++ Dg k) → Q (some (.ref b)) σ1) : AW G κ (cs + 1) (ss + 640) 0 [lR b, lI (nI k)] [] σ := by
  obtain ⟨t, v, m, a, ml, h1, h2⟩ := h
  exact sj_aI hΓ h1 hk hn9 (fun σ1 v1 m1 a1 h3 => hq σ1 (BT.add (k := Dg k) h2 (fun i hi => by rw [Dg_len] at hi; exact (Dg_gl hi).symm) (by rw [Dg_len]) h3))
def wTx (k : Nat) : List Nat := match k with
  | 4 => wTrack ++ [32]
  | 5 => wTunnel ++ [32]
  | _ => wTrain ++ [32]
theorem wTx_f : ∀ k : Fin 7, 4 ≤ k.1 → (wTx k.1).length = (txB k.1).length ∧ ∀ i : Fin 7, i.1 < (txB k.1).length → txN k.1 i.1 = gl (wTx k.1) i.1 := by decide +kernel
theorem bt_aS (hΓ : Ok G κ mJ4_append_15ec4 (d + 5) Q X) (h : BT G σ0 σ b l) {k : Nat} (hk : k < 7) (hk4 : 4 ≤ k) (hn9 : l.length + 7 ≤ 300) (hq : ∀ σ1 : Hp, BT G σ0 σ1 b (l ++ wTx k) → Q (some (.ref b)) σ1) : AW G κ (cs + 1) (ss + 640) 0 [lR b, lR (gK G k)] [] σ := by
  obtain ⟨t, v, m, a, ml, h1, h2⟩ := h
  obtain ⟨e1, e2⟩ := wTx_f ⟨k, hk⟩ hk4
  have e7 : (txB k).length ≤ 7 := (by decide : ∀ k : Fin 7, (txB k.1).length ≤ 7) ⟨k, hk⟩
  have e1' : (wTx k).length = (txB k).length := e1
  exact sj_aS hΓ h1 hk (by omega) (fun σ1 v1 m1 a1 h3 => hq σ1 (BT.add (k := wTx k) h2 (fun i hi => e2 ⟨i, by omega⟩ (by show i < (txB k).length; omega)) (by rw [e1']) h3))
theorem bt_init (hΓ : Ok G κ mJ4_init_a7421 (d + 8) Q X) (h0 : ∀ y e, σ0 y = some e → σ y = some e) (h1 : σ0 b = none) (hb : σ b = some (.inr (1, [.null, .int 0, .int 0, .int 0]))) (hq : ∀ σ1 : Hp, BT G σ0 σ1 b (wTx 4) → Q none σ1) : AW G κ (cs + 2) (ss + 680) 0 [lR b, lR (gK G 4)] [] σ :=
  sj_init hΓ h0 h1 hb (k := 4) (by decide) (by decide) (fun σ1 v1 m1 a1 h3 => hq σ1 (BT.add (l := []) (k := wTx 4) (fun i hi => absurd hi (Nat.not_lt_zero i)) (fun i hi => (wTx_f ⟨4, by decide⟩ (by decide)).2 ⟨i, Nat.lt_of_lt_of_le hi (by decide)⟩ (Nat.lt_of_lt_of_le hi (Nat.le_of_eq (wTx_f ⟨4, by decide⟩ (by decide)).1))) rfl h3))
theorem BT.o (h : BT G σ0 σ b l) : ∃ fs, σ b = some (.inr (1, fs)) := by
  obtain ⟨t, v, m, a, ml, h1, h2⟩ := h
  exact ⟨_, h1.2.1⟩
/-- the string that it makes, new -/
theorem bt_str (hΓ : Ok G κ mJ4_toString_0e30d (d + 5) Q X) (h : BT G σ0 σ b l) (hq : ∀ (σ1 : Hp) (s w : Nat) (a : Nat → Int32), (∀ y e, σ0 y = some e → σ1 y = some e) → σ0 s = none → σ0 w = none → σ1 s = some (.inr (0, stV w)) → σ1 w = some (eB G l.length a) → l.length ≤ 640 → sb_Lat (gl l) l.length a → Q (some (.ref s)) σ1) : AW G κ (cs + 1 + 1) (ss + 640 + 4) 0 [lR b] [] σ := by
  obtain ⟨t, v, m, a, ml, h, hl⟩ := h
  have a1 := h.1.1
  have no : ∀ y, σ y = none → σ0 y = none := fun y hy => by
    cases h9 : σ0 y with
    | none => rfl
    | some e => rw [a1 y e h9] at hy; cases hy
  refine sJ4_toString_0e30d_0 hΓ (fun s hs hs9 => ?_)
  have hS : SBv G σ0 (hset σ s (.inr (0, [.null, .int 0, .int 0, .int 0]))) b t l.length v m a ml := by
    obtain ⟨⟨a1, a2, a3⟩, a4, a5, a6⟩ := h
    have n1 : b ≠ s := fun e => by rw [e, hs] at a4; cases a4
    have n2 : v ≠ s := fun e => by rw [e, hs] at a5; cases a5
    refine ⟨⟨fun y e hy => ?_, a2, a3⟩, (hset_ne n1).trans a4, (hset_ne n2).trans a5, a6⟩
    have y1 : y ≠ s := fun e9 => by have := a1 y e hy; rw [e9, hs] at this; cases this
    rw [hset_ne y1]
    exact a1 y e hy
  refine sJ4_toString_0e30d_3 hΓ ?_
  refine sJ4_toString_0e30d_4 hΓ rfl ?_
  refine sJ4_toString_0e30d_5 hΓ 1 640 (Nat.le_of_ble_eq_true rfl) (fun κ2 h2 => sj_str1 (d := d) h2 hS (hset_same _ _ _) (fun σ1 w a2 g1 g2 g3 g4 g5 => ?_))
  show AW G κ _ _ 8 _ _ _
  have w1 : σ w = none := by
    by_cases e9 : w = s
    · rw [e9]; exact hs
    · rw [hset_ne e9] at g1; exact g1
  refine sJ4_toString_0e30d_8 hΓ (hq σ1 s w a2 (fun y e hy => ?_) (no s hs) (no w w1) g3 g4 (by have := h.2.2.2.1; omega) (fun j hj => by rw [← hl j hj]; exact g5 j hj))
  have y1 : y ≠ s := fun e9 => by rw [e9, no s hs] at hy; cases hy
  exact g2 y e y1 ((hset_ne y1).trans (a1 y e hy))
theorem gl_list (l : List Nat) : (List.range l.length).map (gl l) = l := by
  refine List.ext_getElem? (fun i => ?_)
  rcases Nat.lt_or_ge i l.length with c | c
  · rw [List.getElem?_map, List.getElem?_range c, List.getElem?_eq_getElem c]
    show some (gl l i) = some l[i]
    unfold gl
    rw [List.getD_eq_getElem?_getD, List.getElem?_eq_getElem c]
    rfl
  · rw [List.getElem?_eq_none (by rw [List.length_map, List.length_range]; exact c), List.getElem?_eq_none c]
/-- letters below 128 -/
def low7 (l : List Nat) : Prop := ∀ c, c ∈ l → c < 128
theorem low7.app {l m : List Nat} (h1 : low7 l) (h2 : low7 m) : low7 (l ++ m) := fun c hc => (List.mem_append.mp hc).elim (h1 c) (h2 c)
theorem low7.at_ {l : List Nat} (h : low7 l) (j : Nat) : gl l j < 128 := by
  rcases Nat.lt_or_ge j l.length with c | c
  · have e : gl l j = l[j] := by
      show l.getD j 0 = _
      rw [List.getD_eq_getElem?_getD, List.getElem?_eq_getElem c]
      rfl
    rw [e]
    exact h _ (List.getElem_mem c)
  · rw [gl_out c]; decide
theorem low_Dg {k : Nat} (hk : k < 1000) : low7 (Dg k) := fun c hc => by
  obtain ⟨i, -, rfl⟩ := List.mem_map.mp hc
  have := dgC_d (i := i) hk
  omega
theorem low_tx : ∀ k : Fin 7, low7 (wTx k.1) := by
  intro k
  match k with
  | ⟨0, _⟩ => exact (by decide : ∀ c, c ∈ wTx 0 → c < 128)
  | ⟨1, _⟩ => exact (by decide : ∀ c, c ∈ wTx 1 → c < 128)
  | ⟨2, _⟩ => exact (by decide : ∀ c, c ∈ wTx 2 → c < 128)
  | ⟨3, _⟩ => exact (by decide : ∀ c, c ∈ wTx 3 → c < 128)
  | ⟨4, _⟩ => exact (by decide : ∀ c, c ∈ wTx 4 → c < 128)
  | ⟨5, _⟩ => exact (by decide : ∀ c, c ∈ wTx 5 → c < 128)
  | ⟨6, _⟩ => exact (by decide : ∀ c, c ∈ wTx 6 → c < 128)
theorem low_1 {c : Nat} (h : c < 128) : low7 [c] := fun x hx => by rw [List.mem_singleton.mp hx]; exact h
theorem tHead_eq (n c : Nat) : wTx 4 ++ Dg n ++ [32] ++ Dg c ++ [59] = tHead n c := by
  show wTrack ++ [32] ++ Dg n ++ [32] ++ Dg c ++ [59] = _
  unfold tHead
  simp only [List.append_assoc]
theorem tTun_eq (l : List Nat) (k : Nat) : l ++ wTx 5 ++ Dg k ++ [59] = l ++ tTun k := by
  show l ++ (wTunnel ++ [32]) ++ Dg k ++ [59] = _
  unfold tTun
  simp only [List.append_assoc]
theorem tTrn_eq (l : List Nat) (ad ac dv k : Nat) : l ++ wTx 6 ++ Dg ad ++ [32] ++ Dg ac ++ [32] ++ Dg dv ++ [32] ++ Dg k ++ [59] = l ++ tTrn ad ac dv k := by
  show l ++ (wTrain ++ [32]) ++ Dg ad ++ [32] ++ Dg ac ++ [32] ++ Dg dv ++ [32] ++ Dg k ++ [59] = _
  unfold tTrn
  simp only [List.append_assoc]
theorem dgN_3 (k : Nat) : dgN k ≤ 3 := by
  unfold dgN
  split
  · decide
  · split <;> decide
theorem tHead_le (n c : Nat) : (tHead n c).length ≤ 14 := by
  have h1 := dgN_3 n
  have h2 := dgN_3 c
  unfold tHead
  simp only [List.length_append, Dg_len, List.length_cons, List.length_nil, wTrack]
  omega
theorem tTuns_le (f : Nat → Bool) : ∀ k, (tTuns f k).length ≤ 11 * k
  | 0 => Nat.le_refl _
  | k + 1 => by
    have h1 := tTuns_le f k
    have h2 := tTun_len k
    have h3 := dgN_3 k
    rw [List.length_singleton] at h2
    show (tTuns f k ++ if f k = true then tTun k else []).length ≤ _
    rw [List.length_append]
    split
    · omega
    · rw [List.length_nil]; omega
theorem tTrns_le (ad ac dv : Nat → Nat) : ∀ k, (tTrns ad ac dv k).length ≤ 22 * k
  | 0 => Nat.le_refl _
  | k + 1 => by
    have h1 := tTrns_le ad ac dv k
    have h2 := tTrn_len (ad k) (ac k) (dv k) k
    have h3 := dgN_3 k
    have h4 := dgN_3 (ad k)
    have h5 := dgN_3 (ac k)
    have h6 := dgN_3 (dv k)
    rw [List.length_singleton] at h2
    show (tTrns ad ac dv k ++ tTrn (ad k) (ac k) (dv k) k).length ≤ _
    rw [List.length_append]
    omega
theorem low_head {n c : Nat} (hn : n < 1000) (hc : c < 1000) : low7 (tHead n c) := by
  rw [← tHead_eq]
  exact ((((low_tx ⟨4, by decide⟩).app (low_Dg hn)).app (low_1 (by decide))).app (low_Dg hc)).app (low_1 (by decide))
theorem low_nil : low7 [] := fun c hc => by cases hc
theorem low_tuns {f : Nat → Bool} : ∀ k, k < 1000 → low7 (tTuns f k)
  | 0, _ => low_nil
  | k + 1, hk => by
    show low7 (tTuns f k ++ if f k = true then tTun k else [])
    refine (low_tuns k (by omega)).app ?_
    split
    · have h := tTun_eq [] k
      rw [List.nil_append, List.nil_append] at h
      rw [← h]
      exact ((low_tx ⟨5, by decide⟩).app (low_Dg (by omega))).app (low_1 (by decide))
    · exact low_nil
theorem low_trns {ad ac dv : Nat → Nat} : ∀ k, k < 1000 → (∀ i, i < k → ad i < 1000 ∧ ac i < 1000 ∧ dv i < 1000) → low7 (tTrns ad ac dv k)
  | 0, _, _ => low_nil
  | k + 1, hk, h => by
    obtain ⟨h1, h2, h3⟩ := h k (by omega)
    refine (low_trns k (by omega) (fun i hi => h i (by omega))).app ?_
    have e := tTrn_eq [] (ad k) (ac k) (dv k) k
    rw [List.nil_append, List.nil_append] at e
    rw [← e]
    exact ((((((((low_tx ⟨6, by decide⟩).app (low_Dg h1)).app (low_1 (by decide))).app (low_Dg h2)).app (low_1 (by decide))).app (low_Dg h3)).app (low_1 (by decide))).app (low_Dg (by omega))).app (low_1 (by decide))
end LawBuild
