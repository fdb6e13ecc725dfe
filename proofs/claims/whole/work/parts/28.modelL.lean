/-! the orders that a script's reading lays down hang together -/
theorem vOrd_eq {O O1 : Nat → Int32} {i : Nat} (h : vOrd O i) (he : ∀ w, w < 4 → O1 (4 * i + w) = O (4 * i + w)) : vOrd O1 i := by
  obtain ⟨k, a, b, c, hk, ha, hb, hc, e0, e1, e2, e3, h9⟩ := h
  exact ⟨k, a, b, c, hk, ha, hb, hc, (he 0 (by decide)).trans e0, (he 1 (by decide)).trans e1, (he 2 (by decide)).trans e2, fun e => (he 3 (by decide)).trans (e3 e), h9⟩
theorem seg_mono {O O1 : Nat → Int32} : ∀ (m m1 g i j : Nat), m ≤ m1 → (∀ q, 4 * i ≤ q → q < 4 * j → O1 q = O q) → segOk O m g i j → segOk O1 m1 g i j
  | 0, m1, g, i, j, _, _, h => by
    have h : i = j := h
    subst h
    cases m1 with
    | zero => exact rfl
    | succ m1 => exact Or.inl rfl
  | m + 1, 0, g, i, j, hm, _, _ => absurd hm (by omega)
  | m + 1, m1 + 1, g, i, j, hm, he, h => by
    rcases h with e | ⟨hij, hv, h⟩
    · exact Or.inl e
    · have e0 : O1 (4 * i + 0) = O (4 * i + 0) := he _ (by omega) (by omega)
      have e2 : O1 (4 * i + 2) = O (4 * i + 2) := he _ (by omega) (by omega)
      refine Or.inr ⟨hij, vOrd_eq hv (fun w hw => he _ (by omega) (by omega)), ?_⟩
      rcases h with ⟨h7, h2⟩ | ⟨h7, e, h8, h9, h10, h11, h12, h13⟩
      · exact Or.inl ⟨by rw [e0]; exact h7, seg_mono m m1 g (i + 1) j (by omega) (fun q h1 h2 => he q (by omega) h2) h2⟩
      · exact Or.inr ⟨by rw [e0]; exact h7, e, by rw [e2]; exact h8, h9, h10, h11, seg_mono m m1 (g - 1) (i + 1) e (by omega) (fun q h1 h2 => he q (by omega) (by omega)) h12, seg_mono m m1 g e j (by omega) (fun q h1 h2 => he q (by omega) h2) h13⟩
theorem seg_le {O : Nat → Int32} : ∀ (m g i j : Nat), segOk O m g i j → i ≤ j
  | 0, _, _, _, h => Nat.le_of_eq h
  | m + 1, g, i, j, h => by
    rcases h with e | ⟨hij, -⟩
    · exact Nat.le_of_eq e
    · exact Nat.le_of_lt hij
theorem seg_app {O : Nat → Int32} : ∀ (m m1 g i j k : Nat), segOk O m g i j → segOk O m1 g j k → segOk O (m + m1) g i k
  | 0, m1, g, i, j, k, h, h1 => by
    have h : i = j := h
    subst h
    rw [Nat.zero_add]
    exact h1
  | m + 1, m1, g, i, j, k, h, h1 => by
    have hjk := seg_le m1 g j k h1
    rcases h with e | ⟨hij, hv, h⟩
    · subst e
      exact seg_mono m1 _ g i k (by omega) (fun _ _ _ => rfl) h1
    · rw [show m + 1 + m1 = (m + m1) + 1 by omega]
      refine Or.inr ⟨by omega, hv, ?_⟩
      rcases h with ⟨h7, h2⟩ | ⟨h7, e, h8, h9, h10, h11, h12, h13⟩
      · exact Or.inl ⟨h7, seg_app m m1 g (i + 1) j k h2 h1⟩
      · exact Or.inr ⟨h7, e, h8, h9, by omega, h11, seg_mono m _ (g - 1) (i + 1) e (by omega) (fun _ _ _ => rfl) h12, seg_app m m1 g e j k h13 h1⟩
theorem oSet_ne {O : Nat → Int32} {i w q : Nat} {x : Int32} (h : q ≠ 4 * i + w) : oSet O i w x q = O q := upd_ne h
theorem oSet_same {O : Nat → Int32} {i w : Nat} {x : Int32} : oSet O i w x (4 * i + w) = x := upd_same _ _ _
/-- what an order leaves as it was, and what it lays down -/
def oSeg (g : Nat) (Z Y : Zt) : Prop := (∀ q, q < 4 * Z.2.2 → Y.2.1 q = Z.2.1 q) ∧ (pR Y.1 = 0 → segOk Y.2.1 (Y.2.2 - Z.2.2) g Z.2.2 Y.2.2)
theorem oB_z {b : Nat → Int32} {L k : Nat} {P : Pt} (h : pR (oB b L k P) = 0) : pR P = 0 := (pLook_z (pGo_z h)).2.1
theorem oC_z {b : Nat → Int32} {L k : Nat} {P : Pt} (h : pR (oC b L k P) = 0) : pR P = 0 := by
  unfold oC at h
  split at h
  · exact (pLook_z (pGo_z h)).2.1
  · exact h
theorem oHead_7 {b : Nat → Int32} {L oc : Nat} {dp : Bool} {P : Pt} {k : Nat} (h : pR (oHead b L oc dp P) = 0) (hk : oHere b P = some k) : k < 8 := by
  obtain ⟨⟨k1, h1, h2⟩, -⟩ := oHead_z h
  rw [hk] at h1
  cases h1
  exact h2
theorem fLo_le {k : Nat} (hk : k < 7) : fLo k ≤ fHi k := by
  match k, hk with
  | 0, _ | 1, _ | 2, _ | 3, _ | 4, _ | 5, _ | 6, _ => decide
  | k + 7, h => omega
theorem vOrd_plain {b : Nat → Int32} {L k oc : Nat} {O : Nat → Int32} {P : Pt} (hk : k < 7) : vOrd (oPlain b L k (P, O, oc)).2.1 oc := by
  have h1 := pLook_in (b := b) (lo := fLo k) (hi := fHi k) (P := P) (fLo_le hk)
  have hb : fHi k ≤ 255 ∧ (k = 1 ∨ k = 2 ∨ k = 3 → fHi k ≤ 127) ∧ (k = 4 ∨ k = 5 → fHi k ≤ 23) ∧ (k = 6 → fLo k = 1 ∧ fHi k = 60) := by
    match k, hk with
    | 0, _ | 1, _ | 2, _ | 3, _ | 4, _ | 5, _ | 6, _ => decide
    | k + 7, h => omega
  have h2 : oCv b k (oB b L k P) ≤ 255 ∧ (k = 1 → oCv b k (oB b L k P) ≤ 28) ∧ (k = 2 → oCv b k (oB b L k P) ≤ 15) := by
    unfold oCv
    by_cases c : k < 3
    · rw [if_pos c]
      have h3 := (pLook_in (b := b) (lo := 0) (hi := sHi k) (P := oB b L k P) (Nat.zero_le _)).2
      have h4 : sHi k ≤ 255 ∧ (k = 1 → sHi k = 28) ∧ (k = 2 → sHi k = 15) := by
        match k, c with
        | 0, _ | 1, _ | 2, _ => decide
        | k + 3, h => omega
      exact ⟨by omega, fun e => by have := h4.2.1 e; omega, fun e => by have := h4.2.2 e; omega⟩
    · rw [if_neg c]
      exact ⟨by omega, fun e => by omega, fun e => by omega⟩
  have h3 : oDv b k (oC b L k (oB b L k P)) ≤ 255 := by
    unfold oDv
    split
    · exact (pLook_in (b := b) (lo := 0) (hi := 255) (P := oC b L k (oB b L k P)) (Nat.zero_le _)).2
    · exact Nat.zero_le _
  refine ⟨k, pVl b (fLo k) (fHi k) P, oCv b k (oB b L k P), oDv b k (oC b L k (oB b L k P)), by omega, ?_, h2.1, h3, ?_, ?_, ?_, fun _ => ?_, ?_, ?_, ?_, ?_, h2.2.1, h2.2.2⟩
  · exact Nat.le_trans h1.2 hb.1
  · show oSet (oSet (oSet (oSet O oc 0 _) oc 1 _) oc 2 _) oc 3 _ (4 * oc + 0) = _
    rw [oSet_ne (by omega), oSet_ne (by omega), oSet_ne (by omega), oSet_same]
  · show oSet (oSet (oSet (oSet O oc 0 _) oc 1 _) oc 2 _) oc 3 _ (4 * oc + 1) = _
    rw [oSet_ne (by omega), oSet_ne (by omega), oSet_same]
  · show oSet (oSet (oSet (oSet O oc 0 _) oc 1 _) oc 2 _) oc 3 _ (4 * oc + 2) = _
    rw [oSet_ne (by omega), oSet_same]
  · show oSet (oSet (oSet (oSet O oc 0 _) oc 1 _) oc 2 _) oc 3 _ (4 * oc + 3) = _
    rw [oSet_same]
  · exact fun e => Nat.le_trans h1.2 (hb.2.1 e)
  · exact fun e => Nat.le_trans h1.2 (hb.2.2.1 e)
  · exact fun e => by have := hb.2.2.2 e; omega
  · exact fun e => by omega
theorem oOne_seg {b : Nat → Int32} {L g : Nat} {rp : Zt → Zt} {dp : Bool} {Z : Zt} (h : oInv b L Z) (hg : dp = true → 1 ≤ g) (hr : dp = true → ∀ Y, oInv b L Y → oInv b L (rp Y) ∧ Y.2.2 ≤ (rp Y).2.2 ∧ oSeg (g - 1) Y (rp Y)) : oSeg g Z (oOne b L rp dp Z) := by
  obtain ⟨P, O, oc⟩ := Z
  by_cases c : pR (oHead b L oc dp P) = 0
  · obtain ⟨⟨k, hk, hk8⟩, h2, h3, -⟩ := oHead_z c
    by_cases c7 : oHere b P = some 7
    · rw [show oOne b L rp dp (P, O, oc) = oRep1 b L oc (rp (oRep0 b L (oHead b L oc dp P, O, oc))) from (if_neg (Decidable.not_not.mpr c)).trans (if_pos c7)]
      obtain ⟨h4, h5, h6, h7⟩ := hr (h3 c7) (oRep0 b L (oHead b L oc dp P, O, oc)) ⟨pExp_ok (pRead_ok (oHead_ok h.1)), h2⟩
      have hlo : ∀ q, q < 4 * oc + 2 → (oRep1 b L oc (rp (oRep0 b L (oHead b L oc dp P, O, oc)))).2.1 q = oSet (oSet O oc 0 (nI 7)) oc 1 (nI (pVl b 2 5 (oHead b L oc dp P))) q := by
        intro q hq
        show oSet _ oc 2 _ q = _
        rw [oSet_ne (by omega)]
        exact h6 q (by show q < 4 * (oc + 1); omega)
      refine ⟨fun q hq => ?_, fun e => ?_⟩
      · rw [hlo q (by have : q < 4 * oc := hq; omega)]
        have hq : q < 4 * oc := hq
        rw [oSet_ne (by omega), oSet_ne (by omega)]
      · have e1 : pR (rp (oRep0 b L (oHead b L oc dp P, O, oc))).1 = 0 := (pExp_z (pExp_z e).2).2
        have h8 := h7 e1
        have h9 : oc + 1 ≤ (rp (oRep0 b L (oHead b L oc dp P, O, oc))).2.2 := h5
        have hin := pLook_in (b := b) (lo := 2) (hi := 5) (P := oHead b L oc dp P) (by decide)
        generalize hY : rp (oRep0 b L (oHead b L oc dp P, O, oc)) = Y at *
        obtain ⟨P1, O1, oc1⟩ := Y
        have h9 : oc + 1 ≤ oc1 := h9
        have h20 : oc1 ≤ 20 := h4.2
        show segOk (oSet O1 oc 2 (nI oc1)) (oc1 - oc) g oc oc1
        rw [show oc1 - oc = (oc1 - (oc + 1)) + 1 by omega]
        have e2 : oSet O1 oc 2 (nI oc1) (4 * oc + 2) = nI oc1 := oSet_same
        have e0 : oSet O1 oc 2 (nI oc1) (4 * oc + 0) = nI 7 := (hlo (4 * oc + 0) (by omega)).trans (by rw [oSet_ne (by omega), oSet_same])
        have e1 : oSet O1 oc 2 (nI oc1) (4 * oc + 1) = nI (pVl b 2 5 (oHead b L oc dp P)) := (hlo (4 * oc + 1) (by omega)).trans (by rw [oSet_same])
        refine Or.inr ⟨by omega, ⟨7, _, oc1, 0, by decide, by omega, by omega, by decide, e0, e1, e2, fun e => absurd rfl e, fun e => by omega, fun e => by omega, fun e => by omega, fun _ => hin, fun e => by omega, fun e => by omega⟩, Or.inr ⟨e0, oc1, e2, by omega, Nat.le_refl _, hg (h3 c7), ?_, ?_⟩⟩
        · exact seg_mono _ _ (g - 1) (oc + 1) oc1 (Nat.le_refl _) (fun q hq1 hq2 => oSet_ne (by omega)) h8
        · cases oc1 - (oc + 1) with
          | zero => exact rfl
          | succ _ => exact Or.inl rfl
    · rw [show oOne b L rp dp (P, O, oc) = oPlain b L ((oHere b P).getD 0) (oHead b L oc dp P, O, oc) from (if_neg (Decidable.not_not.mpr c)).trans (if_neg c7)]
      rw [hk]
      have hk7 : k < 7 := by
        have : k ≠ 7 := fun e => c7 (by rw [hk, e])
        omega
      refine ⟨fun q hq => ?_, fun e => ?_⟩
      · have hq : q < 4 * oc := hq
        show oSet (oSet (oSet (oSet O oc 0 _) oc 1 _) oc 2 _) oc 3 _ q = O q
        rw [oSet_ne (by omega), oSet_ne (by omega), oSet_ne (by omega), oSet_ne (by omega)]
      · show segOk (oPlain b L k (oHead b L oc dp P, O, oc)).2.1 (oc + 1 - oc) g oc (oc + 1)
        rw [show oc + 1 - oc = 0 + 1 by omega]
        refine Or.inr ⟨by omega, vOrd_plain hk7, Or.inl ⟨?_, rfl⟩⟩
        show ¬ oSet (oSet (oSet (oSet O oc 0 _) oc 1 _) oc 2 _) oc 3 _ (4 * oc + 0) = 7
        rw [oSet_ne (by omega), oSet_ne (by omega), oSet_ne (by omega), oSet_same]
        intro e9
        have := (nI_eq (b := 7) (by omega) (by decide)).mp e9
        omega
  · rw [show oOne b L rp dp (P, O, oc) = (oHead b L oc dp P, O, oc) from if_pos c]
    exact ⟨fun _ _ => rfl, fun e => absurd e c⟩
theorem oLoop_seg {b : Nat → Int32} {L g : Nat} {f : Zt → Zt} (hf : ∀ Z, oInv b L Z → oStep b L Z (f Z) ∧ oSeg g Z (f Z)) : ∀ (n : Nat) (Z : Zt), oInv b L Z → oInv b L (oLoop f b n Z) ∧ Z.2.2 ≤ (oLoop f b n Z).2.2 ∧ oSeg g Z (oLoop f b n Z)
  | 0, Z, h => ⟨h, Nat.le_refl _, fun _ _ => rfl, fun _ => by
    show segOk Z.2.1 (Z.2.2 - Z.2.2) g Z.2.2 Z.2.2
    rw [Nat.sub_self]
    exact rfl⟩
  | n + 1, Z, h => by
    by_cases c : pR Z.1 = 0 ∧ pSym b Z.1 41 = false
    · rw [show oLoop f b (n + 1) Z = oLoop f b n (f Z) from if_pos c]
      obtain ⟨⟨h1, h2, h3⟩, h4, h5⟩ := hf Z h
      obtain ⟨h6, h7, h8, h9⟩ := oLoop_seg hf n (f Z) h1
      refine ⟨h6, Nat.le_trans h2 h7, fun q hq => (h8 q (by omega)).trans (h4 q hq), fun e => ?_⟩
      by_cases c1 : pR (f Z).1 = 0
      · have h10 := seg_mono _ _ g Z.2.2 (f Z).2.2 (Nat.le_refl _) (fun q _ hq => h8 q hq) (h5 c1)
        have h11 := seg_app _ _ g _ _ _ h10 (h9 e)
        rw [show (f Z).2.2 - Z.2.2 + ((oLoop f b n (f Z)).2.2 - (f Z).2.2) = (oLoop f b n (f Z)).2.2 - Z.2.2 by omega] at h11
        exact h11
      · rw [oLoop_f (fun e1 => c1 e1.1)] at e
        exact absurd e c1
    · rw [oLoop_f c]
      exact ⟨h, Nat.le_refl _, fun _ _ => rfl, fun _ => by rw [Nat.sub_self]; exact rfl⟩
theorem oOrd_seg {b : Nat → Int32} {L : Nat} : ∀ (g : Nat) (Z : Zt), oInv b L Z → oSeg g Z (oOrd b L g Z)
  | 0, _, h => oOne_seg h (fun e => Bool.noConfusion e) (fun e => Bool.noConfusion e)
  | g + 1, _, h => oOne_seg h (fun _ => Nat.succ_le_succ (Nat.zero_le g)) (fun _ Y hY => oLoop_seg (fun Z hZ => ⟨oOrd_ok g Z hZ, oOrd_seg g Z hZ⟩) 21 Y hY)
theorem oTop_seg {b : Nat → Int32} {L g : Nat} {f : Zt → Zt} (hf : ∀ Z, oInv b L Z → oStep b L Z (f Z) ∧ oSeg g Z (f Z)) : ∀ (n : Nat) (Z : Zt), oInv b L Z → oInv b L (oTop f n Z) ∧ Z.2.2 ≤ (oTop f n Z).2.2 ∧ oSeg g Z (oTop f n Z)
  | 0, Z, h => ⟨h, Nat.le_refl _, fun _ _ => rfl, fun _ => by
    show segOk Z.2.1 (Z.2.2 - Z.2.2) g Z.2.2 Z.2.2
    rw [Nat.sub_self]
    exact rfl⟩
  | n + 1, Z, h => by
    by_cases c : pR Z.1 = 0 ∧ ¬ pK Z.1 = 0
    · rw [show oTop f (n + 1) Z = oTop f n (f Z) from if_pos c]
      obtain ⟨⟨h1, h2, h3⟩, h4, h5⟩ := hf Z h
      obtain ⟨h6, h7, h8, h9⟩ := oTop_seg hf n (f Z) h1
      refine ⟨h6, Nat.le_trans h2 h7, fun q hq => (h8 q (by omega)).trans (h4 q hq), fun e => ?_⟩
      by_cases c1 : pR (f Z).1 = 0
      · have h10 := seg_mono _ _ g Z.2.2 (f Z).2.2 (Nat.le_refl _) (fun q _ hq => h8 q hq) (h5 c1)
        have h11 := seg_app _ _ g _ _ _ h10 (h9 e)
        rw [show (f Z).2.2 - Z.2.2 + ((oTop f n (f Z)).2.2 - (f Z).2.2) = (oTop f n (f Z)).2.2 - Z.2.2 by omega] at h11
        exact h11
      · rw [oTop_f (fun e1 => c1 e1.1)] at e
        exact absurd e c1
    · rw [oTop_f c]
      exact ⟨h, Nat.le_refl _, fun _ _ => rfl, fun _ => by rw [Nat.sub_self]; exact rfl⟩
/-- how a script's reading ends -/
noncomputable def rsY (B : Nat → Nat → Int32) (z : Nat → Int32) (L : Nat) : Zt := oTop (oOrd (B 15) L 2) 21 (pBeg (B 15) L (at0 z), B 25, 0)
theorem rsY_ok {B : Nat → Nat → Int32} {z : Nat → Int32} {L : Nat} : oInv (B 15) L (rsY B z L) ∧ (pR (rsY B z L).1 = 0 → segOk (rsY B z L).2.1 20 2 0 (rsY B z L).2.2) := by
  obtain ⟨h1, h2, h3, h4⟩ := oTop_seg (fun Z hZ => ⟨oOrd_ok 2 Z hZ, oOrd_seg 2 Z hZ⟩) 21 (pBeg (B 15) L (at0 z), B 25, 0) ⟨pBeg_ok _ _ _, Nat.zero_le _⟩
  refine ⟨h1, fun e => ?_⟩
  have h5 := h4 e
  exact seg_mono _ 20 2 0 _ (by have := h1.2; show _ - 0 ≤ 20; omega) (fun _ _ _ => rfl) h5
def rsT (n s : Nat) (B : Nat → Nat → Int32) (Z : Zt) : Bool × Rt := xRun n s Z.2.1 20 0 Z.2.2 (B 0, 0)
def rsZ (z : Nat → Int32) (P : Pt) (u : Nat) : Nat → Int32 := if pR P = 0 then upd (zEnd z P) 8 (nI (hCnt u)) else zEnd z P
def rsB (n s : Nat) (B : Nat → Nat → Int32) (Z : Zt) (u : Nat) : Nat → Nat → Int32 := if pR Z.1 = 0 then updA (updA (updA B 25 Z.2.1) 5 (hRec (B 5) u (B 0))) 0 (rsT n s B Z).2.1 else updA B 25 Z.2.1
theorem pubZ_run {z8 z9 zz : Nat → Int32} {w : Int32} (h : pubZ z8 zz) (hz : ∀ q, q ≠ 11 → q ≠ 28 → z9 q = z8 q) : pubZ (upd z9 28 w) zz := fun j hj => by
  have hj2 : j ≠ 11 ∧ j ≠ 28 := by unfold pubJ at hj; omega
  rw [upd_ne hj2.2]
  exact (hz j hj2.1 hj2.2).trans (h j hj)
theorem key_run {A B : Nat → Nat → Int32} (hB : ∀ k, keyP k → A k = B k) {O ρ ρ1 T : Nat → Int32} {u : Nat} : ∀ k, keyP k → updA (updA (updA A 5 (hRec (A 5) u ρ)) 3 ρ1) 25 O k = updA (updA (updA B 25 O) 5 (hRec (B 5) u ρ)) 0 T k := by
  rw [hB 5 (Or.inr (Or.inl rfl)), updA_comm B _ _ (show (25 : Nat) ≠ 5 by decide)]
  exact key0 (keyS (keyU (keyS hB 5 _) (by unfold keyP; omega)) 25 _) _
section ModelScr
variable {G : Gl} {κ : Kx} {d : Nat} {Q : Option Value → Hp → Prop} {X : String → Hp → Prop} {cs ss : Nat} {σ : Hp} {a : Nat} {r : Nat → Nat} {z : Nat → Int32} {A : Nat → Nat → Int32} {rw : Nat} {ρ η : Nat → Int32} {B : Nat → Nat → Int32} {n s : Nat}
theorem rp_runScript (hΓ : Ok G κ mX13_runScript (d + 16) Q X) (h : MP G σ a r z B) (hV : RV (B 0) n s) {u l : Nat} (hu : z 8 = nI u) (hu8 : u ≤ 8) (hl : z 16 = nI l) (hl5 : l ≤ 500) {x : Int32} (hq0 : rIn x 0 (z 16) = false → ∀ σ1 : Hp, MP G σ1 a r (upd z 9 1) B → MF a r σ σ1 → Q (some (.int 0)) σ1) (hq1 : ∀ l0, l0 ≤ l → x = nI l0 → ∀ (σ1 : Hp) (z1 : Nat → Int32), pubZ z1 (rsZ z (rsY B z l0).1 u) → MP G σ1 a r z1 (rsB n s B (rsY B z l0) u) → MF a r σ σ1 → Q (some (.int (if pR (rsY B z l0).1 = 0 then nI (rsT n s B (rsY B z l0)).2.2 else -1))) σ1) : AW G κ cs ss 0 [lR a, lI x, none] [] σ := by
  obtain ⟨A, h, hB⟩ := h
  have h15 : A 15 = B 15 := hB 15 (Or.inr (Or.inr (Or.inr (Or.inl rfl))))
  have h25 : A 25 = B 25 := hB 25 (Or.inr (Or.inr (Or.inr (Or.inr rfl))))
  suffices loop : ∀ l0, l0 ≤ l → x = nI l0 → (∀ (σ1 : Hp) (z1 : Nat → Int32), pubZ z1 (rsZ z (rsY B z l0).1 u) → MP G σ1 a r z1 (rsB n s B (rsY B z l0) u) → MF a r σ σ1 → Q (some (.int (if pR (rsY B z l0).1 = 0 then nI (rsT n s B (rsY B z l0)).2.2 else -1))) σ1) → ∀ σ2 : Hp, oInv (B 15) l0 (pBeg (B 15) l0 (at0 z), B 25, 0) → MV G σ2 a r (zP (upd (upd (upd (upd z 9 0) 27 0) 17 (nI l0)) 24 0) (pBeg (B 15) l0 (at0 (upd (upd z 9 0) 27 0)))) A 0 (B 0) (A 6) → MF a r σ σ2 → AW G κ cs ss 24 [lR a, lI x, none] [] σ2 by
    refine sX13_runScript_0 hΓ rfl ?_
    refine sX13_runScript_1 hΓ rfl ?_
    refine sX13_runScript_2 hΓ rfl ?_
    refine sX13_runScript_3 hΓ 0 0 (Nat.le_of_ble_eq_true rfl) h.o (fun κ_3 hΓ_3 => sp_isLength hΓ_3 h ?_)
    show AW G κ _ _ 6 _ _ _
    refine sX13_runScript_6 hΓ 0 0 (Nat.le_of_ble_eq_true rfl) h.o (fun κ_6 hΓ_6 => sp_lacks hΓ_6 h rfl (fun σ1 h1 f1 => ?_))
    show AW G κ _ _ 9 _ _ _
    refine sX13_runScript_9 hΓ (fun c9 => ?_) (fun c9 => ?_)
    · have c := bN_0 c9
      rw [c] at h1
      change MV G σ1 a r (upd z 9 0) A 0 (B 0) (A 6) at h1
      rw [hl] at c
      obtain ⟨l0, hl0, hx⟩ := rIn_le (n := l) (by omega) c
      have hq := hq1 l0 hl0 hx
      refine sX13_runScript_14 hΓ rfl ?_
      refine sX13_runScript_15 hΓ ?_
      refine sX13_runScript_16 hΓ h1.o  (Nat.le_of_ble_eq_true rfl) (mv_z h1 (upd (upd z 9 0) 27 0) rfl (fun σ2 h2 f2 => ?_))
      refine sX13_runScript_19 hΓ rfl ?_
      refine sX13_runScript_20 hΓ rfl ?_
      refine sX13_runScript_21 hΓ 0 0 (Nat.le_of_ble_eq_true rfl) h2.o (fun κ_21 hΓ_21 => sp_startText hΓ_21 (z := upd (upd z 9 0) 27 0) h2 (b := B 15) h15 hx (by omega) (fun σ3 h3 f3 => ?_))
      show AW G κ _ _ 24 _ _ _
      exact loop l0 hl0 hx hq _ ⟨pBeg_ok _ _ _, Nat.zero_le _⟩ h3 ((f1.tr f2).tr f3)
    · have c := bN_n c9
      rw [c] at h1
      refine sX13_runScript_12 hΓ ?_
      exact sX13_runScript_13 hΓ (hq0 c _ (MP.mk h1 rfl hB) f1)
  intro l0 hl0 hx hq σ2 hI h2 f2
  suffices loop : ∀ (m : Nat) (Z : Zt) (σ3 : Hp), oInv (B 15) l0 Z → (pR Z.1 = 0 → 20 < Z.2.2 + m) → MO G σ3 a r (upd (upd (upd (upd z 9 0) 27 0) 17 (nI l0)) 24 0) A 0 (B 0) (A 6) Z → MF a r σ σ3 → oTop (oOrd (B 15) l0 2) m Z = rsY B z l0 → AW G κ cs ss 24 [lR a, lI x, none] [] σ3 by
    refine loop 21 (pBeg (B 15) l0 (at0 z), B 25, 0) σ2 hI (fun _ => by show 20 < 0 + 21; decide) ?_ f2 rfl
    show MV G σ2 a r (zP (upd (upd (upd (upd (upd z 9 0) 27 0) 17 (nI l0)) 24 0) 27 (nI 0)) (pBeg (B 15) l0 (at0 z))) (updA A 25 (B 25)) 0 (B 0) (A 6)
    rw [upd_id (upd (upd (upd (upd z 9 0) 27 0) 17 (nI l0)) 24 0) 27 (nI 0) rfl, ← h25, updA_id]
    exact h2
  suffices at46 : ∀ σ3 : Hp, MO G σ3 a r (upd (upd (upd (upd z 9 0) 27 0) 17 (nI l0)) 24 0) A 0 (B 0) (A 6) (rsY B z l0) → MF a r σ σ3 → AW G κ cs ss 46 [lR a, lI x, none] [] σ3 by
    intro m
    induction m with
    | zero =>
      intro Z σ3 hZ hm h3 f3 e
      have h0 : ¬ pR Z.1 = 0 := fun c => by have := hm c; have := hZ.2; omega
      have eZ : Z = rsY B z l0 := e
      have h4 := h3
      have h3 : MV G σ3 a r (zP (upd (upd (upd (upd (upd z 9 0) 27 0) 17 (nI l0)) 24 0) 27 (nI Z.2.2)) Z.1) (updA A 25 Z.2.1) 0 (B 0) (A 6) := h3
      refine sX13_runScript_24 hΓ rfl ?_
      refine sX13_runScript_25 hΓ h3.o rfl ?_
      refine sX13_runScript_28 hΓ (fun c28 => ?_) (fun c28 => absurd (nR_0 hZ.1.1 c28) h0)
      exact at46 _ (by rw [← eZ]; exact h4) f3
    | succ m ih =>
      intro Z σ3 hZ hm h3 f3 e
      have h4 := h3
      have h3 : MV G σ3 a r (zP (upd (upd (upd (upd (upd z 9 0) 27 0) 17 (nI l0)) 24 0) 27 (nI Z.2.2)) Z.1) (updA A 25 Z.2.1) 0 (B 0) (A 6) := h3
      refine sX13_runScript_24 hΓ rfl ?_
      refine sX13_runScript_25 hΓ h3.o rfl ?_
      refine sX13_runScript_28 hΓ (fun c28 => ?_) (fun c28 => ?_)
      · have eZ := (oTop_f (fun c => nR_n c28 c.1)).symm.trans e
        exact at46 _ (by rw [← eZ]; exact h4) f3
      · have h0 := nR_0 hZ.1.1 c28
        refine sX13_runScript_31 hΓ rfl ?_
        refine sX13_runScript_32 hΓ h3.o rfl ?_
        refine sX13_runScript_35 hΓ (fun c35 => ?_) (fun c35 => ?_)
        · have eZ := (oTop_f (fun c => c.2 (nK_is (k := 0) hZ.1.k3 (by decide) c35))).symm.trans e
          exact at46 _ (by rw [← eZ]; exact h4) f3
        · have k0 := nK_ne (k := 0) c35
          have e1 : oTop (oOrd (B 15) l0 2) m (oOrd (B 15) l0 2 Z) = rsY B z l0 := (if_pos ⟨h0, k0⟩).symm.trans e
          obtain ⟨t1, t2, t3⟩ := oOrd_ok 2 Z hZ
          have hm1 := hm h0
          refine sX13_runScript_38 hΓ rfl ?_
          refine sX13_runScript_39 hΓ ?_
          refine sX13_runScript_40 hΓ 0 0 (Nat.le_of_ble_eq_true rfl) h3.o (fun κ_40 hΓ_40 => sp_ord (b := B 15) (L := l0) (by omega) 2 (Nat.le_refl 2) _ (d + 5) _ _ _ _ _ (upd (upd (upd (upd z 9 0) 27 0) 17 (nI l0)) 24 0) A 0 (B 0) (A 6) Z _ (show Ok G _ mX13_readOrder (d + 5 + (2 * 2 + 2) + 4) _ _ from hΓ_40) h4 h15 rfl hZ rfl (fun σ9 h9 f9 => ?_))
          show AW G κ _ _ 43 _ _ _
          refine sX13_runScript_43 hΓ ?_
          exact ih _ _ t1 (fun c => by have := t3 c; omega) h9 (f3.tr f9) e1
  intro σ3 h3 f3
  have hI := rsY_ok (B := B) (z := z) (L := l0)
  have h3 : MV G σ3 a r (zP (upd (upd (upd (upd (upd z 9 0) 27 0) 17 (nI l0)) 24 0) 27 (nI (rsY B z l0).2.2)) (rsY B z l0).1) (updA A 25 (rsY B z l0).2.1) 0 (B 0) (A 6) := h3
  refine sX13_runScript_46 hΓ rfl ?_
  refine sX13_runScript_47 hΓ 0 0 (Nat.le_of_ble_eq_true rfl) h3.o (fun κ_47 hΓ_47 => sp_isFaulty hΓ_47 h3 hI.1.1.1 (fun σ41 h41 f41 => ?_))
  show AW G κ _ _ 50 _ _ _
  refine sX13_runScript_50 hΓ (fun c50 => ?_) (fun c50 => ?_)
  · have e : pR (rsY B z l0).1 = 0 := beq_iff_eq.mp (bN_0 c50)
    rw [rsZ, if_pos e, rsB, if_pos e, if_pos e] at hq
    refine sX13_runScript_55 hΓ rfl ?_
    refine sX13_runScript_56 hΓ 0 0 (Nat.le_of_ble_eq_true rfl) h41.o (fun κ_56 hΓ_56 => sp_keep hΓ_56 h41 (fun σ42 h42 f42 => ?_))
    show AW G κ _ _ 59 _ _ _
    refine sX13_runScript_59 hΓ rfl ?_
    refine sX13_runScript_60 hΓ 0 0 (Nat.le_of_ble_eq_true rfl) h42.o (fun κ_60 hΓ_60 => sp_record hΓ_60 h42 (u := u) hu hu8 (fun σ43 h43 f43 => ?_))
    show AW G κ _ _ 63 _ _ _
    refine sX13_runScript_63 hΓ rfl ?_
    refine sX13_runScript_64 hΓ ?_
    refine sX13_runScript_65 hΓ h43.o  (Nat.le_of_ble_eq_true rfl) (mv_z h43 (upd (upd (upd (upd (upd (zP (upd (upd (upd (upd (upd z 9 0) 27 0) 17 (nI l0)) 24 0) 27 (nI (rsY B z l0).2.2)) (rsY B z l0).1) 16 0) 23 (if pR (rsY B z l0).1 = 0 then -1 else nI (pA (rsY B z l0).1))) 10 (nI (pR (rsY B z l0).1))) 8 (nI (hCnt u))) 28 0) rfl (fun σ44 h44 f44 => ?_))
    refine sX13_runScript_68 hΓ rfl ?_
    refine sX13_runScript_69 hΓ ?_
    refine sX13_runScript_70 hΓ rfl ?_
    refine sX13_runScript_71 hΓ h44.o rfl ?_
    refine sX13_runScript_74 hΓ 0 0 (Nat.le_of_ble_eq_true rfl) h44.o (fun κ_74 hΓ_74 => sp_are 2 _ d _ _ _ _ _ (upd (upd (upd (upd (zP (upd (upd (upd (upd (upd z 9 0) 27 0) 17 (nI l0)) 24 0) 27 (nI (rsY B z l0).2.2)) (rsY B z l0).1) 16 0) 23 (if pR (rsY B z l0).1 = 0 then -1 else nI (pA (rsY B z l0).1))) 10 (nI (pR (rsY B z l0).1))) 8 (nI (hCnt u))) _ _ (B 0, 0) 20 0 (rsY B z l0).2.2 _ _ hΓ_74 (by rw [updA_comm (updA A 25 _) _ _ (show (3 : Nat) ≠ 5 by decide), updA_comm A _ _ (show (25 : Nat) ≠ 5 by decide), updA_comm (updA A 5 _) _ _ (show (25 : Nat) ≠ 3 by decide)] at h44; exact h44) hV (hI.2 e) hI.1.2 rfl rfl (fun σ9 z9 η9 hz9 h9 f9 => ?_))
    show AW G κ _ _ 77 _ _ _
    refine sX13_runScript_77 hΓ ?_
    refine sX13_runScript_78 hΓ rfl ?_
    refine sX13_runScript_79 hΓ h9.o rfl ?_
    exact sX13_runScript_82 hΓ (hq _ _ (pubZ_run ((pubZ.end2 rfl rfl).upd 8 _) hz9) (MP.mk h9 (updA_same _ _ _) (key_run (ρ1 := B 0) hB)) (((((f3.tr f41).tr f42).tr f43).tr f44).tr f9))
  · have e : ¬ pR (rsY B z l0).1 = 0 := beq_eq_false_iff_ne.mp (bN_n c50)
    rw [rsZ, if_neg e, rsB, if_neg e, if_neg e] at hq
    refine sX13_runScript_53 hΓ ?_
    exact sX13_runScript_54 hΓ (hq _ _ (pubZ.end2 rfl rfl) (MP.mk h41 rfl (keyS hB 25 _)) (f3.tr f41))
end ModelScr
