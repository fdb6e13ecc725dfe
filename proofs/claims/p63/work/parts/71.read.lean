/-! the law's text read: a railway -/
def wTrack : List Nat := [116, 114, 97, 99, 107]
def wTunnel : List Nat := [116, 117, 110, 110, 101, 108]
def wTrain : List Nat := [116, 114, 97, 105, 110]
def tHead (n c : Nat) : List Nat := wTrack ++ ([32] ++ (Dg n ++ ([32] ++ (Dg c ++ [59]))))
def tTun (k : Nat) : List Nat := wTunnel ++ ([32] ++ (Dg k ++ [59]))
def tTrn (ad ac dv k : Nat) : List Nat := wTrain ++ ([32] ++ (Dg ad ++ ([32] ++ (Dg ac ++ ([32] ++ (Dg dv ++ ([32] ++ (Dg k ++ [59]))))))))
def tTuns (f : Nat → Bool) : Nat → List Nat
  | 0 => []
  | k + 1 => tTuns f k ++ if f k = true then tTun k else []
def tTrns (ad ac dv : Nat → Nat) : Nat → List Nat
  | 0 => []
  | k + 1 => tTrns ad ac dv k ++ tTrn (ad k) (ac k) (dv k) k
theorem sp1 : ∀ c, c ∈ ([32] : List Nat) → c = 32 := fun c hc => List.mem_singleton.mp hc
theorem stD (l : List Nat) : stopL isDig (32 :: l) := by show isDig (nI 32) = false; decide
theorem stS (l : List Nat) : stopL isDig (59 :: l) := by show isDig (nI 59) = false; decide
theorem stL (l : List Nat) : stopL isLet (32 :: l) := by show isLet (nI 32) = false; decide
theorem lt_track : Lt wTrack := (by decide : ∀ c, c ∈ wTrack → 97 ≤ c ∧ c ≤ 122)
theorem lt_tunnel : Lt wTunnel := (by decide : ∀ c, c ∈ wTunnel → 97 ≤ c ∧ c ≤ 122)
theorem lt_train : Lt wTrain := (by decide : ∀ c, c ∈ wTrain → 97 ≤ c ∧ c ≤ 122)
/-- the railway's head -/
theorem rd_head {b : Nat → Int32} {L a n c : Nat} {r : List Nat} (h : sfx b L 0 (tHead n c ++ r)) (hn : 4 ≤ n) (hn2 : n ≤ 24) (hc : 1 ≤ c) (hc2 : c ≤ 20) : lS b L (Tk b L a 0) = n ∧ lC b L (Tk b L a 0) = c ∧ lD b L (Tk b L a 0) = Tk b L a (tHead n c).length ∧ sfx b L (tHead n c).length r := by
  have h0 : sfx b L 0 (wTrack ++ ([32] ++ (Dg n ++ ([32] ++ (Dg c ++ (59 :: r)))))) := by
    unfold tHead at h
    simpa only [List.append_assoc, List.cons_append, List.nil_append] using h
  obtain ⟨w1, w2, w3, w4⟩ := rd_word (a := a) (t := 0) h0 rfl lt_track (by decide) (stL _)
  have hw : pWrd b (Tk b L a 0) 0 = true := by
    rw [w1, wEq_t (m := (txB 0).length) (fun j hj => ?_)]
    · rfl
    · rw [h0.in_ j hj]
      exact (by decide : ∀ j : Fin 5, (txB 0).getD j.1 0 = nI (gl wTrack j.1)) ⟨j, hj⟩
  have eA : lA b L (Tk b L a 0) = Tk b L a (0 + wTrack.length) := by unfold lA; rw [pCk_t hw, w2]
  obtain ⟨n1, n2, n3, n4⟩ := rd_num (a := a) (lo := 4) (hi := 24) w3 sp1 (by decide) (by omega) hn hn2 (stD _)
  obtain ⟨m1, m2, m3, m4⟩ := rd_num (a := a) (lo := 1) (hi := 20) n4 sp1 (by decide) (by omega) hc hc2 (stS _)
  obtain ⟨s1, s2⟩ := ex_semi (a := a) m4
  have el : (tHead n c).length = 0 + wTrack.length + [32].length + dgN n + [32].length + dgN c + 1 := by
    unfold tHead
    simp only [List.length_append, Dg_len, List.length_cons, List.length_nil]
    omega
  refine ⟨?_, ?_, ?_, ?_⟩
  · unfold lS; rw [eA, n2]
  · unfold lC lB; rw [eA, n3, m2]
  · unfold lD lB; rw [eA, n3, m3, s1, el]
  · rw [el]; exact s2
/-- which word is next -/
theorem is_tun {b : Nat → Int32} {L a p k : Nat} {r : List Nat} (h : sfx b L p (tTun k ++ r)) : pWrd b (Tk b L a p) 1 = true ∧ pGo b L (Tk b L a p) = Tk b L a (p + 6) ∧ sfx b L (p + 6) ([32] ++ (Dg k ++ (59 :: r))) := by
  have h0 : sfx b L p (wTunnel ++ ([32] ++ (Dg k ++ (59 :: r)))) := by
    unfold tTun at h
    simpa only [List.append_assoc, List.cons_append, List.nil_append] using h
  obtain ⟨w1, w2, w3, w4⟩ := rd_word (a := a) (t := 1) h0 rfl lt_tunnel (by decide) (stL _)
  refine ⟨?_, w2, w3⟩
  rw [w1, wEq_t (m := (txB 1).length) (fun j hj => ?_)]
  · rfl
  · rw [h0.in_ j hj]
    exact (by decide : ∀ j : Fin 6, (txB 1).getD j.1 0 = nI (gl wTunnel j.1)) ⟨j, hj⟩
theorem is_trn {b : Nat → Int32} {L a p ad ac dv k : Nat} {r : List Nat} (h : sfx b L p (tTrn ad ac dv k ++ r)) : pWrd b (Tk b L a p) 3 = true ∧ pWrd b (Tk b L a p) 1 = false ∧ pWrd b (Tk b L a p) 2 = false ∧ pGo b L (Tk b L a p) = Tk b L a (p + 5) ∧ sfx b L (p + 5) ([32] ++ (Dg ad ++ ([32] ++ (Dg ac ++ ([32] ++ (Dg dv ++ ([32] ++ (Dg k ++ (59 :: r))))))))) ∧ pK (Tk b L a p) ≠ 0 := by
  have h0 : sfx b L p (wTrain ++ ([32] ++ (Dg ad ++ ([32] ++ (Dg ac ++ ([32] ++ (Dg dv ++ ([32] ++ (Dg k ++ (59 :: r)))))))))) := by
    unfold tTrn at h
    simpa only [List.append_assoc, List.cons_append, List.nil_append] using h
  obtain ⟨w1, w2, w3, w4⟩ := rd_word (a := a) (t := 3) h0 rfl lt_train (by decide) (stL _)
  obtain ⟨u1, -⟩ := rd_word (a := a) (t := 1) h0 rfl lt_train (by decide) (stL _)
  obtain ⟨v1, -⟩ := rd_word (a := a) (t := 2) h0 rfl lt_train (by decide) (stL _)
  refine ⟨?_, ?_, ?_, w2, w3, ?_⟩
  · rw [w1, wEq_t (m := (txB 3).length) (fun j hj => ?_)]
    · rfl
    · rw [h0.in_ j hj]
      exact (by decide : ∀ j : Fin 5, (txB 3).getD j.1 0 = nI (gl wTrain j.1)) ⟨j, hj⟩
  · rw [u1]; rfl
  · rw [v1, wEq_false (n := 1) ?_ (show 1 ≤ (txB 2).length by decide)]
    · exact Bool.and_false _
    · show (true && ((txB 2).getD 0 0 == b (p + 0))) = false
      rw [h0.in_ 0 (by decide)]
      decide
  · have e := tk_word (a := a) (pre := []) h0 (fun c hc => by cases hc) (by decide) rfl (fun c hc => by obtain ⟨q1, q2⟩ := lt_train c hc; exact let_f ⟨c, by omega⟩ q1 q2) (by decide) (stL _)
    rw [e]
    show (1 : Nat) ≠ 0
    decide
theorem tTun_len (k : Nat) : (tTun k).length = 6 + [32].length + dgN k + 1 := by
  unfold tTun
  simp only [List.length_append, Dg_len, List.length_cons, List.length_nil, wTunnel]
  omega
/-- one tunnel read -/
theorem rd_tun {b : Nat → Int32} {L a p s k : Nat} {r : List Nat} {ρ : Nat → Int32} (h : sfx b L p (tTun k ++ r)) (hk : k < s) (hs : s ≤ 24) : qOne b L s 10 (Tk b L a p, ρ) = (Tk b L a (p + (tTun k).length), upd ρ (10 + k) 1) ∧ sfx b L (p + (tTun k).length) r := by
  obtain ⟨w1, w2, w3⟩ := is_tun (a := a) h
  obtain ⟨n1, n2, n3, n4⟩ := rd_num (a := a) (lo := 0) (hi := s - 1) w3 sp1 (by decide) (by omega) (Nat.zero_le _) (by omega) (stS _)
  obtain ⟨s1, s2⟩ := ex_semi (a := a) n4
  have el : p + (tTun k).length = p + 6 + [32].length + dgN k + 1 := by rw [tTun_len]; omega
  have e1 : qSec b L s (Tk b L a p) = Tk b L a (p + (tTun k).length) := by unfold qSec; rw [w2, n3, s1, el]
  refine ⟨?_, by rw [el]; exact s2⟩
  unfold qOne
  rw [show (Tk b L a p, ρ).1 = Tk b L a p from rfl, e1]
  show (_, if (0 : Nat) = 0 then upd ρ (10 + qSecV b L s (Tk b L a p)) 1 else ρ) = _
  rw [if_pos rfl]
  unfold qSecV
  rw [w2, n2]
/-- the tunnels' flags -/
def tunR (f : Nat → Bool) (k0 : Nat) (ρ : Nat → Int32) : Nat → Nat → Int32
  | 0 => ρ
  | m + 1 => if f (k0 + m) = true then upd (tunR f k0 ρ m) (10 + (k0 + m)) 1 else tunR f k0 ρ m
def tTunF (f : Nat → Bool) (k0 : Nat) : Nat → List Nat
  | 0 => []
  | m + 1 => (if f k0 = true then tTun k0 else []) ++ tTunF f (k0 + 1) m
theorem tTuns_F (f : Nat → Bool) : ∀ m k0, tTuns f k0 ++ tTunF f k0 m = tTuns f (k0 + m)
  | 0, k0 => List.append_nil _
  | m + 1, k0 => by
    show tTuns f k0 ++ ((if f k0 = true then tTun k0 else []) ++ tTunF f (k0 + 1) m) = _
    rw [← List.append_assoc, show tTuns f k0 ++ (if f k0 = true then tTun k0 else []) = tTuns f (k0 + 1) from rfl, tTuns_F f m (k0 + 1), show k0 + 1 + m = k0 + (m + 1) by omega]
theorem tunR_s (f : Nat → Bool) : ∀ m k0 ρ, tunR f (k0 + 1) (if f k0 = true then upd ρ (10 + k0) 1 else ρ) m = tunR f k0 ρ (m + 1)
  | 0, k0, ρ => rfl
  | m + 1, k0, ρ => by
    show (if f (k0 + 1 + m) = true then upd (tunR f (k0 + 1) _ m) (10 + (k0 + 1 + m)) 1 else tunR f (k0 + 1) _ m) = (if f (k0 + (m + 1)) = true then upd (tunR f k0 ρ (m + 1)) (10 + (k0 + (m + 1))) 1 else tunR f k0 ρ (m + 1))
    rw [tunR_s f m k0 ρ, show k0 + 1 + m = k0 + (m + 1) by omega]
/-- all tunnels read, on to the first train -/
theorem rd_tuns {b : Nat → Int32} {L a s ad ac dv t : Nat} {r : List Nat} {f : Nat → Bool} (hs : s ≤ 24) : ∀ m k0 p ρ g, k0 + m ≤ s → m < g → sfx b L p (tTunF f k0 m ++ (tTrn ad ac dv t ++ r)) → qSecs b L s g (Tk b L a p, ρ) = (Tk b L a (p + (tTunF f k0 m).length), tunR f k0 ρ m) ∧ sfx b L (p + (tTunF f k0 m).length) (tTrn ad ac dv t ++ r)
  | 0, k0, p, ρ, g, hk, hg, h => by
    obtain ⟨g, rfl⟩ : ∃ q, g = q + 1 := ⟨g - 1, by omega⟩
    obtain ⟨-, w1, w2, -⟩ := is_trn (a := a) h
    refine ⟨?_, h⟩
    show (if (pWrd b (Tk b L a p) 1 || pWrd b (Tk b L a p) 2) = true then _ else (Tk b L a p, ρ)) = _
    rw [w1, w2]
    rfl
  | m + 1, k0, p, ρ, g, hk, hg, h => by
    by_cases c : f k0 = true
    · have h1 : sfx b L p (tTun k0 ++ (tTunF f (k0 + 1) m ++ (tTrn ad ac dv t ++ r))) := by
        have h2 : sfx b L p ((if f k0 = true then tTun k0 else []) ++ tTunF f (k0 + 1) m ++ (tTrn ad ac dv t ++ r)) := h
        rw [if_pos c, List.append_assoc] at h2
        exact h2
      obtain ⟨o1, o2⟩ := rd_tun (a := a) (ρ := ρ) h1 (show k0 < s by omega) hs
      obtain ⟨g, rfl⟩ : ∃ q, g = q + 1 := ⟨g - 1, by omega⟩
      obtain ⟨i1, i2⟩ := rd_tuns hs m (k0 + 1) (p + (tTun k0).length) (upd ρ (10 + k0) 1) g (by omega) (by omega) o2
      have el : p + (tTunF f k0 (m + 1)).length = p + (tTun k0).length + (tTunF f (k0 + 1) m).length := by
        show p + ((if f k0 = true then tTun k0 else []) ++ tTunF f (k0 + 1) m).length = _
        rw [if_pos c, List.length_append]
        omega
      obtain ⟨w1, -⟩ := is_tun (a := a) h1
      refine ⟨?_, by rw [el]; exact i2⟩
      show (if (pWrd b (Tk b L a p) 1 || pWrd b (Tk b L a p) 2) = true then qSecs b L s g (qOne b L s (if pWrd b (Tk b L a p) 1 = true then 10 else 34) (Tk b L a p, ρ)) else _) = _
      rw [w1, if_pos (Bool.true_or _), if_pos rfl, o1, i1, el, ← tunR_s, if_pos c]
    · have h1 : sfx b L p (tTunF f (k0 + 1) m ++ (tTrn ad ac dv t ++ r)) := by
        have h2 : sfx b L p ((if f k0 = true then tTun k0 else []) ++ tTunF f (k0 + 1) m ++ (tTrn ad ac dv t ++ r)) := h
        rw [if_neg c, List.nil_append] at h2
        exact h2
      obtain ⟨i1, i2⟩ := rd_tuns hs m (k0 + 1) p ρ g (by omega) (by omega) h1
      have el : (tTunF f k0 (m + 1)).length = (tTunF f (k0 + 1) m).length := by
        show ((if f k0 = true then tTun k0 else []) ++ tTunF f (k0 + 1) m).length = _
        rw [if_neg c, List.nil_append]
      rw [el]
      refine ⟨?_, i2⟩
      rw [i1, ← tunR_s, if_neg c]
theorem tTrn_len (ad ac dv k : Nat) : (tTrn ad ac dv k).length = 5 + [32].length + dgN ad + [32].length + dgN ac + [32].length + dgN dv + [32].length + dgN k + 1 := by
  unfold tTrn
  simp only [List.length_append, Dg_len, List.length_cons, List.length_nil, wTrain]
  omega
/-- one train read -/
theorem rd_trn {b : Nat → Int32} {L a p s n ad ac dv k : Nat} {r : List Nat} {ρ : Nat → Int32} (h : sfx b L p (tTrn ad ac dv k ++ r)) (h1 : 1 ≤ ad) (h2 : ad ≤ 127) (h3 : 1 ≤ ac) (h4 : ac ≤ 5) (h5 : 1 ≤ dv) (h6 : dv ≤ 9) (hk : k < s) (hs : s ≤ 24) (hn : n < 6) (hA : rFirst ρ n 0 (nI ad) = none) (hS : rFirst ρ n 3 (nI k) = none) : qTr b L s (Tk b L a p, ρ, n) = (Tk b L a (p + (tTrn ad ac dv k).length), rNewT ρ n (nI ad) (nI ac) (nI dv) (nI k), n + 1) ∧ sfx b L (p + (tTrn ad ac dv k).length) r := by
  obtain ⟨w1, -, -, w2, w3, -⟩ := is_trn (a := a) h
  obtain ⟨a1, a2, a3, a4⟩ := rd_num (a := a) (lo := 1) (hi := 127) w3 sp1 (by decide) (by omega) h1 h2 (stD _)
  obtain ⟨b1, b2, b3, b4⟩ := rd_num (a := a) (lo := 1) (hi := 5) a4 sp1 (by decide) (by omega) h3 h4 (stD _)
  obtain ⟨c1, c2, c3, c4⟩ := rd_num (a := a) (lo := 1) (hi := 9) b4 sp1 (by decide) (by omega) h5 h6 (stD _)
  obtain ⟨d1, d2, d3, d4⟩ := rd_num (a := a) (lo := 0) (hi := s - 1) c4 sp1 (by decide) (by omega) (Nat.zero_le _) (by omega) (stS _)
  obtain ⟨s1, s2⟩ := ex_semi (a := a) d4
  have r0 : ∀ q, pR (Tk b L a q) = 0 := fun _ => rfl
  have eA : qA b L n (Tk b L a p) = Tk b L a (p + 5) := by
    unfold qA
    rw [pCk_t (x := 1) w1, pCk_t (x := 4) (by rw [r0, decide_eq_true hn]; rfl), w2]
  have eAv : qAv b L n (Tk b L a p) = ad := by unfold qAv; rw [eA, a2]
  have eB : qB b L n ρ (Tk b L a p) = Tk b L a (p + 5 + [32].length + dgN ad) := by
    unfold qB
    rw [eA, eAv, hA, pCk_t (x := 3) (by rw [a1, r0]; rfl)]
    exact a3
  have eC : qC b L n ρ (Tk b L a p) = Tk b L a (p + 5 + [32].length + dgN ad + [32].length + dgN ac) := by unfold qC; rw [eB, b3]
  have eD : qD b L n ρ (Tk b L a p) = Tk b L a (p + 5 + [32].length + dgN ad + [32].length + dgN ac + [32].length + dgN dv) := by unfold qD; rw [eC, c3]
  have eEv : qEv b L n s ρ (Tk b L a p) = k := by unfold qEv; rw [eD, d2]
  have eE : qE b L n s ρ (Tk b L a p) = Tk b L a (p + 5 + [32].length + dgN ad + [32].length + dgN ac + [32].length + dgN dv + [32].length + dgN k) := by
    unfold qE
    rw [eD, eEv, hS, pCk_t (x := 3) (by rw [d1, r0]; rfl)]
    exact d3
  have el : p + (tTrn ad ac dv k).length = p + 5 + [32].length + dgN ad + [32].length + dgN ac + [32].length + dgN dv + [32].length + dgN k + 1 := by rw [tTrn_len]; omega
  have eF : qF b L n s ρ (Tk b L a p) = Tk b L a (p + (tTrn ad ac dv k).length) := by unfold qF; rw [eE, s1, el]
  refine ⟨?_, by rw [el]; exact s2⟩
  unfold qTr
  show (qF b L n s ρ (Tk b L a p), qRow b L n s ρ (Tk b L a p), if pR (qF b L n s ρ (Tk b L a p)) = 0 then n + 1 else n) = _
  unfold qRow
  rw [eF, if_pos (r0 _), if_pos (r0 _), eAv, eB, b2, eC, c2, eEv]
/-- trains one behind another, the row that they give -/
def trnR (ad ac dv : Nat → Nat) (ρ : Nat → Int32) : Nat → Nat → Int32
  | 0 => ρ
  | m + 1 => rNewT (trnR ad ac dv ρ m) m (nI (ad m)) (nI (ac m)) (nI (dv m)) (nI m)
def tTrnF (ad ac dv : Nat → Nat) (k0 : Nat) : Nat → List Nat
  | 0 => []
  | m + 1 => tTrn (ad k0) (ac k0) (dv k0) k0 ++ tTrnF ad ac dv (k0 + 1) m
theorem tTrns_F (ad ac dv : Nat → Nat) : ∀ m k0, tTrns ad ac dv k0 ++ tTrnF ad ac dv k0 m = tTrns ad ac dv (k0 + m)
  | 0, k0 => List.append_nil _
  | m + 1, k0 => by
    show tTrns ad ac dv k0 ++ (tTrn (ad k0) (ac k0) (dv k0) k0 ++ tTrnF ad ac dv (k0 + 1) m) = _
    rw [← List.append_assoc, show tTrns ad ac dv k0 ++ tTrn (ad k0) (ac k0) (dv k0) k0 = tTrns ad ac dv (k0 + 1) from rfl, tTrns_F ad ac dv m (k0 + 1), show k0 + 1 + m = k0 + (m + 1) by omega]
theorem newT_at {ρ : Nat → Int32} {n k w : Nat} {x y v u : Int32} (hw : w < 15) (h : k < n) : tf (rNewT ρ n x y v u) k w = tf ρ k w := by
  unfold rNewT tf
  rw [upd_ne (by omega), upd_ne (by omega), upd_ne (by omega), upd_ne (by omega), upd_ne (by omega)]
theorem newT_me {ρ : Nat → Int32} {n : Nat} {x y v u : Int32} : tf (rNewT ρ n x y v u) n 0 = x ∧ tf (rNewT ρ n x y v u) n 3 = u := by
  unfold rNewT tf
  exact ⟨by rw [upd_ne (by omega), upd_ne (by omega), upd_ne (by omega), upd_same], upd_same _ _ _⟩
theorem trnR_f {ad ac dv : Nat → Nat} {ρ : Nat → Int32} : ∀ m k, k < m → tf (trnR ad ac dv ρ m) k 0 = nI (ad k) ∧ tf (trnR ad ac dv ρ m) k 3 = nI k
  | 0, k, h => absurd h (Nat.not_lt_zero k)
  | m + 1, k, h => by
    by_cases e : k = m
    · subst e; exact newT_me
    · obtain ⟨h1, h2⟩ := trnR_f (ρ := ρ) m k (by omega)
      exact ⟨(newT_at (by decide) (by omega)).trans h1, (newT_at (by decide) (by omega)).trans h2⟩
theorem fst_no {ρ : Nat → Int32} {n w : Nat} {v : Int32} (h : ∀ k, k < n → ¬ tf ρ k w = v) : rFirst ρ n w v = none := fsB_none _ (fun k hk => beq_eq_false_iff_ne.mpr (h k hk))
/-- all trains read, to the text's end -/
theorem rd_trns {b : Nat → Int32} {L a s : Nat} {ad ac dv : Nat → Nat} {ρ : Nat → Int32} (hs : s ≤ 24) (hd : ∀ i j, ad i = ad j → i = j) (h1 : ∀ k, 1 ≤ ad k) (h3 : ∀ k, 1 ≤ ac k ∧ ac k ≤ 5) (h5 : ∀ k, 1 ≤ dv k ∧ dv k ≤ 9) : ∀ m k0 p g, k0 + m ≤ s → k0 + m ≤ 6 → (∀ k, k < k0 + m → ad k ≤ 127) → m < g → sfx b L p (tTrnF ad ac dv k0 m) → qTrs b L s g (Tk b L a p, trnR ad ac dv ρ k0, k0) = (Tk b L a (p + (tTrnF ad ac dv k0 m).length), trnR ad ac dv ρ (k0 + m), k0 + m)
  | 0, k0, p, g, hk, h6, h2, hg, h => by
    obtain ⟨g, rfl⟩ : ∃ q, g = q + 1 := ⟨g - 1, by omega⟩
    show (if pR (Tk b L a p) = 0 ∧ pK (Tk b L a p) ≠ 0 then _ else (Tk b L a p, trnR ad ac dv ρ k0, k0)) = _
    rw [if_neg (fun e => e.2 (tk_end h))]
    rfl
  | m + 1, k0, p, g, hk, h6, h2, hg, h => by
    obtain ⟨g, rfl⟩ : ∃ q, g = q + 1 := ⟨g - 1, by omega⟩
    have hh : sfx b L p (tTrn (ad k0) (ac k0) (dv k0) k0 ++ tTrnF ad ac dv (k0 + 1) m) := h
    obtain ⟨-, -, -, -, -, w⟩ := is_trn (a := a) hh
    obtain ⟨o1, o2⟩ := rd_trn (a := a) (s := s) (n := k0) (ρ := trnR ad ac dv ρ k0) hh (h1 k0) (h2 k0 (by omega)) (h3 k0).1 (h3 k0).2 (h5 k0).1 (h5 k0).2 (by omega) hs (by omega) (fst_no (fun k hk e => by
      have a1 := h2 k (by omega)
      have a2 := h2 k0 (by omega)
      have := hd k k0 ((nI_eq (by omega) (by omega)).mp ((trnR_f k0 k hk).1.symm.trans e))
      omega)) (fst_no (fun k hk e => by
      have := (nI_eq (a := k) (b := k0) (by omega) (by omega)).mp ((trnR_f (ad := ad) (ac := ac) (dv := dv) (ρ := ρ) k0 k hk).2.symm.trans e)
      omega))
    have i1 := rd_trns (b := b) (L := L) (a := a) (ρ := ρ) hs hd h1 h3 h5 m (k0 + 1) (p + (tTrn (ad k0) (ac k0) (dv k0) k0).length) g (by omega) (by omega) (fun k hk => h2 k (by omega)) (by omega) o2
    show (if pR (Tk b L a p) = 0 ∧ pK (Tk b L a p) ≠ 0 then qTrs b L s g (qTr b L s (Tk b L a p, trnR ad ac dv ρ k0, k0)) else _) = _
    rw [if_pos ⟨rfl, w⟩, o1, show rNewT (trnR ad ac dv ρ k0) k0 (nI (ad k0)) (nI (ac k0)) (nI (dv k0)) (nI k0) = trnR ad ac dv ρ (k0 + 1) from rfl, i1, show p + (tTrn (ad k0) (ac k0) (dv k0) k0).length + (tTrnF ad ac dv (k0 + 1) m).length = p + (tTrnF ad ac dv k0 (m + 1)).length by
      show _ = p + (tTrn (ad k0) (ac k0) (dv k0) k0 ++ tTrnF ad ac dv (k0 + 1) m).length
      rw [List.length_append]
      omega, show k0 + 1 + m = k0 + (m + 1) by omega]
/-- the whole text -/
def tAll (n c : Nat) (f : Nat → Bool) (ad ac dv : Nat → Nat) (m : Nat) : List Nat := tHead n c ++ (tTuns f n ++ tTrns ad ac dv m)
theorem rd_all {b : Nat → Int32} {L a n c m : Nat} {f : Nat → Bool} {ad ac dv : Nat → Nat} (h : sfx b L 0 (tAll n c f ad ac dv m)) (hn : 4 ≤ n) (hn2 : n ≤ 24) (hc : 1 ≤ c) (hc2 : c ≤ 20) (hm : 1 ≤ m) (hm6 : m ≤ 6) (hmn : m ≤ n) (hd : ∀ i j, ad i = ad j → i = j) (h1 : ∀ k, 1 ≤ ad k) (h2 : ∀ k, k < m → ad k ≤ 127) (h3 : ∀ k, 1 ≤ ac k ∧ ac k ≤ 5) (h5 : ∀ k, 1 ≤ dv k ∧ dv k ≤ 9) : ∃ q, lF b L (Tk b L a 0) = (Tk b L a q, trnR ad ac dv (tunR f 0 (rBeg (nI n) (nI c)) n) m, m) := by
  obtain ⟨m, rfl⟩ : ∃ q, m = q + 1 := ⟨m - 1, by omega⟩
  have e1 : tTuns f n = tTunF f 0 n := by
    have := tTuns_F f n 0
    rw [Nat.zero_add] at this
    rw [← this]
    rfl
  have e2 : tTrns ad ac dv (m + 1) = tTrn (ad 0) (ac 0) (dv 0) 0 ++ tTrnF ad ac dv 1 m := by
    have := tTrns_F ad ac dv (m + 1) 0
    rw [Nat.zero_add] at this
    rw [← this]
    rfl
  have h0 : sfx b L 0 (tHead n c ++ (tTunF f 0 n ++ (tTrn (ad 0) (ac 0) (dv 0) 0 ++ tTrnF ad ac dv 1 m))) := by
    rw [← e1, ← e2]; exact h
  obtain ⟨p1, p2, p3, p4⟩ := rd_head (a := a) h0 hn hn2 hc hc2
  obtain ⟨s1, s2⟩ := rd_tuns (a := a) (s := n) hn2 n 0 (tHead n c).length (rBeg (nI n) (nI c)) 501 (by omega) (by omega) p4
  obtain ⟨o1, o2⟩ := rd_trn (a := a) (s := n) (n := 0) (ρ := tunR f 0 (rBeg (nI n) (nI c)) n) s2 (h1 0) (h2 0 (by omega)) (h3 0).1 (h3 0).2 (h5 0).1 (h5 0).2 (by omega) hn2 (by decide) rfl rfl
  have t1 := rd_trns (b := b) (L := L) (a := a) (s := n) (ad := ad) (ac := ac) (dv := dv) (ρ := tunR f 0 (rBeg (nI n) (nI c)) n) hn2 hd h1 h3 h5 m 1 _ 7 (by omega) (by omega) (fun k hk => h2 k (by omega)) (by omega) o2
  refine ⟨(tHead n c).length + (tTunF f 0 n).length + (tTrn (ad 0) (ac 0) (dv 0) 0).length + (tTrnF ad ac dv 1 m).length, ?_⟩
  unfold lF lE
  rw [p1, p2, p3, s1]
  show qTrs b L n 7 (qTr b L n (Tk b L a _, tunR f 0 (rBeg (nI n) (nI c)) n, 0)) = _
  rw [o1]
  show qTrs b L n 7 (Tk b L a _, trnR ad ac dv (tunR f 0 (rBeg (nI n) (nI c)) n) 1, 1) = _
  rw [t1, Nat.add_comm 1 m]
