/-! ===== pure: the class hears a case ===== -/
/-- the class' circuit (ints x, rows a) against the row s -/
def pn_C (x : Nat → Int32) (a : Nat → Nat → Int32) (s : Nat → Int32) (P J C : Nat) : Prop :=
  (x 0 = nI P ∧ x 1 = nI J ∧ x 2 = nI C ∧ x 3 = s 0 ∧ x 4 = s 1) ∧ (∀ i, i < P → a 0 i = s (5 + i)) ∧ (∀ i, i < P → a 1 i = s (11 + i)) ∧ (∀ i, i < P → a 2 i = s (17 + i)) ∧
  (∀ i, i < J → a 3 i = s (23 + i)) ∧ (∀ i, i < J → a 4 i = s (29 + i)) ∧
  (∀ i, i < C → a 5 i = s (35 + i)) ∧ (∀ i, i < C → a 6 i = s (47 + i)) ∧ (∀ i, i < C → a 7 i = s (59 + i)) ∧ (∀ i, i < C → a 8 i = s (71 + i))
theorem pn_C.of {x : Nat → Int32} {a : Nat → Nat → Int32} {s : Nat → Int32} {P J C X S : Nat} (hw : pn_W s P J C X S) (h : pq_rc x a s) : pn_C x a s P J C := by
  obtain ⟨⟨p1, p2⟩, ⟨j1, j2⟩, ⟨c1, c2⟩, x2, s2, ⟨eP, eJ, eC, eX, eS⟩, -⟩ := hw
  obtain ⟨r0, r1, r2, r3, r4, hp, hj, hc⟩ := h
  have tP : (s 2).toInt = P := by rw [eP]; exact nI_toInt (by omega)
  have tJ : (s 3).toInt = J := by rw [eJ]; exact nI_toInt (by omega)
  have tC : (s 4).toInt = C := by rw [eC]; exact nI_toInt (by omega)
  exact ⟨⟨by rw [r0, eP], by rw [r1, eJ], by rw [r2, eC], r3, r4⟩, fun i hi => (hp i (by omega)).1, fun i hi => (hp i (by omega)).2.1, fun i hi => (hp i (by omega)).2.2, fun i hi => (hj i (by omega)).1, fun i hi => (hj i (by omega)).2, fun i hi => (hc i (by omega)).1, fun i hi => (hc i (by omega)).2.1, fun i hi => (hc i (by omega)).2.2.1, fun i hi => (hc i (by omega)).2.2.2⟩
theorem pn_C.rc {x : Nat → Int32} {a : Nat → Nat → Int32} {s : Nat → Int32} {P J C X S : Nat} (hw : pn_W s P J C X S) (h : pn_C x a s P J C) : pq_rc x a s := by
  obtain ⟨⟨p1, p2⟩, ⟨j1, j2⟩, ⟨c1, c2⟩, x2, s2, ⟨eP, eJ, eC, eX, eS⟩, -⟩ := hw
  obtain ⟨⟨r0, r1, r2, r3, r4⟩, h0, h1, h2, h3, h4, h5, h6, h7, h8⟩ := h
  have tP : (s 2).toInt = P := by rw [eP]; exact nI_toInt (by omega)
  have tJ : (s 3).toInt = J := by rw [eJ]; exact nI_toInt (by omega)
  have tC : (s 4).toInt = C := by rw [eC]; exact nI_toInt (by omega)
  exact ⟨by rw [r0, eP], by rw [r1, eJ], by rw [r2, eC], r3, r4, fun i hi => ⟨h0 i (by omega), h1 i (by omega), h2 i (by omega)⟩, fun i hi => ⟨h3 i (by omega), h4 i (by omega)⟩, fun i hi => ⟨h5 i (by omega), h6 i (by omega), h7 i (by omega), h8 i (by omega)⟩⟩
theorem pu_cdn {g : Nat} (h : g ≤ 20) : (if nI g - 1 < 0 then (0 : Int32) else nI g - 1) = pn_dn (nI g) := by
  rw [pn_dn_le h]
  by_cases h0 : g = 0
  · subst h0; rfl
  · rw [pu_lit 1, pk_sub (by omega), if_neg (nI_pos (by omega))]
theorem pu_cup {g h : Int32} : (if 20 < g + h then (20 : Int32) else g + h) = pn_up g h := by
  unfold pn_up
  by_cases q : g + h ≤ 20
  · rw [if_pos q, if_neg (by rw [pu_lt]; rw [pu_lei] at q; omega)]
  · rw [if_neg q, if_pos (by rw [pu_lt]; rw [pu_lei] at q; omega)]
theorem pu_opp {N : Nat} {a5 a6 : Nat → Int32} {s : Nat → Int32} {c : Nat} {w : Int32} (hc : c < 12) (e5 : a5 c = s (35 + c)) (e6 : a6 c = s (47 + c)) : f_X1_opponentOf N a5 a6 w (nI c) = some (pn_op s c w) := by
  unfold f_X1_opponentOf pn_op
  simp (disch := omega) only [pu_gd, nI_clamp, e5, e6]
  by_cases h : w = s (35 + c)
  · rw [if_pos h, if_pos h.symm]
  · rw [if_neg h, if_neg (fun e => h e.symm)]
/-- the thrower whom the class' number tells -/
def pn_t (s : Nat → Int32) (c : Nat) (p2 : Int32) : Int32 := if p2 = 1 then s (35 + c) else if p2 = 2 then s (47 + c) else -4
theorem pu_settle {N : Nat} {x : Nat → Int32} {a : Nat → Nat → Int32} {s : Nat → Int32} {P J C X S c w lo : Nat} {p2 : Int32} (hN : 10 < N) (hW : pn_W s P J C X S) (hC : pn_C x a s P J C) (hc : c < C) (hww : w < P) (hlo : lo < P) (hne : w ≠ lo) (hwn : pn_wn s c S (pn_t s c p2) = nI w) (hop : pn_op s c (nI w) = nI lo) :
    f_X1_settle N (x 1) (x 4) (a 0) (a 1) (a 2) (a 3) (a 4) (a 5) (a 6) (a 7) (a 8) (nI c) p2 = some (pn_nm s (nI lo) (s (5 + lo)) S, upd (upd (a 1) w (pn_dn (s (11 + w)))) lo (pn_up (s (11 + lo)) (pn_hu (s (5 + lo)) (s (59 + c)))), upd (a 2) w (s (17 + w) + 1), upd (a 8) c (nI w)) := by
  obtain ⟨⟨p1, p2'⟩, ⟨j1, j2⟩, ⟨c1, c2⟩, x2, s2, ⟨eP, eJ, eC, eX, eS⟩, hk, hg, hl, hf, hab, hw, -, -⟩ := hW
  obtain ⟨⟨r0, r1, r2, r3, r4⟩, h0, h1, h2, h3, h4, h5, h6, h7, h8⟩ := hC
  obtain ⟨g1, hg1, eg1⟩ := hg w hww
  obtain ⟨kk, hkk, ekk⟩ := hk lo hlo
  obtain ⟨pa, pb, hpa, hpb, hpn, epa, epb⟩ := hab c hc
  have ew := (pu_win (N := N) (s := s) (j := S) (c := c) (by omega) (by omega) (h3 S s2) (h4 S s2) (h5 c hc) (h6 c hc) (h7 c hc)).2
  have eo : ∀ y, f_X1_opponentOf N (a 5) (a 6) y (nI c) = some (pn_op s c y) := fun y => pu_opp (by omega) (h5 c hc) (h6 c hc)
  have en : f_X1_namedAs N (nI J) (a 3) (a 4) (nI lo) (s (5 + lo)) (nI S) = some (pn_nm s (nI lo) (s (5 + lo)) S) := pu_named1 hN eJ j1 j2 s2 h3 h4
  have eh : f_X1_hurtOf N (a 0) (nI lo) (s (59 + c)) = some (pn_hu (s (5 + lo)) (s (59 + c))) := by
    rw [pu_hurtOf (by omega) ⟨kk, hkk.1, hkk.2, by rw [h0 lo hlo, ekk]⟩, h0 lo hlo]
  have ed : (if s (11 + w) - 1 < 0 then (0 : Int32) else s (11 + w) - 1) = pn_dn (s (11 + w)) := by
    rw [eg1]; exact pu_cdn hg1
  unfold f_X1_settle
  rw [r1, r4, eS, ew, pu_cs, pu_j]
  have key : ∀ y : Int32, y = nI w → (pq_c (f_X1_opponentOf N (a 5) (a 6) y (nI c)) (fun r_2 => pq_gd (nI c) 12 (pq_l (upd (a 8) (nI c : Int32).toNatClampNeg y) (fun winner_0_3 => pq_gd y 6 (pq_gd y 6 (pq_l (upd (a 2) (y : Int32).toNatClampNeg ((a 2 (y : Int32).toNatClampNeg) + (1 : Int32))) (fun wins_0_4 => pq_gd y 6 (pq_gd y 6 (pq_l (upd (a 1) (y : Int32).toNatClampNeg (if ((a 1 (y : Int32).toNatClampNeg) - (1 : Int32)) < 0 then 0 else ((a 1 (y : Int32).toNatClampNeg) - (1 : Int32)))) (fun grievance_0_5 => pq_gd r_2 6 (pq_gd (nI c) 12 (pq_c (f_X1_hurtOf N (a 0) r_2 (a 7 (nI c : Int32).toNatClampNeg)) (fun r_6 => pq_gd r_2 6 (pq_l (upd grievance_0_5 (r_2 : Int32).toNatClampNeg (if 20 < ((grievance_0_5 (r_2 : Int32).toNatClampNeg) + r_6) then 20 else ((grievance_0_5 (r_2 : Int32).toNatClampNeg) + r_6))) (fun grievance_0_7 => pq_gd r_2 6 (pq_c (f_X1_namedAs N (nI J) (a 3) (a 4) r_2 (a 0 (r_2 : Int32).toNatClampNeg) (nI S)) (fun r_8 => some (r_8, grievance_0_7, wins_0_4, winner_0_3))))))))))))))))) : Option (Int32 × (Nat → Int32) × (Nat → Int32) × (Nat → Int32))) = some (pn_nm s (nI lo) (s (5 + lo)) S, upd (upd (a 1) w (pn_dn (s (11 + w)))) lo (pn_up (s (11 + lo)) (pn_hu (s (5 + lo)) (s (59 + c)))), upd (a 2) w (s (17 + w) + 1), upd (a 8) c (nI w)) := by
    intro y hy
    subst hy
    rw [eo, pu_cs, hop]
    simp (disch := omega) only [pu_gd, nI_clamp, pu_l]
    rw [h1 w hww, h2 w hww, h7 c hc, ed, eh, pu_cs, pu_un (show lo ≠ w from fun e => hne e.symm), h1 lo hlo, pu_cup, h0 lo hlo, en, pu_cs]
  unfold pn_wn pn_t at hwn
  by_cases q1 : p2 = 1
  · rw [if_pos q1] at hwn ⊢
    rw [if_pos (Or.inl rfl)] at hwn
    rw [pu_gd (show c < 12 by omega) (by decide), pu_l]
    refine key _ ?_
    rw [nI_clamp (by omega), h6 c hc, ← hwn]
    unfold pn_op
    rw [if_pos rfl]
  · rw [if_neg q1] at hwn ⊢
    by_cases q2 : p2 = 2
    · rw [if_pos q2] at hwn ⊢
      rw [if_pos (Or.inr rfl)] at hwn
      rw [pu_gd (show c < 12 by omega) (by decide), pu_l]
      refine key _ ?_
      rw [nI_clamp (by omega), h5 c hc, ← hwn]
      unfold pn_op
      rw [if_neg (by rw [epa, epb]; exact fun e => hpn ((nI_eq (by omega) (by omega)).mp e).symm)]
    · rw [if_neg q2] at hwn ⊢
      rw [if_neg (by rw [epa, epb]; rintro (e | e) <;> exact pu_ne4 (by omega) e.symm)] at hwn
      exact key _ hwn
/-- both sides hold the same when the case has ended -/
theorem pn_C.ended {x : Nat → Int32} {a : Nat → Nat → Int32} {s : Nat → Int32} {P J C X S c w lo : Nat} (hW : pn_W s P J C X S) (hC : pn_C x a s P J C) (hc : c < C) (hww : w < P) (hlo : lo < P) (hne : w ≠ lo) {x' : Nat → Int32} {a' : Nat → Nat → Int32} (e0 : x' 0 = x 0) (e1 : x' 1 = x 1) (e2 : x' 2 = x 2) (e3 : x' 3 = x 3) (e4 : x' 4 = pn_nm s (nI lo) (s (5 + lo)) S)
    (f0 : a' 0 = a 0) (f1 : a' 1 = upd (upd (a 1) w (pn_dn (s (11 + w)))) lo (pn_up (s (11 + lo)) (pn_hu (s (5 + lo)) (s (59 + c))))) (f2 : a' 2 = upd (a 2) w (s (17 + w) + 1)) (f3 : a' 3 = a 3) (f4 : a' 4 = a 4) (f5 : a' 5 = a 5) (f6 : a' 6 = a 6) (f7 : a' 7 = a 7) (f8 : a' 8 = upd (a 8) c (nI w)) : pn_C x' a' (pn_end s c w lo S) P J C := by
  obtain ⟨⟨p1, p2⟩, ⟨j1, j2⟩, ⟨c1, c2⟩, -, -, -⟩ := hW
  obtain ⟨⟨r0, r1, r2, r3, r4⟩, h0, h1, h2, h3, h4, h5, h6, h7, h8⟩ := hC
  obtain ⟨t1, t2, t3, t4, t5, t6⟩ := pn_end_at (s := s) (c := c) (w := w) (lo := lo) (j := S) (by omega) (by omega) hne (by omega)
  refine ⟨⟨by rw [e0, r0], by rw [e1, r1], by rw [e2, r2], by rw [e3, r3, t6 0 (by omega) (by omega) (by omega) (by omega) (by omega)], by rw [e4, t1]⟩, ?_, ?_, ?_, ?_, ?_, ?_, ?_, ?_, ?_⟩
  · intro i hi
    rw [f0, h0 i hi, t6 (5 + i) (by omega) (by omega) (by omega) (by omega) (by omega)]
  · intro i hi
    rw [f1]
    by_cases q : i = lo
    · subst q
      rw [pu_us, t4]
    · rw [pu_un q]
      by_cases q2 : i = w
      · subst q2
        rw [pu_us, t3]
      · rw [pu_un q2, h1 i hi, t6 (11 + i) (by omega) (by omega) (by omega) (by omega) (by omega)]
  · intro i hi
    rw [f2]
    by_cases q2 : i = w
    · subst q2
      rw [pu_us, t5]
    · rw [pu_un q2, h2 i hi, t6 (17 + i) (by omega) (by omega) (by omega) (by omega) (by omega)]
  · intro i hi
    rw [f3, h3 i hi, t6 (23 + i) (by omega) (by omega) (by omega) (by omega) (by omega)]
  · intro i hi
    rw [f4, h4 i hi, t6 (29 + i) (by omega) (by omega) (by omega) (by omega) (by omega)]
  · intro i hi
    rw [f5, h5 i hi, t6 (35 + i) (by omega) (by omega) (by omega) (by omega) (by omega)]
  · intro i hi
    rw [f6, h6 i hi, t6 (47 + i) (by omega) (by omega) (by omega) (by omega) (by omega)]
  · intro i hi
    rw [f7, h7 i hi, t6 (59 + i) (by omega) (by omega) (by omega) (by omega) (by omega)]
  · intro i hi
    rw [f8]
    by_cases q : i = c
    · subst q
      rw [pu_us, t2]
    · rw [pu_un q, h8 i hi, t6 (71 + i) (by omega) (by omega) (by omega) (by omega) (by omega)]
