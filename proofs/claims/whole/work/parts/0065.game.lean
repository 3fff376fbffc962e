/-! ===== what is foretold: who wins a case before a judge, and who sits then ===== -/
/-- who sits when the case c was heard before the judge j, w having won -/
def pm_n (s : Nat → Int32) (j c : Nat) (w : Int32) : Nat := (pn_nm s (pn_op s c w) (s (5 + (pn_op s c w).toNatClampNeg)) j).toNatClampNeg
/-- t holds what s holds, but for what hearings change -/
def pm_st (s t : Nat → Int32) : Prop := ∀ i, 2 ≤ i → (i < 11 ∨ (23 ≤ i ∧ i < 71)) → t i = s i
theorem pm_st_wn {s t : Nat → Int32} (h : pm_st s t) {c j : Nat} (hc : c < 12) (hj : j < 6) (th : Int32) : pn_wn t c j th = pn_wn s c j th := by
  unfold pn_wn pn_op pn_f pn_plea
  rw [h (35 + c) (by omega) (by omega), h (47 + c) (by omega) (by omega), h (59 + c) (by omega) (by omega), h (29 + j) (by omega) (by omega), h (23 + j) (by omega) (by omega)]
theorem pm_st_op {s t : Nat → Int32} (h : pm_st s t) {c : Nat} (hc : c < 12) (w : Int32) : pn_op t c w = pn_op s c w := by
  unfold pn_op
  rw [h (35 + c) (by omega) (by omega), h (47 + c) (by omega) (by omega)]
theorem pm_st_nm {s t : Nat → Int32} (h : pm_st s t) (h6 : (t 3).toNatClampNeg ≤ 6) (p k : Int32) (j : Nat) : pn_nm t p k j = pn_nm s p k j :=
  pn_nm_ag ⟨h 3 (by omega) (by omega), fun i hi => h (23 + i) (by omega) (by omega), fun i hi => h (29 + i) (by omega) (by omega)⟩ h6
theorem pm_wn_or (s : Nat → Int32) (c j : Nat) (th : Int32) : pn_wn s c j th = s (35 + c) ∨ pn_wn s c j th = s (47 + c) := by
  unfold pn_wn pn_op pn_f
  split
  · split
    · exact Or.inr rfl
    · exact Or.inl rfl
  · split
    · exact Or.inr rfl
    · exact Or.inl rfl
theorem pm_op_or (s : Nat → Int32) (c : Nat) (w : Int32) : pn_op s c w = s (35 + c) ∨ pn_op s c w = s (47 + c) := by
  unfold pn_op
  split
  · exact Or.inr rfl
  · exact Or.inl rfl
theorem pm_f_or (s : Nat → Int32) (c j : Nat) (l : Int32) : pn_f s j l c = s (35 + c) ∨ pn_f s j l c = s (47 + c) := by
  unfold pn_f
  split
  · exact Or.inr rfl
  · exact Or.inl rfl
/-- whom the loser names, in numbers -/
theorem pm_n_at {s : Nat → Int32} {P J C X S j c : Nat} (hV : pn_V s P J C X S) (hj : j < J) (hc : c < C) (w : Int32) : ∃ lo, lo < P ∧ pn_op s c w = nI lo ∧ pn_nm s (nI lo) (s (5 + lo)) j = nI (pm_n s j c w) ∧ pm_n s j c w < J := by
  obtain ⟨⟨p1, p2⟩, ⟨j1, j2⟩, ⟨c1, c2⟩, x2, s2, ⟨eP, eJ, eC, eX, eS⟩, hk, hg, hl, hf, hab, hw⟩ := hV
  obtain ⟨a, b, ha, hb, hne, ea, eb⟩ := hab c hc
  have : ∃ lo, lo < P ∧ pn_op s c w = nI lo := by
    rcases pm_op_or s c w with h | h
    · exact ⟨a, ha, by rw [h, ea]⟩
    · exact ⟨b, hb, by rw [h, eb]⟩
  obtain ⟨lo, hlo, elo⟩ := this
  obtain ⟨q, hq, eq⟩ := pn_nm_lt (s := s) (p := nI lo) (k := s (5 + lo)) (j := j) eJ j1 j2 hj
  have e : pm_n s j c w = q := by
    unfold pm_n
    rw [elo, nI_clamp (by omega), eq, nI_clamp (by omega)]
  exact ⟨lo, hlo, elo, by rw [e, eq], by rw [e]; exact hq⟩
theorem pm_n_lt {s : Nat → Int32} {P J C X S j c : Nat} (hV : pn_V s P J C X S) (hj : j < J) (hc : c < C) (w : Int32) : pm_n s j c w < J := by
  obtain ⟨lo, -, -, -, h⟩ := pm_n_at hV hj hc w
  exact h
/-- the reference hears the next case, in a row that differs from s by hearings alone -/
theorem pm_hear {N : Nat} {s t : Nat → Int32} {P J C X S : Nat} (hN : 10 < N) (hV : pn_V t P J C X S) (hst : pm_st s t) (hX : X < C) (th : Int32) : f_X8_hears N t th = some (pn_wn s X S th, pn_h t th) ∧ pn_V (pn_h t th) P J C (X + 1) (pm_n s S X (pn_wn s X S th)) ∧ pm_st s (pn_h t th) := by
  obtain ⟨w, lo, S', hw, hlo, hne, ew, elo, e1, eh, ef, hV', -, ho⟩ := pu_h8 hN hV hX th
  obtain ⟨⟨p1, p2⟩, ⟨j1, j2⟩, ⟨c1, c2⟩, x2, s2, ⟨eP, eJ, eC, eX, eS⟩, -⟩ := id hV
  have hS' : S' < J := hV'.2.2.2.2.1
  rw [pm_st_wn hst (by omega) (by omega)] at ew
  rw [pm_st_op hst (by omega)] at elo
  rw [pm_st_nm hst (by rw [eJ, nI_clamp (by omega)]; exact j2), hst (5 + lo) (by omega) (by omega)] at e1
  have en : pm_n s S X (pn_wn s X S th) = S' := by
    unfold pm_n
    rw [ew, elo, nI_clamp (by omega), e1, nI_clamp (by omega)]
  refine ⟨by rw [ew]; exact ef, by rw [en]; exact hV', ?_⟩
  intro i h2 hi
  rw [ho i (by omega) (by omega) (by omega) (by omega)]
  exact hst i h2 hi
/-! the class' side -/
def pm_ow (s : Nat → Int32) (c : Nat) (p : Int32) : Bool := decide (s (35 + c) = p ∨ s (47 + c) = p)
theorem pm_wb {N : Nat} {x : Nat → Int32} {a : Nat → Nat → Int32} {s : Nat → Int32} {P J C X S j c : Nat} (hV : pn_V s P J C X S) (hC : pn_C x a s P J C) (hj : j < J) (hc : c < C) : f_X1_winnerBefore N (a 3) (a 4) (a 5) (a 6) (a 7) (nI j) (nI c) = some (pn_f s j (s (23 + j)) c) := by
  obtain ⟨⟨p1, p2⟩, ⟨j1, j2⟩, ⟨c1, c2⟩, -⟩ := hV
  obtain ⟨-, h0, h1, h2, h3, h4, h5, h6, h7, h8⟩ := hC
  exact (pu_win (N := N) (s := s) (j := j) (c := c) (by omega) (by omega) (h3 j hj) (h4 j hj) (h5 c hc) (h6 c hc) (h7 c hc)).2
theorem pm_opp {N : Nat} {x : Nat → Int32} {a : Nat → Nat → Int32} {s : Nat → Int32} {P J C X S c : Nat} (hV : pn_V s P J C X S) (hC : pn_C x a s P J C) (hc : c < C) (w : Int32) : f_X1_opponentOf N (a 5) (a 6) w (nI c) = some (pn_op s c w) := by
  obtain ⟨⟨p1, p2⟩, ⟨j1, j2⟩, ⟨c1, c2⟩, -⟩ := hV
  obtain ⟨-, h0, h1, h2, h3, h4, h5, h6, h7, h8⟩ := hC
  exact pu_opp (by omega) (h5 c hc) (h6 c hc)
theorem pm_sits {N : Nat} {x : Nat → Int32} {a : Nat → Nat → Int32} {s : Nat → Int32} {P J C X S j c : Nat} (hN : 10 < N) (hV : pn_V s P J C X S) (hC : pn_C x a s P J C) (hj : j < J) (hc : c < C) (w : Int32) : f_X1_sitsAfter N (nI J) (a 0) (a 3) (a 4) (a 5) (a 6) (nI j) (nI c) w = some (nI (pm_n s j c w)) := by
  obtain ⟨lo, hlo, elo, e1, -⟩ := pm_n_at hV hj hc w
  unfold f_X1_sitsAfter
  rw [pm_opp hV hC hc, pu_cs, elo]
  obtain ⟨⟨p1, p2⟩, ⟨j1, j2⟩, ⟨c1, c2⟩, x2, s2, ⟨eP, eJ, eC, eX, eS⟩, -⟩ := hV
  obtain ⟨-, h0, h1, h2, h3, h4, h5, h6, h7, h8⟩ := hC
  rw [pu_gd (by omega) (by omega), nI_clamp (by omega), h0 lo hlo, pu_named1 hN eJ j1 j2 hj h3 h4, pu_cs, e1]
theorem pm_own {N : Nat} {x : Nat → Int32} {a : Nat → Nat → Int32} {s : Nat → Int32} {P J C X S c : Nat} (hV : pn_V s P J C X S) (hC : pn_C x a s P J C) (hc : c < C) (p : Int32) : f_X1_isOwn N (a 5) (a 6) p (nI c) = some (if pm_ow s c p = true then 1 else 0) := by
  obtain ⟨⟨p1, p2⟩, ⟨j1, j2⟩, ⟨c1, c2⟩, -⟩ := hV
  obtain ⟨-, h0, h1, h2, h3, h4, h5, h6, h7, h8⟩ := hC
  unfold f_X1_isOwn pm_ow
  simp (disch := omega) only [pu_gd, nI_clamp, pu_j, pu_b1, pu_b0, h5 c hc, h6 c hc, decide_eq_true_eq]
  by_cases q1 : s (35 + c) = p
  · rw [if_pos q1, if_pos (Or.inl q1)]
  · rw [if_neg q1]
    by_cases q2 : s (47 + c) = p
    · rw [if_pos q2, if_pos (Or.inr q2)]
    · rw [if_neg q2, if_neg (by rintro (h | h); exact q1 h; exact q2 h)]
theorem pm_isOf {N : Nat} {s : Nat → Int32} {c : Nat} (hc : c < 12) (p : Int32) : f_X8_isOf N s p (nI c) = some (if pm_ow s c p = true then 1 else 0) := by
  unfold f_X8_isOf pm_ow
  simp (disch := omega) only [pu_lit 35, pu_lit 47, nI_add, pu_gd, nI_clamp, pu_j, pu_b1, pu_b0, decide_eq_true_eq]
  by_cases q1 : s (35 + c) = p
  · rw [if_pos q1, if_pos (Or.inl q1)]
  · rw [if_neg q1]
    by_cases q2 : s (47 + c) = p
    · rw [if_pos q2, if_pos (Or.inr q2)]
    · rw [if_neg q2, if_neg (by rintro (h | h); exact q1 h; exact q2 h)]
theorem pm_wn_own {s : Nat → Int32} {c j : Nat} {p : Int32} (h : pm_ow s c p = true) : pn_wn s c j p = pn_op s c p := by
  unfold pm_ow at h
  rw [decide_eq_true_eq] at h
  unfold pn_wn
  rw [if_pos (h.elim (fun e => Or.inl e.symm) (fun e => Or.inr e.symm))]
theorem pm_wn_not {s : Nat → Int32} {c j : Nat} {p : Int32} (h : ¬ pm_ow s c p = true) : pn_wn s c j p = pn_f s j (s (23 + j)) c := by
  unfold pm_ow at h
  rw [decide_eq_true_eq] at h
  unfold pn_wn
  rw [if_neg (fun e => h (e.elim (fun e => Or.inl e.symm) (fun e => Or.inr e.symm)))]
theorem pm_ow_none {s : Nat → Int32} {P J C X S c : Nat} (hV : pn_V s P J C X S) (hc : c < C) : ¬ pm_ow s c (-4) = true := by
  obtain ⟨⟨p1, p2⟩, ⟨j1, j2⟩, ⟨c1, c2⟩, x2, s2, ⟨eP, eJ, eC, eX, eS⟩, hk, hg, hl, hf, hab, hw⟩ := hV
  obtain ⟨a, b, ha, hb, hne, ea, eb⟩ := hab c hc
  unfold pm_ow
  rw [decide_eq_true_eq, ea, eb]
  rintro (h | h)
  · exact pu_ne4 (by omega) h
  · exact pu_ne4 (by omega) h
theorem pm_wn_none {s : Nat → Int32} {P J C X S c : Nat} (hV : pn_V s P J C X S) (hc : c < C) (j : Nat) : pn_wn s c j (-4) = pn_f s j (s (23 + j)) c := pm_wn_not (pm_ow_none hV hc)
theorem pm_move {N : Nat} {here th : Nat → Int32} : f_X3_moveOn N here th = some (va_cpy th here 0 0 6) := by
  unfold f_X3_moveOn
  rw [pu_cp6, pu_l]
  rfl
theorem pu_addi {x y : Int32} (h1 : -1000000 ≤ x.toInt) (h2 : x.toInt ≤ 1000000) (h3 : -1000000 ≤ y.toInt) (h4 : y.toInt ≤ 1000000) : (x + y).toInt = x.toInt + y.toInt := by
  rw [Int32.toInt_add, Int.bmod_eq_of_le (by omega) (by omega)]
/-- the reference's copy of the circuit, to try things in -/
theorem pm_try {N : Nat} {s t : Nat → Int32} {P J C X S : Nat} (hN : 2000 < N) (hV : pn_V s P J C X S) : f_X8_begin N s t = some (pn_br s t 0 0 83) ∧ pn_V (pn_br s t 0 0 83) P J C X S ∧ pm_st s (pn_br s t 0 0 83) :=
  ⟨pu_begin8 hN, pn_V_cg (fun i hi => pn_br_83 i (by omega)) hV, fun i _ hi => pn_br_83 i (by omega)⟩
