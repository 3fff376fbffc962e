/-! ===== hearing on, on both sides (who has won before doesn't matter) ===== -/
def pn_V (s : Nat → Int32) (P J C X S : Nat) : Prop :=
  (2 ≤ P ∧ P ≤ 6) ∧ (1 ≤ J ∧ J ≤ 6) ∧ (1 ≤ C ∧ C ≤ 12) ∧ X ≤ C ∧ S < J ∧ (s 2 = nI P ∧ s 3 = nI J ∧ s 4 = nI C ∧ s 0 = nI X ∧ s 1 = nI S) ∧
  (∀ i, i < P → ∃ k, (1 ≤ k ∧ k ≤ 5) ∧ s (5 + i) = nI k) ∧ (∀ i, i < P → ∃ g, g ≤ 20 ∧ s (11 + i) = nI g) ∧
  (∀ i, i < J → ∃ l, l ≤ 9 ∧ s (23 + i) = nI l) ∧ (∀ i, i < J → s (29 + i) = -4 ∨ ∃ f, f < P ∧ s (29 + i) = nI f) ∧
  (∀ i, i < C → ∃ a b, a < P ∧ b < P ∧ a ≠ b ∧ s (35 + i) = nI a ∧ s (47 + i) = nI b) ∧ (∀ i, i < C → ∃ w, w ≤ 9 ∧ s (59 + i) = nI w)
theorem pn_W.v {s : Nat → Int32} {P J C X S : Nat} (h : pn_W s P J C X S) : pn_V s P J C X S := by
  obtain ⟨h1, h2, h3, h4, h5, h6, h7, h8, h9, h10, h11, h12, -, -⟩ := h
  exact ⟨h1, h2, h3, h4, h5, h6, h7, h8, h9, h10, h11, h12⟩
theorem pn_V_cg {s t : Nat → Int32} {P J C X S : Nat} (h : ∀ i, i < 71 → t i = s i) (hW : pn_V s P J C X S) : pn_V t P J C X S := by
  obtain ⟨⟨p1, p2⟩, ⟨j1, j2⟩, ⟨c1, c2⟩, x2, s2, ⟨eP, eJ, eC, eX, eS⟩, hk, hg, hl, hf, hab, hw⟩ := hW
  refine ⟨⟨p1, p2⟩, ⟨j1, j2⟩, ⟨c1, c2⟩, x2, s2, ⟨by rw [h 2 (by omega)]; exact eP, by rw [h 3 (by omega)]; exact eJ, by rw [h 4 (by omega)]; exact eC, by rw [h 0 (by omega)]; exact eX, by rw [h 1 (by omega)]; exact eS⟩, ?_, ?_, ?_, ?_, ?_, ?_⟩
  · intro i hi; rw [h _ (by omega)]; exact hk i hi
  · intro i hi; rw [h _ (by omega)]; exact hg i hi
  · intro i hi; rw [h _ (by omega)]; exact hl i hi
  · intro i hi; rw [h _ (by omega)]; exact hf i hi
  · intro i hi; rw [h _ (by omega), h _ (by omega)]; exact hab i hi
  · intro i hi; rw [h _ (by omega)]; exact hw i hi
theorem pn_V_next {s : Nat → Int32} {P J C X S Y : Nat} (hW : pn_V s P J C X S) (hY : Y ≤ C) : pn_V (upd s 0 (nI Y)) P J C Y S := by
  obtain ⟨⟨p1, p2⟩, ⟨j1, j2⟩, ⟨c1, c2⟩, x2, s2, ⟨eP, eJ, eC, eX, eS⟩, hk, hg, hl, hf, hab, hw⟩ := hW
  have h : ∀ i, i ≠ 0 → upd s 0 (nI Y) i = s i := fun i hi => pu_un hi
  refine ⟨⟨p1, p2⟩, ⟨j1, j2⟩, ⟨c1, c2⟩, hY, s2, ⟨by rw [h 2 (by omega)]; exact eP, by rw [h 3 (by omega)]; exact eJ, by rw [h 4 (by omega)]; exact eC, pu_us, by rw [h 1 (by omega)]; exact eS⟩, ?_, ?_, ?_, ?_, ?_, ?_⟩
  · intro i hi; rw [h _ (by omega)]; exact hk i hi
  · intro i hi; rw [h _ (by omega)]; exact hg i hi
  · intro i hi; rw [h _ (by omega)]; exact hl i hi
  · intro i hi; rw [h _ (by omega)]; exact hf i hi
  · intro i hi; rw [h _ (by omega), h _ (by omega)]; exact hab i hi
  · intro i hi; rw [h _ (by omega)]; exact hw i hi
theorem pu_settleV {N : Nat} {x : Nat → Int32} {a : Nat → Nat → Int32} {s : Nat → Int32} {P J C X S c w lo : Nat} {p2 : Int32} (hN : 10 < N) (hW : pn_V s P J C X S) (hC : pn_C x a s P J C) (hc : c < C) (hww : w < P) (hlo : lo < P) (hne : w ≠ lo) (hwn : pn_wn s c S (pn_t s c p2) = nI w) (hop : pn_op s c (nI w) = nI lo) :
    f_X1_settle N (x 1) (x 4) (a 0) (a 1) (a 2) (a 3) (a 4) (a 5) (a 6) (a 7) (a 8) (nI c) p2 = some (pn_nm s (nI lo) (s (5 + lo)) S, upd (upd (a 1) w (pn_dn (s (11 + w)))) lo (pn_up (s (11 + lo)) (pn_hu (s (5 + lo)) (s (59 + c)))), upd (a 2) w (s (17 + w) + 1), upd (a 8) c (nI w)) := by
  obtain ⟨⟨p1, p2'⟩, ⟨j1, j2⟩, ⟨c1, c2⟩, x2, s2, ⟨eP, eJ, eC, eX, eS⟩, hk, hg, hl, hf, hab, hw⟩ := hW
  obtain ⟨⟨r0, r1, r2, r3, r4⟩, h0, h1, h2, h3, h4, h5, h6, h7, h8⟩ := hC
  obtain ⟨g1, hg1, eg1⟩ := hg w hww
  obtain ⟨kk, hkk, ekk⟩ := hk lo hlo
  obtain ⟨pa, pb, hpa, hpb, hpn, epa, epb⟩ := hab c hc
  have ew := (pu_win (N := N) (s := s) (j := S) (c := c) (by omega) (by omega) (h3 S s2) (h4 S s2) (h5 c hc) (h6 c hc) (h7 c hc)).2
  have eo : ∀ y, f_X1_opponentOf N (a 5) (a 6) y (nI c) = some (pn_op s c y) := fun y => pu_opp (by omega) (h5 c hc) (h6 c hc)
  have en : f_X1_namedAs N (nI J) (a 3) (a 4) (nI lo) (s (5 + lo)) (nI S) = some (pn_nm s (nI lo) (s (5 + lo)) S) := pu_named1 hN eJ j1 j2 s2 h3 h4
  have eh : f_X1_hurtOf N (a 0) (nI lo) (s (59 + c)) = some (pn_hu (s (5 + lo)) (s (59 + c))) := by
    rw [pu_hurtOf (by omega) ⟨kk, hkk.1, hkk.2, by rw [h0 lo hlo, ekk]⟩, h0 lo hlo]
  have ed : (if s (11 + w) - 1 < 0 then (0 : Int32) else s (11 + w) - 1) = pn_dn (s (11 + w)) := by
    rw [eg1]; exact pu_cdn hg1
  unfold f_X1_settle
  rw [r1, r4, eS, ew, pu_cs, pu_j]
  have key : ∀ y : Int32, y = nI w → (pq_c (f_X1_opponentOf N (a 5) (a 6) y (nI c)) (fun r_2 => pq_gd (nI c) 12 (pq_l (upd (a 8) (nI c : Int32).toNatClampNeg y) (fun winner_0_3 => pq_gd y 6 (pq_gd y 6 (pq_l (upd (a 2) (y : Int32).toNatClampNeg ((a 2 (y : Int32).toNatClampNeg) + (1 : Int32))) (fun wins_0_4 => pq_gd y 6 (pq_gd y 6 (pq_l (upd (a 1) (y : Int32).toNatClampNeg (if ((a 1 (y : Int32).toNatClampNeg) - (1 : Int32)) < 0 then 0 else ((a 1 (y : Int32).toNatClampNeg) - (1 : Int32)))) (fun grievance_0_5 => pq_gd r_2 6 (pq_gd (nI c) 12 (pq_c (f_X1_hurtOf N (a 0) r_2 (a 7 (nI c : Int32).toNatClampNeg)) (fun r_6 => pq_gd r_2 6 (pq_l (upd grievance_0_5 (r_2 : Int32).toNatClampNeg (if 20 < ((grievance_0_5 (r_2 : Int32).toNatClampNeg) + r_6) then 20 else ((grievance_0_5 (r_2 : Int32).toNatClampNeg) + r_6))) (fun grievance_0_7 => pq_gd r_2 6 (pq_c (f_X1_namedAs N (nI J) (a 3) (a 4) r_2 (a 0 (r_2 : Int32).toNatClampNeg) (nI S)) (fun r_8 => some (r_8, grievance_0_7, wins_0_4, winner_0_3))))))))))))))))) : Option (Int32 × (Nat → Int32) × (Nat → Int32) × (Nat → Int32))) = some (pn_nm s (nI lo) (s (5 + lo)) S, upd (upd (a 1) w (pn_dn (s (11 + w)))) lo (pn_up (s (11 + lo)) (pn_hu (s (5 + lo)) (s (59 + c)))), upd (a 2) w (s (17 + w) + 1), upd (a 8) c (nI w)) := by
    intro y hy
    subst hy
    rw [eo, pu_cs, hop]
    simp (disch := omega) only [pu_gd, nI_clamp, pu_l]
    rw [h1 w hww, h2 w hww, h7 c hc, ed, eh, pu_cs, pu_un (show lo ≠ w from fun e => hne e.symm), h1 lo hlo, pu_cup, h0 lo hlo, en, pu_cs]
  unfold pn_wn pn_t at hwn
  by_cases q1 : p2 = 1
  · rw [if_pos q1] at hwn ⊢
    rw [if_pos (Or.inl rfl)] at hwn
    rw [pu_gd (show c < 12 by omega) (by decide), pu_l]
    refine key _ ?_
    rw [nI_clamp (by omega), h6 c hc, ← hwn]
    unfold pn_op
    rw [if_pos rfl]
  · rw [if_neg q1] at hwn ⊢
    by_cases q2 : p2 = 2
    · rw [if_pos q2] at hwn ⊢
      rw [if_pos (Or.inr rfl)] at hwn
      rw [pu_gd (show c < 12 by omega) (by decide), pu_l]
      refine key _ ?_
      rw [nI_clamp (by omega), h5 c hc, ← hwn]
      unfold pn_op
      rw [if_neg (by rw [epa, epb]; exact fun e => hpn ((nI_eq (by omega) (by omega)).mp e).symm)]
    · rw [if_neg q2] at hwn ⊢
      rw [if_neg (by rw [epa, epb]; rintro (e | e) <;> exact pu_ne4 (by omega) e.symm)] at hwn
      exact key _ hwn
theorem pn_C.endedV {x : Nat → Int32} {a : Nat → Nat → Int32} {s : Nat → Int32} {P J C X S c w lo : Nat} (hW : pn_V s P J C X S) (hC : pn_C x a s P J C) (hc : c < C) (hww : w < P) (hlo : lo < P) (hne : w ≠ lo) {x' : Nat → Int32} {a' : Nat → Nat → Int32} (e0 : x' 0 = x 0) (e1 : x' 1 = x 1) (e2 : x' 2 = x 2) (e3 : x' 3 = x 3) (e4 : x' 4 = pn_nm s (nI lo) (s (5 + lo)) S)
    (f0 : a' 0 = a 0) (f1 : a' 1 = upd (upd (a 1) w (pn_dn (s (11 + w)))) lo (pn_up (s (11 + lo)) (pn_hu (s (5 + lo)) (s (59 + c))))) (f2 : a' 2 = upd (a 2) w (s (17 + w) + 1)) (f3 : a' 3 = a 3) (f4 : a' 4 = a 4) (f5 : a' 5 = a 5) (f6 : a' 6 = a 6) (f7 : a' 7 = a 7) (f8 : a' 8 = upd (a 8) c (nI w)) : pn_C x' a' (pn_end s c w lo S) P J C := by
  obtain ⟨⟨p1, p2⟩, ⟨j1, j2⟩, ⟨c1, c2⟩, -, -, -⟩ := hW
  obtain ⟨⟨r0, r1, r2, r3, r4⟩, h0, h1, h2, h3, h4, h5, h6, h7, h8⟩ := hC
  obtain ⟨t1, t2, t3, t4, t5, t6⟩ := pn_end_at (s := s) (c := c) (w := w) (lo := lo) (j := S) (by omega) (by omega) hne (by omega)
  refine ⟨⟨by rw [e0, r0], by rw [e1, r1], by rw [e2, r2], by rw [e3, r3, t6 0 (by omega) (by omega) (by omega) (by omega) (by omega)], by rw [e4, t1]⟩, ?_, ?_, ?_, ?_, ?_, ?_, ?_, ?_, ?_⟩
  · intro i hi
    rw [f0, h0 i hi, t6 (5 + i) (by omega) (by omega) (by omega) (by omega) (by omega)]
  · intro i hi
    rw [f1]
    by_cases q : i = lo
    · subst q
      rw [pu_us, t4]
    · rw [pu_un q]
      by_cases q2 : i = w
      · subst q2
        rw [pu_us, t3]
      · rw [pu_un q2, h1 i hi, t6 (11 + i) (by omega) (by omega) (by omega) (by omega) (by omega)]
  · intro i hi
    rw [f2]
    by_cases q2 : i = w
    · subst q2
      rw [pu_us, t5]
    · rw [pu_un q2, h2 i hi, t6 (17 + i) (by omega) (by omega) (by omega) (by omega) (by omega)]
  · intro i hi
    rw [f3, h3 i hi, t6 (23 + i) (by omega) (by omega) (by omega) (by omega) (by omega)]
  · intro i hi
    rw [f4, h4 i hi, t6 (29 + i) (by omega) (by omega) (by omega) (by omega) (by omega)]
  · intro i hi
    rw [f5, h5 i hi, t6 (35 + i) (by omega) (by omega) (by omega) (by omega) (by omega)]
  · intro i hi
    rw [f6, h6 i hi, t6 (47 + i) (by omega) (by omega) (by omega) (by omega) (by omega)]
  · intro i hi
    rw [f7, h7 i hi, t6 (59 + i) (by omega) (by omega) (by omega) (by omega) (by omega)]
  · intro i hi
    rw [f8]
    by_cases q : i = c
    · subst q
      rw [pu_us, t2]
    · rw [pu_un q, h8 i hi, t6 (71 + i) (by omega) (by omega) (by omega) (by omega) (by omega)]
/-- the row when any case has ended -/
theorem pn_V_end {s : Nat → Int32} {P J C X S c w lo : Nat} (hW : pn_V s P J C X S) (hc : c < C) (hw' : w < P) (hlo' : lo < P) (hne : w ≠ lo) : ∃ S', pn_nm s (nI lo) (s (5 + lo)) S = nI S' ∧ pn_V (pn_end s c w lo S) P J C X S' := by
  obtain ⟨⟨p1, p2⟩, ⟨j1, j2⟩, ⟨c1, c2⟩, x2, s2, ⟨eP, eJ, eC, eX, eS⟩, hk, hg, hl, hf, hab, hw⟩ := hW
  obtain ⟨t1, t2, t3, t4, t5, t6⟩ := pn_end_at (s := s) (c := c) (w := w) (lo := lo) (j := S) (by omega) (by omega) hne (by omega)
  obtain ⟨S', hS', eS'⟩ := pn_nm_lt (s := s) (p := nI lo) (k := s (5 + lo)) (j := S) eJ j1 j2 s2
  refine ⟨S', eS', ⟨p1, p2⟩, ⟨j1, j2⟩, ⟨c1, c2⟩, x2, hS', ⟨by rw [t6 2 (by omega) (by omega) (by omega) (by omega) (by omega)]; exact eP, by rw [t6 3 (by omega) (by omega) (by omega) (by omega) (by omega)]; exact eJ, by rw [t6 4 (by omega) (by omega) (by omega) (by omega) (by omega)]; exact eC, by rw [t6 0 (by omega) (by omega) (by omega) (by omega) (by omega)]; exact eX, by rw [t1, eS']⟩, ?_, ?_, ?_, ?_, ?_, ?_⟩
  · intro i hi; rw [t6 _ (by omega) (by omega) (by omega) (by omega) (by omega)]; exact hk i hi
  · intro i hi
    by_cases q1 : i = w
    · subst q1
      obtain ⟨g, hg, eg⟩ := hg i hi
      rw [t3, eg, pn_dn_le hg]
      exact ⟨g - 1, by omega, rfl⟩
    · by_cases q2 : i = lo
      · subst q2
        obtain ⟨g, hg, eg⟩ := hg i hi
        obtain ⟨k, hk, ek⟩ := hk i hi
        obtain ⟨v, hv, ev⟩ := hw c hc
        obtain ⟨hh, hh1, hh2⟩ := pn_hu_n hk hv
        rw [t4, eg, ek, ev, hh2]
        exact pn_up_le hg hh1
      · rw [t6 _ (by omega) (by omega) (by omega) (by omega) (by omega)]; exact hg i hi
  · intro i hi; rw [t6 _ (by omega) (by omega) (by omega) (by omega) (by omega)]; exact hl i hi
  · intro i hi; rw [t6 _ (by omega) (by omega) (by omega) (by omega) (by omega)]; exact hf i hi
  · intro i hi; rw [t6 (35 + i) (by omega) (by omega) (by omega) (by omega) (by omega), t6 (47 + i) (by omega) (by omega) (by omega) (by omega) (by omega)]; exact hab i hi
  · intro i hi; rw [t6 _ (by omega) (by omega) (by omega) (by omega) (by omega)]; exact hw i hi
/-- the next case heard, t throwing it: the reference's row -/
def pn_h (s : Nat → Int32) (t : Int32) : Nat → Int32 :=
  upd (pn_end s (s 0).toNatClampNeg (pn_wn s (s 0).toNatClampNeg (s 1).toNatClampNeg t).toNatClampNeg (pn_op s (s 0).toNatClampNeg (pn_wn s (s 0).toNatClampNeg (s 1).toNatClampNeg t)).toNatClampNeg (s 1).toNatClampNeg) 0 (nI ((s 0).toNatClampNeg + 1))
theorem pn_V.two {s : Nat → Int32} {P J C X S c : Nat} (hW : pn_V s P J C X S) (hc : c < C) (j : Nat) (t : Int32) : ∃ w lo, w < P ∧ lo < P ∧ w ≠ lo ∧ pn_wn s c j t = nI w ∧ pn_op s c (nI w) = nI lo := by
  obtain ⟨⟨p1, p2⟩, ⟨j1, j2⟩, ⟨c1, c2⟩, x2, s2, ⟨eP, eJ, eC, eX, eS⟩, hk, hg, hl, hf, hab, hw⟩ := hW
  obtain ⟨a, b, ha, hb, hne, ea, eb⟩ := hab c hc
  obtain ⟨w, lo, hwl, ew, elo⟩ := pn_wn_two (s := s) (a := a) (b := b) (c := c) (j := j) (by omega) (by omega) hne ea eb t
  exact ⟨w, lo, by omega, by omega, by omega, ew, elo⟩
/-- the reference hears the next case -/
theorem pu_h8 {N : Nat} {s : Nat → Int32} {P J C X S : Nat} (hN : 10 < N) (hW : pn_V s P J C X S) (hX : X < C) (t : Int32) : ∃ w lo S', w < P ∧ lo < P ∧ w ≠ lo ∧ pn_wn s X S t = nI w ∧ pn_op s X (nI w) = nI lo ∧ pn_nm s (nI lo) (s (5 + lo)) S = nI S' ∧ pn_h s t = upd (pn_end s X w lo S) 0 (nI (X + 1)) ∧ f_X8_hears N s t = some (nI w, pn_h s t) ∧ pn_V (pn_h s t) P J C (X + 1) S' ∧ pn_h s t (71 + X) = nI w ∧ (∀ i, i ≠ 0 → i ≠ 1 → (i < 11 ∨ 23 ≤ i) → i ≠ 71 + X → pn_h s t i = s i) := by
  obtain ⟨w, lo, hw, hlo, hne, ew, elo⟩ := hW.two hX S t
  obtain ⟨S', e1, hV⟩ := pn_V_end (w := w) (lo := lo) hW hX hw hlo hne
  obtain ⟨⟨p1, p2⟩, ⟨j1, j2⟩, ⟨c1, c2⟩, x2, s2, ⟨eP, eJ, eC, eX, eS⟩, -⟩ := id hW
  have eh : pn_h s t = upd (pn_end s X w lo S) 0 (nI (X + 1)) := by
    unfold pn_h
    rw [eX, eS, nI_clamp (by omega), nI_clamp (by omega), ew, elo, nI_clamp (by omega), nI_clamp (by omega)]
  obtain ⟨t1, t2, t3, t4, t5, t6⟩ := pn_end_at (s := s) (c := X) (w := w) (lo := lo) (j := S) (by omega) (by omega) hne (by omega)
  refine ⟨w, lo, S', hw, hlo, hne, ew, elo, e1, eh, ?_, ?_, ?_, ?_⟩
  · rw [eh]
    exact pu_hears hN eJ j1 j2 s2 eS (by omega) eX (by omega) (by omega) hne ew elo
  · rw [eh]
    exact pn_V_next hV (by omega)
  · rw [eh, pu_un (by omega), t2]
  · intro i h0 h1 h2 h3
    rw [eh, pu_un h0, t6 i h1 h3 (by omega) (by omega) (by omega)]
/-- the class hears a case as the reference hears the next -/
theorem pu_hs {N : Nat} {x : Nat → Int32} {a : Nat → Nat → Int32} {s : Nat → Int32} {P J C X S : Nat} {p2 : Int32} (hN : 10 < N) (hW : pn_V s P J C X S) (hC : pn_C x a s P J C) (hX : X < C) :
    ∃ z, f_X1_settle N (x 1) (x 4) (a 0) (a 1) (a 2) (a 3) (a 4) (a 5) (a 6) (a 7) (a 8) (nI X) p2 = some z ∧ (z.1 = pn_h s (pn_t s X p2) 1) ∧
    ∀ (x' : Nat → Int32) (a' : Nat → Nat → Int32), x' 0 = x 0 → x' 1 = x 1 → x' 2 = x 2 → x' 3 = nI (X + 1) → x' 4 = z.1 → a' 0 = a 0 → a' 1 = z.2.1 → a' 2 = z.2.2.1 → a' 3 = a 3 → a' 4 = a 4 → a' 5 = a 5 → a' 6 = a 6 → a' 7 = a 7 → a' 8 = z.2.2.2 → pn_C x' a' (pn_h s (pn_t s X p2)) P J C := by
  obtain ⟨w, lo, S', hw, hlo, hne, ew, elo, e1, eh, -, -, -, -⟩ := pu_h8 hN hW hX (pn_t s X p2)
  have hst := pu_settleV (N := N) (p2 := p2) (c := X) (w := w) (lo := lo) hN hW hC hX hw hlo hne ew elo
  obtain ⟨⟨p1, p2'⟩, ⟨j1, j2⟩, ⟨c1, c2⟩, x2, s2, ⟨eP, eJ, eC, eX, eS⟩, -⟩ := id hW
  obtain ⟨t1, t2, t3, t4, t5, t6⟩ := pn_end_at (s := s) (c := X) (w := w) (lo := lo) (j := S) (by omega) (by omega) hne (by omega)
  refine ⟨_, hst, ?_, ?_⟩
  · rw [eh, pu_un (by omega), t1]
  · intro x' a' y0 y1 y2 y3 y4 b0 b1 b2 b3 b4 b5 b6 b7 b8
    rw [eh]
    have hE := pn_C.endedV (w := w) (lo := lo) (c := X) (x' := fun f => if f = 3 then x 3 else x' f) (a' := a') hW hC hX hw hlo hne y0 y1 y2 rfl y4 b0 b1 b2 b3 b4 b5 b6 b7 b8
    obtain ⟨⟨g0, g1, g2, g3, g4⟩, h0, h1, h2, h3, h4, h5, h6, h7, h8⟩ := hE
    have h : ∀ i, i ≠ 0 → upd (pn_end s X w lo S) 0 (nI (X + 1)) i = pn_end s X w lo S i := fun i hi => pu_un hi
    refine ⟨⟨g0, g1, g2, ?_, ?_⟩, ?_, ?_, ?_, ?_, ?_, ?_, ?_, ?_, ?_⟩
    · rw [pu_us]; exact y3
    · rw [h 1 (by omega)]; exact g4
    · intro i hi; rw [h _ (by omega)]; exact h0 i hi
    · intro i hi; rw [h _ (by omega)]; exact h1 i hi
    · intro i hi; rw [h _ (by omega)]; exact h2 i hi
    · intro i hi; rw [h _ (by omega)]; exact h3 i hi
    · intro i hi; rw [h _ (by omega)]; exact h4 i hi
    · intro i hi; rw [h _ (by omega)]; exact h5 i hi
    · intro i hi; rw [h _ (by omega)]; exact h6 i hi
    · intro i hi; rw [h _ (by omega)]; exact h7 i hi
    · intro i hi; rw [h _ (by omega)]; exact h8 i hi
