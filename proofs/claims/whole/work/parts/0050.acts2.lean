/-! ===== swap, hear, undo ===== -/
/-- a and b in each other's place -/
def pn_tr (a b i : Nat) : Nat := if i = a then b else if i = b then a else i
theorem pn_tr_lt {a b i n : Nat} (ha : a < n) (hb : b < n) (hi : i < n) : pn_tr a b i < n := by
  unfold pn_tr
  by_cases h1 : i = a
  · rw [if_pos h1]; exact hb
  · rw [if_neg h1]
    by_cases h2 : i = b
    · rw [if_pos h2]; exact ha
    · rw [if_neg h2]; exact hi
theorem pu_tr {f : Nat → Int32} {o a b : Nat} (i : Nat) : upd (upd f (o + a) (f (o + b))) (o + b) (f (o + a)) (o + i) = f (o + pn_tr a b i) := by
  unfold pn_tr
  by_cases h2 : i = b
  · subst h2
    rw [pu_us]
    by_cases h1 : i = a
    · rw [if_pos h1, h1]
    · rw [if_neg h1, if_pos rfl]
  · rw [pu_un (by omega)]
    by_cases h1 : i = a
    · subst h1
      rw [pu_us, if_pos rfl]
    · rw [pu_un (by omega), if_neg h1, if_neg h2]
theorem pu_tro {f : Nat → Int32} {o a b i : Nat} {u v : Int32} (h1 : i ≠ o + a) (h2 : i ≠ o + b) : upd (upd f (o + a) u) (o + b) v i = f i := by
  rw [pu_un h2, pu_un h1]
def pn_x2 (f : Nat → Int32) (o a b : Nat) : Nat → Int32 := upd (upd f (o + a) (f (o + b))) (o + b) (f (o + a))
theorem pu_change {N : Nat} {f : Nat → Int32} {o a b n : Nat} (ha : o + a < n) (hb : o + b < n) (hn : n < 2 ^ 20) : f_X8_change N n f (nI o) (nI a) (nI b) = some (pn_x2 f o a b) := by
  unfold f_X8_change
  simp (disch := omega) only [nI_add, pu_gd, nI_clamp, pu_l]
  rfl
theorem pu_exch {N : Nat} {f : Nat → Int32} {a b n : Nat} (ha : a < n) (hb : b < n) (hn : n < 2 ^ 20) : f_X1_exchangeIn N n f (nI a) (nI b) = some (upd (upd f a (f b)) b (f a)) := by
  unfold f_X1_exchangeIn
  simp (disch := omega) only [pu_gd, nI_clamp, pu_l]
/-- the row with two cases in each other's place -/
def pn_x3 (s : Nat → Int32) (a b : Nat) : Nat → Int32 := pn_x2 (pn_x2 (pn_x2 s 35 a b) 47 a b) 59 a b
theorem pu_changeCases {N : Nat} {s : Nat → Int32} {a b : Nat} (ha : a < 12) (hb : b < 12) : f_X8_changeCases N s (nI a) (nI b) = some (pn_x3 s a b) := by
  show pq_c (f_X8_change N 83 s (nI 35) (nI a) (nI b)) (fun r_1 => pq_c (f_X8_change N 83 r_1 (nI 47) (nI a) (nI b)) (fun r_2 => pq_c (f_X8_change N 83 r_2 (nI 59) (nI a) (nI b)) (fun r_3 => some (r_3)))) = _
  rw [pu_change (by omega) (by omega) (by omega), pu_cs, pu_change (by omega) (by omega) (by omega), pu_cs, pu_change (by omega) (by omega) (by omega)]
  rfl
theorem pu_exchange {N : Nat} {f g h : Nat → Int32} {a b : Nat} (ha : a < 12) (hb : b < 12) : f_X1_exchange N f g h (nI a) (nI b) = some (upd (upd f a (f b)) b (f a), upd (upd g a (g b)) b (g a), upd (upd h a (h b)) b (h a)) := by
  unfold f_X1_exchange
  rw [pu_exch ha hb (by omega), pu_cs, pu_exch ha hb (by omega), pu_cs, pu_exch ha hb (by omega), pu_cs]
theorem pn_x3_at {s : Nat → Int32} {a b : Nat} (ha : a < 12) (hb : b < 12) : (∀ i, i < 12 → pn_x3 s a b (35 + i) = s (35 + pn_tr a b i) ∧ pn_x3 s a b (47 + i) = s (47 + pn_tr a b i) ∧ pn_x3 s a b (59 + i) = s (59 + pn_tr a b i)) ∧ ∀ i, (i < 35 ∨ 71 ≤ i) → pn_x3 s a b i = s i := by
  refine ⟨fun i hi => ⟨?_, ?_, ?_⟩, fun i hi => ?_⟩
  · unfold pn_x3
    unfold pn_x2
    rw [pu_tro (by omega) (by omega), pu_tro (by omega) (by omega), pu_tr]
  · show pn_x2 (pn_x2 (pn_x2 s 35 a b) 47 a b) 59 a b (47 + i) = _
    have h : ∀ f : Nat → Int32, pn_x2 f 59 a b (47 + i) = f (47 + i) := fun f => pu_tro (by omega) (by omega)
    have ht := pn_tr_lt ha hb hi
    have h2 : ∀ q, q < 12 → pn_x2 s 35 a b (47 + q) = s (47 + q) := fun q hq => pu_tro (by omega) (by omega)
    rw [h]
    show upd (upd (pn_x2 s 35 a b) (47 + a) _) (47 + b) _ (47 + i) = _
    rw [pu_tr, h2 _ ht]
  · have ht := pn_tr_lt ha hb hi
    have h2 : ∀ q, q < 12 → pn_x2 (pn_x2 s 35 a b) 47 a b (59 + q) = s (59 + q) := fun q hq => by
      show upd (upd (pn_x2 s 35 a b) (47 + a) _) (47 + b) _ (59 + q) = _
      rw [pu_tro (by omega) (by omega)]
      exact pu_tro (by omega) (by omega)
    show upd (upd (pn_x2 (pn_x2 s 35 a b) 47 a b) (59 + a) _) (59 + b) _ (59 + i) = _
    rw [pu_tr, h2 _ ht]
  · show upd (upd (pn_x2 (pn_x2 s 35 a b) 47 a b) (59 + a) _) (59 + b) _ i = _
    rw [pu_tro (by omega) (by omega)]
    show upd (upd (pn_x2 s 35 a b) (47 + a) _) (47 + b) _ i = _
    rw [pu_tro (by omega) (by omega)]
    exact pu_tro (by omega) (by omega)
theorem pn_W_swap {s : Nat → Int32} {P J C X S a b : Nat} (hW : pn_W s P J C X S) (ha : a < C) (hb : b < C) (xa : X ≤ a) (xb : X ≤ b) : pn_W (pn_x3 s a b) P J C X S := by
  obtain ⟨⟨p1, p2⟩, ⟨j1, j2⟩, ⟨c1, c2⟩, x2, s2, ⟨eP, eJ, eC, eX, eS⟩, hk, hg, hl, hf, hab, hw, hx1, hx2⟩ := hW
  obtain ⟨t, h⟩ := pn_x3_at (s := s) (a := a) (b := b) (by omega) (by omega)
  refine ⟨⟨p1, p2⟩, ⟨j1, j2⟩, ⟨c1, c2⟩, x2, s2, ⟨by rw [h 2 (by omega)]; exact eP, by rw [h 3 (by omega)]; exact eJ, by rw [h 4 (by omega)]; exact eC, by rw [h 0 (by omega)]; exact eX, by rw [h 1 (by omega)]; exact eS⟩, ?_, ?_, ?_, ?_, ?_, ?_, ?_, ?_⟩
  · intro i hi; rw [h _ (by omega)]; exact hk i hi
  · intro i hi; rw [h _ (by omega)]; exact hg i hi
  · intro i hi; rw [h _ (by omega)]; exact hl i hi
  · intro i hi; rw [h _ (by omega)]; exact hf i hi
  · intro i hi; rw [(t i (by omega)).1, (t i (by omega)).2.1]; exact hab _ (pn_tr_lt ha hb hi)
  · intro i hi; rw [(t i (by omega)).2.2]; exact hw _ (pn_tr_lt ha hb hi)
  · intro i hi
    have e : pn_tr a b i = i := by unfold pn_tr; rw [if_neg (by omega), if_neg (by omega)]
    rw [(t i (by omega)).1, (t i (by omega)).2.1, e, h _ (by omega)]; exact hx1 i hi
  · intro i hi hi2; rw [h _ (by omega)]; exact hx2 i hi hi2
/-- the class' rows with two cases in each other's place -/
theorem pn_C.swapped {x : Nat → Int32} {a : Nat → Nat → Int32} {s : Nat → Int32} {P J C X S u v : Nat} (hW : pn_W s P J C X S) (hC : pn_C x a s P J C) (hu : u < C) (hv : v < C) {x' : Nat → Int32} {a' : Nat → Nat → Int32} {t : Nat → Int32} (ht : ∀ i, i < 83 → t i = pn_x3 s u v i) (ex : ∀ k, k < 5 → x' k = x k) (f0 : ∀ k, (k < 5 ∨ k = 8) → a' k = a k) (f5 : a' 5 = upd (upd (a 5) u (a 5 v)) v (a 5 u)) (f6 : a' 6 = upd (upd (a 6) u (a 6 v)) v (a 6 u)) (f7 : a' 7 = upd (upd (a 7) u (a 7 v)) v (a 7 u)) : pn_C x' a' t P J C := by
  obtain ⟨⟨p1, p2⟩, ⟨j1, j2⟩, ⟨c1, c2⟩, -, -, -⟩ := hW
  obtain ⟨⟨r0, r1, r2, r3, r4⟩, h0, h1, h2, h3, h4, h5, h6, h7, h8⟩ := hC
  obtain ⟨w, h⟩ := pn_x3_at (s := s) (a := u) (b := v) (by omega) (by omega)
  have g : ∀ (f : Nat → Int32) (i : Nat), upd (upd f u (f v)) v (f u) i = f (pn_tr u v i) := by
    intro f i
    have := pu_tr (f := f) (o := 0) (a := u) (b := v) i
    simp only [Nat.zero_add] at this
    exact this
  refine ⟨⟨by rw [ex 0 (by omega), r0], by rw [ex 1 (by omega), r1], by rw [ex 2 (by omega), r2], by rw [ex 3 (by omega), r3, ht _ (by omega), h _ (by omega)], by rw [ex 4 (by omega), r4, ht _ (by omega), h _ (by omega)]⟩, ?_, ?_, ?_, ?_, ?_, ?_, ?_, ?_, ?_⟩
  · intro i hi; rw [f0 0 (by omega), ht _ (by omega), h _ (by omega)]; exact h0 i hi
  · intro i hi; rw [f0 1 (by omega), ht _ (by omega), h _ (by omega)]; exact h1 i hi
  · intro i hi; rw [f0 2 (by omega), ht _ (by omega), h _ (by omega)]; exact h2 i hi
  · intro i hi; rw [f0 3 (by omega), ht _ (by omega), h _ (by omega)]; exact h3 i hi
  · intro i hi; rw [f0 4 (by omega), ht _ (by omega), h _ (by omega)]; exact h4 i hi
  · intro i hi; rw [f5, g, ht _ (by omega), (w i (by omega)).1]; exact h5 _ (pn_tr_lt hu hv hi)
  · intro i hi; rw [f6, g, ht _ (by omega), (w i (by omega)).2.1]; exact h6 _ (pn_tr_lt hu hv hi)
  · intro i hi; rw [f7, g, ht _ (by omega), (w i (by omega)).2.2]; exact h7 _ (pn_tr_lt hu hv hi)
  · intro i hi; rw [f0 8 (by omega), ht _ (by omega), h _ (by omega)]; exact h8 i hi
theorem pn_un_swap {w s : Nat → Int32} {a b : Nat} (ha : a < 12) (hb : b < 12) (hab : a ≠ b) (e0 : w 0 = 1) (e1 : w 1 = nI a) (e2 : w 2 = nI b) (i : Nat) : pq_un w s i = pn_x3 s a b i := by
  obtain ⟨t, h⟩ := pn_x3_at (s := s) ha hb
  have ta : pn_tr a b a = b := if_pos rfl
  have tb : pn_tr a b b = a := by unfold pn_tr; rw [if_neg (fun e => hab e.symm), if_pos rfl]
  unfold pq_un
  rw [e0, e1, e2, if_neg (by decide), if_pos rfl, nI_clamp (by omega), nI_clamp (by omega)]
  by_cases q1 : i = 35 + a
  · rw [if_pos q1, q1, (t a ha).1, ta]
  rw [if_neg q1]
  by_cases q2 : i = 35 + b
  · rw [if_pos q2, q2, (t b hb).1, tb]
  rw [if_neg q2]
  by_cases q3 : i = 47 + a
  · rw [if_pos q3, q3, (t a ha).2.1, ta]
  rw [if_neg q3]
  by_cases q4 : i = 47 + b
  · rw [if_pos q4, q4, (t b hb).2.1, tb]
  rw [if_neg q4]
  by_cases q5 : i = 59 + a
  · rw [if_pos q5, q5, (t a ha).2.2, ta]
  rw [if_neg q5]
  by_cases q6 : i = 59 + b
  · rw [if_pos q6, q6, (t b hb).2.2, tb]
  rw [if_neg q6]
  unfold pn_x3 pn_x2
  rw [pu_tro q5 q6, pu_tro q3 q4, pu_tro q1 q2]
theorem pn_x3_x3 {s : Nat → Int32} {a b : Nat} (ha : a < 12) (hb : b < 12) (hab : a ≠ b) (i : Nat) (hi : i < 83) : pn_x3 (pn_x3 s a b) a b i = s i := by
  obtain ⟨t, h⟩ := pn_x3_at (s := s) ha hb
  obtain ⟨t', h'⟩ := pn_x3_at (s := pn_x3 s a b) ha hb
  have tt : ∀ q, pn_tr a b (pn_tr a b q) = q := by
    intro q
    unfold pn_tr
    by_cases q1 : q = a
    · rw [if_pos q1, if_neg (fun e => hab e.symm), if_pos rfl, q1]
    · rw [if_neg q1]
      by_cases q2 : q = b
      · rw [if_pos q2, if_pos rfl, q2]
      · rw [if_neg q2, if_neg q1, if_neg q2]
  by_cases q : i < 35 ∨ 71 ≤ i
  · rw [h' i q, h i q]
  · by_cases q1 : i < 47
    · obtain ⟨k, rfl⟩ : ∃ k, i = 35 + k := ⟨i - 35, by omega⟩
      rw [(t' k (by omega)).1, (t _ (pn_tr_lt ha hb (by omega))).1, tt]
    · by_cases q2 : i < 59
      · obtain ⟨k, rfl⟩ : ∃ k, i = 47 + k := ⟨i - 47, by omega⟩
        rw [(t' k (by omega)).2.1, (t _ (pn_tr_lt ha hb (by omega))).2.1, tt]
      · obtain ⟨k, rfl⟩ : ∃ k, i = 59 + k := ⟨i - 59, by omega⟩
        rw [(t' k (by omega)).2.2, (t _ (pn_tr_lt ha hb (by omega))).2.2, tt]
set_option maxHeartbeats 1000000 in
theorem sim_swap {xI : Nat → Int32} {xA : Nat → Nat → Int32} {xL : Nat → Nat → Int64} {aw : Nat → Nat → Int32} {mI : Nat → Int32} {mA : Nat → Nat → Int32} {mL : Nat → Int64} (hR : pq_R xI xA xL aw mI mA mL) (p1 : Int32) (p2 : Int32) : ∃ (zc : Int32 × Int32 × Int32 × (Nat → Int32) × (Nat → Int32) × (Nat → Int32) × (Nat → Nat → Int32)) (zm : Int32 × Int32 × (Nat → Int32) × (Nat → Int32)), f_X7_swap pq_N (xI 22) (xI 23) (xI 12) (xI 13) (xA 23) (xA 24) (xA 25) aw p1 p2 = some zc ∧ f_X8_swap pq_N (mI 12) (mA 6) (mA 11) p1 p2 = some zm ∧ zc.1 = zm.1 ∧ pq_R (va_up (va_up xI 22 zc.2.1) 23 zc.2.2.1) (va_up (va_up (va_up xA 23 zc.2.2.2.1) 24 zc.2.2.2.2.1) 25 zc.2.2.2.2.2.1) xL zc.2.2.2.2.2.2 (va_up mI 12 zm.2.1) (va_up (va_up mA 6 zm.2.2.1) 11 zm.2.2.2) mL := by
  obtain ⟨⟨r0, r1, r2, r3, r4⟩, k2, k3, k4⟩ := pu_now hR
  have same : pq_R (va_up (va_up xI 22 (xI 22)) 23 (xI 23)) (va_up (va_up (va_up xA 23 (xA 23)) 24 (xA 24)) 25 (xA 25)) xL aw (va_up mI 12 (mI 12)) (va_up (va_up mA 6 (mA 6)) 11 (mA 11)) mL := by
    simp only [pu_vid]; exact hR
  unfold f_X7_swap f_X8_swap
  simp only [r2, r3, pu_hasCase, pu_cs, pu_isCase k4]
  by_cases hv : 0 ≤ p1.toInt ∧ p1.toInt < (mA 6 4).toInt
  · rw [pu_f1 hv, pu_f1 hv]
    by_cases hv2 : 0 ≤ p2.toInt ∧ p2.toInt < (mA 6 4).toInt
    · rw [pu_f1 hv2, pu_f1 hv2]
      by_cases q : p1 = p2
      · rw [if_pos q, if_pos q]
        exact ⟨_, _, rfl, rfl, rfl, same⟩
      · rw [if_neg q, if_neg q]
        obtain ⟨P, J, C, X, S, hW, hC⟩ := pu_there hR (k := 4) (by omega) hv
        obtain ⟨n, K0, hn, hK, e22, e23, e12, hh⟩ := pu_hist hR
        obtain ⟨⟨p1', p2'⟩, ⟨j1, j2⟩, ⟨c1, c2⟩, x2, s2, ⟨eP, eJ, eC, eX, eS⟩, hkk, hg, -⟩ := id hW
        rw [eC, nI_toInt (by omega)] at hv hv2
        obtain ⟨a, ha, ea⟩ := pu_of hv.1 hv.2
        obtain ⟨b, hb, eb⟩ := pu_of hv2.1 hv2.2
        subst ea
        subst eb
        have hab : a ≠ b := fun e => q (by rw [e])
        rw [pq_gd_i (by decide), pq_gd_i (by decide), show (0 : Int32).toNatClampNeg = 0 from rfl, eX]
        by_cases xa : a < X
        · have := (nI_ltI (a := a) (b := X) (by omega) (by omega)).mpr xa
          rw [if_pos this, if_pos this]
          exact ⟨_, _, rfl, rfl, rfl, same⟩
        · have := fun h => xa ((nI_ltI (a := a) (b := X) (by omega) (by omega)).mp h)
          rw [if_neg this, if_neg this]
          by_cases xb : X ≤ b
          · have := (nI_leI (a := X) (b := b) (by omega) (by omega)).mpr xb
            rw [if_pos this, if_pos this, e22, e23, e12, pu_begin hn hK, pu_cs, pu_note pu_N2 hn, pu_cs]
            rw [pu_exchange (by omega) (by omega), pu_cs, pu_changeCases (by omega) (by omega), pu_cs]
            rw [pq_gd_i (by decide)]
            have hW' := pn_W_swap hW ha hb (by omega) xb
            have e0 : pn_x3 (mA 6) a b 0 = nI X := hW'.2.2.2.2.2.1.2.2.2.1
            refine ⟨_, _, rfl, rfl, e0.symm, ?_⟩
            dsimp only
            refine pu_act hR (t := pn_x3 (mA 6) a b) hn hK hh hW.wf hW'.wf (pn_C.rc hW' (pn_C.swapped hW hC ha hb (fun i _ => rfl) ?_ ?_ ?_ ?_ ?_)) ?_ ?_ ?_ ?_ ?_ ?_ ?_ ?_ ?_ ?_ ?_ ?_
            · intro k hk; simp (disch := omega) only [pu_vo]
            · intro k hk; simp (disch := omega) only [pu_vo]
            · rfl
            · rfl
            · rfl
            · intro f k hk'
              rw [pu_ak hk', pu_ak hk', pu_ak hk']
            · refine Or.inr (Or.inl ?_)
              simp (disch := omega) only [pu_ao, pu_as]
              rw [(pn_x3_at (s := mA 6) (a := a) (b := b) (by omega) (by omega)).2 4 (by omega), eC, nI_toInt (by omega), nI_toInt (by omega), nI_toInt (by omega)]
              refine ⟨trivial, by omega, by omega, q⟩
            · intro i hi
              rw [pn_un_swap (a := a) (b := b) (by omega) (by omega) hab (by simp (disch := omega) only [pu_ao, pu_as]) (by simp (disch := omega) only [pu_ao, pu_as]) (by simp (disch := omega) only [pu_ao, pu_as]), pn_x3_x3 (by omega) (by omega) hab i hi]
            · intro k hk'; simp (disch := omega) only [pu_vo]
            · intro k hk'; simp (disch := omega) only [pu_vo]
            · simp (disch := omega) only [pu_vo]
            · intro k hk'; simp (disch := omega) only [pu_vo]
            · simp (disch := omega) only [pu_vo, pu_vs]
            · simp (disch := omega) only [pu_vo, pu_vs]
            · simp (disch := omega) only [pu_vo, pu_vs]
            · simp (disch := omega) only [pu_vo, pu_vs]
            · simp (disch := omega) only [pu_vo, pu_vs]
          · have := fun h => xb ((nI_leI (a := X) (b := b) (by omega) (by omega)).mp h)
            rw [if_neg this, if_neg this]
            exact ⟨_, _, rfl, rfl, rfl, same⟩
    · rw [pu_f0 hv2, pu_f0 hv2]
      exact ⟨_, _, rfl, rfl, rfl, same⟩
  · rw [pu_f0 hv, pu_f0 hv]
    exact ⟨_, _, rfl, rfl, rfl, same⟩
/-- the row when the next case has been heard -/
theorem pn_W_hear {s : Nat → Int32} {P J C X S w lo : Nat} (hW : pn_W s P J C X S) (hX : X < C) (hw' : w < P) (hlo' : lo < P) (hne : w ≠ lo) (hwab : nI w = s (35 + X) ∨ nI w = s (47 + X)) : ∃ S', pn_nm s (nI lo) (s (5 + lo)) S = nI S' ∧ pn_W (upd (pn_end s X w lo S) 0 (nI (X + 1))) P J C (X + 1) S' := by
  obtain ⟨⟨p1, p2⟩, ⟨j1, j2⟩, ⟨c1, c2⟩, x2, s2, ⟨eP, eJ, eC, eX, eS⟩, hk, hg, hl, hf, hab, hw, hx1, hx2⟩ := hW
  obtain ⟨t1, t2, t3, t4, t5, t6⟩ := pn_end_at (s := s) (c := X) (w := w) (lo := lo) (j := S) (by omega) (by omega) hne (by omega)
  obtain ⟨S', hS', eS'⟩ := pn_nm_lt (s := s) (p := nI lo) (k := s (5 + lo)) (j := S) eJ j1 j2 s2
  have h : ∀ i, i ≠ 0 → i ≠ 1 → i ≠ 71 + X → i ≠ 11 + w → i ≠ 11 + lo → i ≠ 17 + w → upd (pn_end s X w lo S) 0 (nI (X + 1)) i = s i := fun i h0 h1 h2 h3 h4 h5 => by rw [pu_un h0, t6 i h1 h2 h3 h4 h5]
  refine ⟨S', eS', ⟨p1, p2⟩, ⟨j1, j2⟩, ⟨c1, c2⟩, by omega, hS', ⟨by rw [h 2 (by omega) (by omega) (by omega) (by omega) (by omega) (by omega)]; exact eP, by rw [h 3 (by omega) (by omega) (by omega) (by omega) (by omega) (by omega)]; exact eJ, by rw [h 4 (by omega) (by omega) (by omega) (by omega) (by omega) (by omega)]; exact eC, pu_us, by rw [pu_un (by omega), t1, eS']⟩, ?_, ?_, ?_, ?_, ?_, ?_, ?_, ?_⟩
  · intro i hi; rw [h _ (by omega) (by omega) (by omega) (by omega) (by omega) (by omega)]; exact hk i hi
  · intro i hi
    by_cases q1 : i = w
    · subst q1
      obtain ⟨g, hg, eg⟩ := hg i hi
      rw [pu_un (by omega), t3, eg, pn_dn_le hg]
      exact ⟨g - 1, by omega, rfl⟩
    · by_cases q2 : i = lo
      · subst q2
        obtain ⟨g, hg, eg⟩ := hg i hi
        obtain ⟨k, hk, ek⟩ := hk i hi
        obtain ⟨v, hv, ev⟩ := hw X hX
        obtain ⟨hh, hh1, hh2⟩ := pn_hu_n hk hv
        rw [pu_un (by omega), t4, eg, ek, ev, hh2]
        exact pn_up_le hg hh1
      · rw [h _ (by omega) (by omega) (by omega) (by omega) (by omega) (by omega)]; exact hg i hi
  · intro i hi; rw [h _ (by omega) (by omega) (by omega) (by omega) (by omega) (by omega)]; exact hl i hi
  · intro i hi; rw [h _ (by omega) (by omega) (by omega) (by omega) (by omega) (by omega)]; exact hf i hi
  · intro i hi; rw [h (35 + i) (by omega) (by omega) (by omega) (by omega) (by omega) (by omega), h (47 + i) (by omega) (by omega) (by omega) (by omega) (by omega) (by omega)]; exact hab i hi
  · intro i hi; rw [h _ (by omega) (by omega) (by omega) (by omega) (by omega) (by omega)]; exact hw i hi
  · intro i hi
    rw [h (35 + i) (by omega) (by omega) (by omega) (by omega) (by omega) (by omega), h (47 + i) (by omega) (by omega) (by omega) (by omega) (by omega) (by omega)]
    by_cases q : i = X
    · subst q
      rw [pu_un (by omega), t2]
      exact hwab
    · rw [h _ (by omega) (by omega) (by omega) (by omega) (by omega) (by omega)]
      exact hx1 i (by omega)
  · intro i hi hi2; rw [h _ (by omega) (by omega) (by omega) (by omega) (by omega) (by omega)]; exact hx2 i (by omega) hi2
theorem pn_un_hear {wv s : Nat → Int32} {P J C X S w lo a b : Nat} (hW : pn_W s P J C X S) (hX : X < C) (ha : a < P) (hb : b < P) (hab : a ≠ b) (ea : s (35 + X) = nI a) (eb : s (47 + X) = nI b) (hwl : (w = a ∧ lo = b) ∨ (w = b ∧ lo = a)) (e0 : wv 0 = 0) (e1 : wv 1 = nI X) (e3 : wv 3 = s (11 + a)) (e4 : wv 4 = s (11 + b)) (e5 : wv 5 = s 1) (i : Nat) : pq_un wv (upd (pn_end s X w lo S) 0 (nI (X + 1))) i = s i := by
  obtain ⟨⟨p1, p2⟩, ⟨j1, j2⟩, ⟨c1, c2⟩, x2, s2, ⟨eP, eJ, eC, eX, eS⟩, hk, hg, hl, hf, -, hw, hx1, hx2⟩ := hW
  obtain ⟨t1, t2, t3, t4, t5, t6⟩ := pn_end_at (s := s) (c := X) (w := w) (lo := lo) (j := S) (by omega) (by omega) (by omega) (by omega)
  have h : ∀ i, i ≠ 0 → i ≠ 1 → i ≠ 71 + X → i ≠ 11 + w → i ≠ 11 + lo → i ≠ 17 + w → upd (pn_end s X w lo S) 0 (nI (X + 1)) i = s i := fun i h0 h1 h2 h3 h4 h5 => by rw [pu_un h0, t6 i h1 h2 h3 h4 h5]
  unfold pq_un
  rw [if_pos e0, e1, e3, e4, e5, nI_clamp (by omega), h (35 + X) (by omega) (by omega) (by omega) (by omega) (by omega) (by omega), h (47 + X) (by omega) (by omega) (by omega) (by omega) (by omega) (by omega), ea, eb, pu_un (show 71 + X ≠ 0 by omega), t2, nI_clamp (show a < 2 ^ 31 by omega), nI_clamp (show b < 2 ^ 31 by omega), nI_clamp (show w < 2 ^ 31 by omega)]
  by_cases q0 : i = 0
  · rw [if_pos q0, q0, eX]
  rw [if_neg q0]
  by_cases q1 : i = 1
  · rw [if_pos q1, q1]
  rw [if_neg q1]
  by_cases q2 : i = 11 + a
  · rw [if_pos q2, q2]
  rw [if_neg q2]
  by_cases q3 : i = 11 + b
  · rw [if_pos q3, q3]
  rw [if_neg q3]
  by_cases q4 : i = 17 + w
  · rw [if_pos q4, q4, pu_un (by omega), t5, Int32.add_sub_cancel]
  rw [if_neg q4]
  by_cases q5 : i = 71 + X
  · rw [if_pos q5, q5, hx2 X (by omega) hX]
  rw [if_neg q5, h i q0 q1 q5 (by omega) (by omega) q4]
