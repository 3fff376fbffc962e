/-! ===== one case on end ===== -/
def pr_it (f : Nat → Nat) (x : Nat) : Nat → Nat
  | 0 => x
  | n + 1 => f (pr_it f x n)
theorem pr_pig : ∀ (M n : Nat) (x : Nat → Nat), (∀ i, i < n → x i < M) → (∀ i j, i < j → j < n → x i ≠ x j) → n ≤ M
  | 0, n, x, h1, _ => by
    cases n with
    | zero => omega
    | succ n => have := h1 0 (by omega); omega
  | M + 1, n, x, h1, h2 => by
    by_cases c : ∃ i, i < n ∧ x i = M
    · obtain ⟨i0, hi, ei⟩ := c
      have h3 : n - 1 ≤ M := by
        refine pr_pig M (n - 1) (fun i => if i < i0 then x i else x (i + 1)) (fun i h => ?_) (fun i j h h' => ?_)
        · by_cases l : i < i0
          · rw [if_pos l]
            have a1 := h1 i (by omega)
            have a2 := h2 i i0 l hi
            omega
          · rw [if_neg l]
            have a1 := h1 (i + 1) (by omega)
            have a2 := h2 i0 (i + 1) (by omega) (by omega)
            omega
        · by_cases l : i < i0
          · rw [if_pos l]
            by_cases l2 : j < i0
            · rw [if_pos l2]; exact h2 i j h (by omega)
            · rw [if_neg l2]; exact h2 i (j + 1) (by omega) (by omega)
          · rw [if_neg l, if_neg (by omega)]
            exact h2 (i + 1) (j + 1) (by omega) (by omega)
      omega
    · refine Nat.le_succ_of_le (pr_pig M n x (fun i hi => ?_) h2)
      have a1 := h1 i hi
      have a2 : x i ≠ M := fun e => c ⟨i, hi, e⟩
      omega
/-- m ahead of the ring, l in it -/
def pr_c (x : Nat → Nat) (m l : Nat) : Prop := 1 ≤ l ∧ x (m + l) = x m ∧ ∀ i j, i < j → j < m + l → x i ≠ x j
theorem pr_sh {f : Nat → Nat} {x0 i j : Nat} (h : pr_it f x0 i = pr_it f x0 j) : ∀ d, pr_it f x0 (i + d) = pr_it f x0 (j + d)
  | 0 => h
  | d + 1 => by
    show f (pr_it f x0 (i + d)) = f (pr_it f x0 (j + d))
    rw [pr_sh h d]
theorem pr_F1 {f : Nat → Nat} {x0 m l i : Nat} (h : pr_c (pr_it f x0) m l) (hi : m ≤ i) : pr_it f x0 (i + l) = pr_it f x0 i := by
  have h1 := pr_sh h.2.1 (i - m)
  rw [show m + l + (i - m) = i + l by omega, show m + (i - m) = i by omega] at h1
  exact h1
theorem pr_red {f : Nat → Nat} {x0 m l : Nat} (h : pr_c (pr_it f x0) m l) (a : Nat) : pr_it f x0 (m + a) = pr_it f x0 (m + a % l) := by
  refine Nat.strongRecOn (motive := fun a => pr_it f x0 (m + a) = pr_it f x0 (m + a % l)) a ?_
  intro a ih
  have hl := h.1
  by_cases c : a < l
  · rw [Nat.mod_eq_of_lt c]
  · have h1 := ih (a - l) (by omega)
    have h2 := pr_F1 h (i := m + (a - l)) (by omega)
    rw [show m + (a - l) + l = m + a by omega] at h2
    rw [Nat.mod_eq_sub_mod (by omega), ← h1]
    exact h2
theorem pr_F2 {f : Nat → Nat} {x0 m l w t : Nat} (h : pr_c (pr_it f x0) m l) (ht : 1 ≤ t) (e : pr_it f x0 w = pr_it f x0 (w + t)) : m ≤ w ∧ l ≤ t := by
  obtain ⟨h1, h2, h3⟩ := id h
  by_cases c : m ≤ w
  · refine ⟨c, ?_⟩
    have a1 := pr_red h (w - m)
    have a2 := pr_red h (w + t - m)
    rw [show m + (w - m) = w by omega] at a1
    rw [show m + (w + t - m) = w + t by omega] at a2
    have m1 := Nat.mod_lt (w - m) (show 0 < l by omega)
    have m2 := Nat.mod_lt (w + t - m) (show 0 < l by omega)
    have e2 : (w + t - m) % l = (w - m) % l := by
      generalize (w - m) % l = u at *
      generalize (w + t - m) % l = v at *
      rcases Nat.lt_trichotomy u v with g | g | g
      · exact absurd (by rw [← a1, ← a2, e]) (h3 (m + u) (m + v) (by omega) (by omega))
      · exact g.symm
      · exact absurd (by rw [← a1, ← a2, e]) (h3 (m + v) (m + u) (by omega) (by omega))
    have e3 := Nat.sub_mod_eq_zero_of_mod_eq e2
    rw [show w + t - m - (w - m) = t by omega] at e3
    exact Nat.le_of_dvd (by omega) (Nat.dvd_of_mod_eq_zero e3)
  · exfalso
    by_cases c2 : w + t < m + l
    · exact h3 w (w + t) (by omega) c2 e
    · have a2 := pr_red h (w + t - m)
      rw [show m + (w + t - m) = w + t by omega] at a2
      have m2 := Nat.mod_lt (w + t - m) (show 0 < l by omega)
      exact h3 w (m + (w + t - m) % l) (by omega) (by omega) (by rw [e, a2])
/-- the state behind a state (who sits, the grievances of the parties a and b of the case c) -/
def pr_f (s : Nat → Int32) (c a b st : Nat) : Nat :=
  if pn_f s (st / 441) (s (23 + st / 441)) c = s (35 + c) then
    ((pn_nm s (nI b) (s (5 + b)) (st / 441)).toNatClampNeg * 21 + (pn_dn (nI (st / 21 % 21))).toNatClampNeg) * 21 + (pn_up (nI (st % 21)) (pn_hu (s (5 + b)) (s (59 + c)))).toNatClampNeg
  else
    ((pn_nm s (nI a) (s (5 + a)) (st / 441)).toNatClampNeg * 21 + (pn_up (nI (st / 21 % 21)) (pn_hu (s (5 + a)) (s (59 + c)))).toNatClampNeg) * 21 + (pn_dn (nI (st % 21))).toNatClampNeg
theorem pr_end {s t : Nat → Int32} {P J C X c a b st : Nat} (hV : pn_V t P J C X (st / 441)) (hst : pm_st s t) (hc : c < C) (ha : a < P) (hb : b < P) (hab : a ≠ b) (ea : s (35 + c) = nI a) (eb : s (47 + c) = nI b) (e1 : t (11 + a) = nI (st / 21 % 21)) (e2 : t (11 + b) = nI (st % 21)) :
    ∃ w lo, ((w = a ∧ lo = b) ∨ (w = b ∧ lo = a)) ∧ pn_f t (st / 441) (t (23 + st / 441)) c = nI w ∧ pn_op t c (nI w) = nI lo ∧ pn_V (pn_end t c w lo (st / 441)) P J C X (pr_f s c a b st / 441) ∧ pm_st s (pn_end t c w lo (st / 441)) ∧ pn_end t c w lo (st / 441) (11 + a) = nI (pr_f s c a b st / 21 % 21) ∧ pn_end t c w lo (st / 441) (11 + b) = nI (pr_f s c a b st % 21) := by
  obtain ⟨⟨p1, p2⟩, ⟨j1, j2⟩, ⟨c1, c2⟩, x2, s2, ⟨eP, eJ, eC, eX, eS⟩, hk, hg, hl, hf, hpd, hw⟩ := id hV
  have q1 : st / 21 % 21 ≤ 20 := by omega
  have q2 : st % 21 ≤ 20 := by omega
  have et : t (35 + c) = nI a := by rw [hst (35 + c) (by omega) (by omega)]; exact ea
  have etb : t (47 + c) = nI b := by rw [hst (47 + c) (by omega) (by omega)]; exact eb
  have etw : t (59 + c) = s (59 + c) := hst (59 + c) (by omega) (by omega)
  have eka : t (5 + a) = s (5 + a) := hst (5 + a) (by omega) (by omega)
  have ekb : t (5 + b) = s (5 + b) := hst (5 + b) (by omega) (by omega)
  have ef : pn_f t (st / 441) (t (23 + st / 441)) c = pn_f s (st / 441) (s (23 + st / 441)) c := by
    unfold pn_f pn_plea
    rw [hst (35 + c) (by omega) (by omega), hst (47 + c) (by omega) (by omega), hst (59 + c) (by omega) (by omega), hst (29 + st / 441) (by omega) (by omega), hst (23 + st / 441) (by omega) (by omega)]
  have h6 : (t 3).toNatClampNeg ≤ 6 := by rw [eJ, nI_clamp (by omega)]; exact j2
  have enm : ∀ p k, pn_nm t p k (st / 441) = pn_nm s p k (st / 441) := fun p k => pm_st_nm hst h6 p k _
  obtain ⟨wt, hwt, ewt⟩ := hw c hc
  have keep : ∀ w lo, w < 6 → lo < 6 → w ≠ lo → pm_st s (pn_end t c w lo (st / 441)) := by
    intro w lo hw hlo hne i h2 hi
    obtain ⟨t1, t2, t3, t4, t5, t6⟩ := pn_end_at (s := t) (c := c) (w := w) (lo := lo) (j := st / 441) hw hlo hne (by omega)
    rw [t6 i (by omega) (by omega) (by omega) (by omega) (by omega)]
    exact hst i h2 hi
  by_cases hwin : pn_f s (st / 441) (s (23 + st / 441)) c = s (35 + c)
  · obtain ⟨S', eS', hV'⟩ := pn_V_end (w := a) (lo := b) hV hc ha hb hab
    obtain ⟨t1, t2, t3, t4, t5, t6⟩ := pn_end_at (s := t) (c := c) (w := a) (lo := b) (j := st / 441) (by omega) (by omega) hab (by omega)
    obtain ⟨kb, hkb, ekb2⟩ := hk b hb
    obtain ⟨hh, hhl, ehh⟩ := pn_hu_n hkb hwt
    obtain ⟨u, hu, eu⟩ := pn_up_le q2 hhl
    have hS' := hV'.2.2.2.2.1
    have ed := pn_dn_le q1
    rw [← ekb2, ← ewt] at ehh
    have key : pr_f s c a b st = (S' * 21 + (st / 21 % 21 - 1)) * 21 + u := by
      unfold pr_f
      rw [if_pos hwin, ← enm, ← ekb, eS', nI_clamp (by omega), ed, nI_clamp (by omega), ← etw, ehh, eu, nI_clamp (by omega)]
    refine ⟨a, b, Or.inl ⟨rfl, rfl⟩, by rw [ef, hwin, ea], by unfold pn_op; rw [et, if_pos rfl, etb], ?_, keep a b (by omega) (by omega) hab, ?_, ?_⟩
    · rw [key, show ((S' * 21 + (st / 21 % 21 - 1)) * 21 + u) / 441 = S' by omega]
      exact hV'
    · rw [t3, e1, ed, key, show ((S' * 21 + (st / 21 % 21 - 1)) * 21 + u) / 21 % 21 = st / 21 % 21 - 1 by omega]
    · rw [t4, e2, ehh, eu, key, show ((S' * 21 + (st / 21 % 21 - 1)) * 21 + u) % 21 = u by omega]
  · have hwb : pn_f s (st / 441) (s (23 + st / 441)) c = s (47 + c) := by
      rcases pm_f_or s c (st / 441) (s (23 + st / 441)) with h | h
      · exact absurd h hwin
      · exact h
    obtain ⟨S', eS', hV'⟩ := pn_V_end (w := b) (lo := a) hV hc hb ha hab.symm
    obtain ⟨t1, t2, t3, t4, t5, t6⟩ := pn_end_at (s := t) (c := c) (w := b) (lo := a) (j := st / 441) (by omega) (by omega) hab.symm (by omega)
    obtain ⟨ka, hka, eka2⟩ := hk a ha
    obtain ⟨hh, hhl, ehh⟩ := pn_hu_n hka hwt
    obtain ⟨u, hu, eu⟩ := pn_up_le q1 hhl
    have hS' := hV'.2.2.2.2.1
    have ed := pn_dn_le q2
    rw [← eka2, ← ewt] at ehh
    have key : pr_f s c a b st = (S' * 21 + u) * 21 + (st % 21 - 1) := by
      unfold pr_f
      rw [if_neg hwin, ← enm, ← eka, eS', nI_clamp (by omega), ed, nI_clamp (by omega), ← etw, ehh, eu, nI_clamp (by omega)]
    have hne : ¬ nI b = nI a := fun e => hab ((nI_eq (by omega) (by omega)).mp e).symm
    refine ⟨b, a, Or.inr ⟨rfl, rfl⟩, by rw [ef, hwb, eb], by unfold pn_op; rw [et, if_neg hne], ?_, keep b a (by omega) (by omega) hab.symm, ?_, ?_⟩
    · rw [key, show ((S' * 21 + u) * 21 + (st % 21 - 1)) / 441 = S' by omega]
      exact hV'
    · rw [t4, e1, ehh, eu, key, show ((S' * 21 + u) * 21 + (st % 21 - 1)) / 21 % 21 = u by omega]
    · rw [t3, e2, ed, key, show ((S' * 21 + u) * 21 + (st % 21 - 1)) % 21 = st % 21 - 1 by omega]
theorem pr_enc {st : Nat} : (st / 441 * 21 + st / 21 % 21) * 21 + st % 21 = st := by omega
/-! the reference's side -/
theorem pr_stOf {N : Nat} {s t : Nat → Int32} {P J C X c a b st : Nat} (hV : pn_V t P J C X (st / 441)) (hc : c < C) (ha : a < P) (hb : b < P) (ea : s (35 + c) = nI a) (eb : s (47 + c) = nI b) (e1 : t (11 + a) = nI (st / 21 % 21)) (e2 : t (11 + b) = nI (st % 21)) : f_X8_stateOf N s t (nI c) = some (nI st) := by
  obtain ⟨⟨p1, p2⟩, ⟨j1, j2⟩, ⟨c1, c2⟩, x2, s2, ⟨eP, eJ, eC, eX, eS⟩, -⟩ := id hV
  unfold f_X8_stateOf
  simp (disch := omega) only [pu_lit 1, pu_lit 35, pu_lit 47, pu_lit 11, pu_lit 21, nI_add, pu_gd, nI_clamp, ea, eb, e1, e2, eS, pk_mul, pr_enc]
theorem pr_ref_loop {N : Nat} {s : Nat → Int32} {P J C X c a b x0 : Nat} (hN : 10 < N) (hc : c < C) (ha : a < P) (hb : b < P) (hab : a ≠ b) (ea : s (35 + c) = nI a) (eb : s (47 + c) = nI b) (hx : ∀ n, pr_it (pr_f s c a b) x0 n < 2646) : ∀ (d n m : Nat) (t had : Nat → Int32), n + d = 2647 → d < m → pn_V t P J C X (pr_it (pr_f s c a b) x0 n / 441) → pm_st s t → t (11 + a) = nI (pr_it (pr_f s c a b) x0 n / 21 % 21) → t (11 + b) = nI (pr_it (pr_f s c a b) x0 n % 21) →
    (∀ v, v < 2646 → (had v = -1 ∧ ∀ i, i < n → pr_it (pr_f s c a b) x0 i ≠ v) ∨ ∃ i, i < n ∧ pr_it (pr_f s c a b) x0 i = v ∧ had v = nI i) → (∀ i j, i < j → j < n → pr_it (pr_f s c a b) x0 i ≠ pr_it (pr_f s c a b) x0 j) →
    ∃ u l T hd, pq_w (fun _ _ _ => none) (f_X8_layRound_L28 N s (nI c)) m (nI n) t had = some (nI u, nI l, T, hd) ∧ pr_c (pr_it (pr_f s c a b) x0) u l ∧ u + l ≤ 2646
  | d, n, m, t, had, h1, h2, hV, hst, e1, e2, hh, hdi => by
    have hn : n ≤ 2646 := pr_pig 2646 n (pr_it (pr_f s c a b) x0) (fun i _ => hx i) hdi
    obtain ⟨d, rfl⟩ : ∃ q, d = q + 1 := ⟨d - 1, by omega⟩
    obtain ⟨m, rfl⟩ : ∃ q, m = q + 1 := ⟨m - 1, by omega⟩
    have hxn := hx n
    have es := pr_stOf (N := N) (s := s) hV hc ha hb ea eb e1 e2
    obtain ⟨w, lo, hor, ew, elo, hV', hst', g1, g2⟩ := pr_end hV hst hc ha hb hab ea eb e1 e2
    have ih := pr_ref_loop (N := N) (C := C) (X := X) (J := J) hN hc ha hb hab ea eb hx d (n + 1) m (pn_end t c w lo (pr_it (pr_f s c a b) x0 n / 441)) (upd had (pr_it (pr_f s c a b) x0 n) (nI n)) (by omega) (by omega) hV' hst' g1 g2
    obtain ⟨⟨p1, p2⟩, ⟨j1, j2⟩, ⟨c1, c2⟩, x2, s2, ⟨eP, eJ, eC, eX, eS⟩, -⟩ := id hV
    rw [pu_w]
    generalize pq_w (fun _ _ _ => none) (f_X8_layRound_L28 N s (nI c)) m = kk at ih ⊢
    unfold f_X8_layRound_L28
    rw [es, pu_cs, pu_gd (by omega) (by omega), nI_clamp (by omega)]
    rcases hh _ hxn with ⟨hm, hno⟩ | ⟨i, hi, exi, ehi⟩
    · rw [hm, if_neg (by decide), pu_cs, pu_gd (by omega) (by omega), pu_l, nI_clamp (by omega)]
      have hww : w < 6 ∧ lo < 6 ∧ w ≠ lo := by
        rcases hor with ⟨rfl, rfl⟩ | ⟨rfl, rfl⟩
        · exact ⟨by omega, by omega, hab⟩
        · exact ⟨by omega, by omega, hab.symm⟩
      have ef : f_X8_foundBy N t (nI (pr_it (pr_f s c a b) x0 n / 441)) (t (23 + pr_it (pr_f s c a b) x0 n / 441)) (nI c) = some (nI w) := by
        rw [pu_found (by omega) (by omega), ew]
      have ee := pu_ends (N := N) hN eJ j1 j2 s2 eS (show c < 12 by omega) hww.1 hww.2.1 hww.2.2 elo
      rw [pq_gd_i (i := 1) (by decide), pq_gd_i (i := 1) (by decide), show (1 : Int32).toNatClampNeg = 1 from rfl, eS, pu_lit 23, nI_add, pu_gd (by omega) (by omega), nI_clamp (by omega), ef, pu_cs, ee, pu_cs, pu_l, nI_1]
      refine ih (fun v hv => ?_) (fun i j h3 h4 => ?_)
      · by_cases ev : v = pr_it (pr_f s c a b) x0 n
        · rw [ev, pu_us]
          exact Or.inr ⟨n, by omega, rfl, rfl⟩
        · rw [pu_un ev]
          rcases hh v hv with ⟨k1, k2⟩ | ⟨i, k1, k2, k3⟩
          · refine Or.inl ⟨k1, fun i hi => ?_⟩
            by_cases c9 : i = n
            · rw [c9]; exact fun e => ev e.symm
            · exact k2 i (by omega)
          · exact Or.inr ⟨i, by omega, k2, k3⟩
      · by_cases c9 : j = n
        · rw [c9]
          exact hno i (by omega)
        · exact hdi i j h3 (by omega)
    · rw [ehi, if_pos (nI_pos' (by omega)), pu_cs, pu_gd (by omega) (by omega), nI_clamp (by omega), ehi, pu_l, pk_sub (by omega), pu_l]
      refine ⟨i, n - i, t, had, rfl, ⟨by omega, ?_, fun k j h3 h4 => hdi k j h3 (by omega)⟩, by omega⟩
      rw [show i + (n - i) = n by omega, exi]
termination_by d => d
theorem pr_had {N : Nat} {s t : Nat → Int32} {p1 : Int32} : ∀ (d i m : Nat) (had : Nat → Int32), i + d = 2646 → d < m → (∀ v, v < i → had v = -1) → ∃ had', pq_w (fun _ _ => none) (f_X8_layRound_L2 N s t p1) m (nI i) had = pq_c (f_X8_begin N s t) (fun r_1 => pq_w (fun _ _ _ => none) (f_X8_layRound_L28 N s p1) N 0 r_1 had') ∧ ∀ v, v < 2646 → had' v = -1
  | 0, i, m, had, h1, h2, h3 => by
    obtain ⟨m, rfl⟩ : ∃ q, m = q + 1 := ⟨m - 1, by omega⟩
    rw [pu_w]
    unfold f_X8_layRound_L2
    rw [if_pos (by rw [pu_lit 2646, nI_leI (by omega) (by omega)]; omega)]
    exact ⟨had, rfl, fun v hv => h3 v (by omega)⟩
  | d + 1, i, m, had, h1, h2, h3 => by
    obtain ⟨m, rfl⟩ : ∃ q, m = q + 1 := ⟨m - 1, by omega⟩
    have ih := pr_had (N := N) (s := s) (t := t) (p1 := p1) d (i + 1) m (upd had i (-1)) (by omega) (by omega) (fun v hv => by
      by_cases c : v = i
      · rw [c, pu_us]
      · rw [pu_un c]; exact h3 v (by omega))
    rw [pu_w]
    generalize pq_w (fun _ _ => none) (f_X8_layRound_L2 N s t p1) m = kk at ih ⊢
    unfold f_X8_layRound_L2
    rw [if_neg (by rw [pu_lit 2646, nI_leI (by omega) (by omega)]; omega), pu_gd (by omega) (by omega), pu_l, pu_l, nI_1, nI_clamp (by omega)]
    exact ih
