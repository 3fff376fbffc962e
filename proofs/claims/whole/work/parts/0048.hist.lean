/-! ===== the reference's copies, and the history ===== -/
def pn_br (a b : Nat → Int32) (i j n : Nat) : Nat → Int32 := fun k => if j ≤ k ∧ k < j + n then a (i + (k - j)) else b k
theorem pn_br_0 (a b : Nat → Int32) (i j : Nat) : pn_br a b i j 0 = b := by
  funext k
  unfold pn_br
  rw [if_neg (by omega)]
theorem pn_br_s (a b : Nat → Int32) (i j n : Nat) : upd (pn_br a b i j n) (j + n) (a (i + n)) = pn_br a b i j (n + 1) := by
  funext k
  by_cases h : k = j + n
  · subst h
    rw [pu_us]
    unfold pn_br
    rw [if_pos (by omega), show i + (j + n - j) = i + n by omega]
  · rw [pu_un h]
    unfold pn_br
    by_cases h2 : j ≤ k ∧ k < j + n
    · rw [if_pos h2, if_pos (by omega)]
    · rw [if_neg h2, if_neg (by omega)]
theorem pu_bring_loop {N n0 n2 i j n : Nat} {a b : Nat → Int32} (h0 : i + n ≤ n0) (h2 : j + n ≤ n2) (hn0 : n0 < 2 ^ 20) (hn2 : n2 < 2 ^ 20) : ∀ (d q m : Nat), q + d = n → d < m → pq_w (fun _ _ => none) (f_X8_bring_L3 N n0 n2 a (nI i) (nI j) (nI n)) m (nI q) (pn_br a b i j q) = some (pn_br a b i j n)
  | 0, q, m, e1, e2 => by
    obtain ⟨m, rfl⟩ : ∃ t, m = t + 1 := ⟨m - 1, by omega⟩
    rw [pu_w]
    unfold f_X8_bring_L3
    rw [if_pos (by rw [nI_leI (by omega) (by omega)]; omega), show q = n by omega]
  | d + 1, q, m, e1, e2 => by
    obtain ⟨m, rfl⟩ : ∃ t, m = t + 1 := ⟨m - 1, by omega⟩
    have ih := pu_bring_loop (N := N) (a := a) (b := b) h0 h2 hn0 hn2 d (q + 1) m (by omega) (by omega)
    rw [pu_w]
    generalize pq_w (fun _ _ => none) (f_X8_bring_L3 N n0 n2 a (nI i) (nI j) (nI n)) m = kk at ih ⊢
    unfold f_X8_bring_L3
    rw [if_neg (by rw [nI_leI (by omega) (by omega)]; omega)]
    simp (disch := omega) only [nI_add, pu_gd, nI_clamp, pu_l, nI_1]
    rw [pn_br_s]
    exact ih
theorem pu_bring {N n0 n2 i j n : Nat} {a b : Nat → Int32} (h0 : i + n ≤ n0) (h2 : j + n ≤ n2) (hn0 : n0 < 2 ^ 20) (hn2 : n2 < 2 ^ 20) (hN : n < N) : f_X8_bring N n0 n2 a b (nI i) (nI j) (nI n) = some (pn_br a b i j n) := by
  unfold f_X8_bring
  have := pu_bring_loop (N := N) (a := a) (b := b) h0 h2 hn0 hn2 n 0 N (by omega) hN
  rw [pn_br_0, nI_0] at this
  exact this
theorem pu_same_loop {N n0 i j n : Nat} {a : Nat → Int32} (h0 : i + n ≤ n0) (hji : j ≤ i) (hn0 : n0 < 2 ^ 20) : ∀ (d q m : Nat), q + d = n → d < m → pq_w (fun _ _ => none) (f_X8_bringsame_L3 N n0 (nI i) (nI j) (nI n)) m (nI q) (pn_br a a i j q) = some (pn_br a a i j n)
  | 0, q, m, e1, e2 => by
    obtain ⟨m, rfl⟩ : ∃ t, m = t + 1 := ⟨m - 1, by omega⟩
    rw [pu_w]
    unfold f_X8_bringsame_L3
    rw [if_pos (by rw [nI_leI (by omega) (by omega)]; omega), show q = n by omega]
  | d + 1, q, m, e1, e2 => by
    obtain ⟨m, rfl⟩ : ∃ t, m = t + 1 := ⟨m - 1, by omega⟩
    have ih := pu_same_loop (N := N) (a := a) h0 hji hn0 d (q + 1) m (by omega) (by omega)
    rw [pu_w]
    generalize pq_w (fun _ _ => none) (f_X8_bringsame_L3 N n0 (nI i) (nI j) (nI n)) m = kk at ih ⊢
    unfold f_X8_bringsame_L3
    rw [if_neg (by rw [nI_leI (by omega) (by omega)]; omega)]
    simp (disch := omega) only [nI_add, pu_gd, nI_clamp, pu_l, nI_1]
    have e : pn_br a a i j q (i + q) = a (i + q) := by
      unfold pn_br
      rw [if_neg (by omega)]
    rw [e, pn_br_s]
    exact ih
/-- the rows of the acts when one more is noted -/
def pn_an (n : Nat) (now acts : Nat → Int32) : Nat → Int32 := if n = 24 then pn_br now (pn_br acts acts 83 0 1909) 0 1909 83 else pn_br now acts 0 (83 * n) 83
def pn_ns (n : Nat) : Nat := if n = 24 then 24 else n + 1
theorem pu_note {N n : Nat} {now acts : Nat → Int32} (hN : 2000 < N) (hn : n ≤ 24) : f_X8_note N (nI n) now acts = some (nI (pn_ns n), pn_an n now acts) := by
  unfold f_X8_note pn_ns pn_an
  simp only [pu_j]
  by_cases h : n = 24
  · subst h
    rw [if_pos rfl, if_pos rfl, if_pos (show nI 24 = 24 from rfl)]
    have e := pu_same_loop (N := N) (n0 := 1992) (i := 83) (j := 0) (n := 1909) (a := acts) (by omega) (by omega) (by omega) 1909 0 N (by omega) (by omega)
    rw [pn_br_0, nI_0] at e
    have e2 : f_X8_bringsame N 1992 acts 83 0 1909 = some (pn_br acts acts 83 0 1909) := e
    rw [e2, pu_cs, pu_l, show (nI 24 - 1 : Int32) = nI 23 from rfl, show ((83 : Int32) * nI 23) = nI 1909 from rfl]
    have e3 := pu_bring (N := N) (n0 := 83) (n2 := 1992) (i := 0) (j := 1909) (n := 83) (a := now) (b := pn_br acts acts 83 0 1909) (by omega) (by omega) (by omega) (by omega) (by omega)
    rw [nI_0] at e3
    rw [show (83 : Int32) = nI 83 from rfl, e3, pu_cs, pu_l]
    rfl
  · rw [if_neg h, if_neg h, if_neg (show ¬ nI n = 24 by rw [pu_lit 24, nI_eq (by omega) (by omega)]; exact h)]
    have e3 := pu_bring (N := N) (n0 := 83) (n2 := 1992) (i := 0) (j := 83 * n) (n := 83) (a := now) (b := acts) (by omega) (by omega) (by omega) (by omega) (by omega)
    rw [nI_0] at e3
    rw [show (83 : Int32) = nI 83 from rfl, pk_mul, e3, pu_cs, pu_l, nI_1]
theorem pn_an_top {n : Nat} {now acts : Nat → Int32} {i : Nat} (hi : i < 83) : pn_an n now acts (83 * (pn_ns n - 1) + i) = now i := by
  unfold pn_an pn_ns
  by_cases h : n = 24
  · rw [if_pos h, if_pos h]
    unfold pn_br
    rw [if_pos (by omega), show 0 + (83 * (24 - 1) + i - 1909) = i by omega]
  · rw [if_neg h, if_neg h]
    unfold pn_br
    rw [if_pos (by omega), show 0 + (83 * (n + 1 - 1) + i - 83 * n) = i by omega]
theorem pn_an_low {n j : Nat} {now acts : Nat → Int32} {i : Nat} (hi : i < 83) (hj : 1 ≤ j) (hjn : j + 1 ≤ pn_ns n) (hn : n ≤ 24) : pn_an n now acts (83 * (pn_ns n - (j + 1)) + i) = acts (83 * (n - j) + i) := by
  unfold pn_an
  unfold pn_ns at hjn ⊢
  by_cases h : n = 24
  · subst h
    rw [if_pos rfl] at hjn ⊢
    rw [if_pos rfl]
    unfold pn_br
    rw [if_neg (by omega), if_pos (by omega)]
    congr 1
    omega
  · rw [if_neg h] at hjn ⊢
    rw [if_neg h]
    unfold pn_br
    rw [if_neg (by omega)]
    congr 1
    omega
theorem pn_W_cg {s t : Nat → Int32} {P J C X S : Nat} (h : ∀ i, i < 83 → t i = s i) (hW : pn_W s P J C X S) : pn_W t P J C X S := by
  obtain ⟨⟨p1, p2⟩, ⟨j1, j2⟩, ⟨c1, c2⟩, x2, s2, ⟨eP, eJ, eC, eX, eS⟩, hk, hg, hl, hf, hab, hw, hx1, hx2⟩ := hW
  refine ⟨⟨p1, p2⟩, ⟨j1, j2⟩, ⟨c1, c2⟩, x2, s2, ⟨by rw [h 2 (by omega)]; exact eP, by rw [h 3 (by omega)]; exact eJ, by rw [h 4 (by omega)]; exact eC, by rw [h 0 (by omega)]; exact eX, by rw [h 1 (by omega)]; exact eS⟩, ?_, ?_, ?_, ?_, ?_, ?_, ?_, ?_⟩
  · intro i hi; rw [h _ (by omega)]; exact hk i hi
  · intro i hi; rw [h _ (by omega)]; exact hg i hi
  · intro i hi; rw [h _ (by omega)]; exact hl i hi
  · intro i hi; rw [h _ (by omega)]; exact hf i hi
  · intro i hi; rw [h _ (by omega), h _ (by omega)]; exact hab i hi
  · intro i hi; rw [h _ (by omega)]; exact hw i hi
  · intro i hi; rw [h _ (by omega), h _ (by omega), h _ (by omega)]; exact hx1 i hi
  · intro i hi hi2; rw [h _ (by omega)]; exact hx2 i hi hi2
theorem pq_wf_cg {s t : Nat → Int32} (h : ∀ i, i < 83 → t i = s i) (hw : pq_wf s) : pq_wf t := by
  obtain ⟨P, J, C, X, S, hW⟩ := pn_W.of hw
  exact (pn_W_cg h hW).wf
theorem pq_av_cg {w s t : Nat → Int32} (h : ∀ i, i < 83 → t i = s i) (hv : pq_av w s) : pq_av w t := by
  unfold pq_av
  rw [h 0 (by omega), h 2 (by omega), h 3 (by omega), h 4 (by omega)]
  exact hv
theorem pq_un_cg {w s t : Nat → Int32} (h : ∀ i, i < 83 → t i = s i) (hw : pq_wf s) (hv : pq_av w s) {i : Nat} (hi : i < 83) : pq_un w t i = pq_un w s i := by
  obtain ⟨P, J, C, X, S, ⟨p1, p2⟩, ⟨j1, j2⟩, ⟨c1, c2⟩, x2, s2, ⟨eP, eJ, eC, eX, eS⟩, -⟩ := pn_W.of hw
  unfold pq_un
  have c : ∀ z : Int32, z.toNatClampNeg = z.toInt.toNat := fun _ => rfl
  rcases hv with ⟨e0, h1, h2⟩ | ⟨e0, ⟨h1, h2⟩, ⟨h3, h4⟩, -⟩ | ⟨e0, h1, h2⟩ | e0 | ⟨e0, h1, h2⟩
  · rw [eX, nI_toInt (by omega)] at h2
    have hc : (w 1).toNatClampNeg < 12 := by rw [c]; omega
    rw [if_pos e0, if_pos e0, h _ (by omega), h _ (by omega), h _ (by omega), h i hi]
  · rw [eC, nI_toInt (by omega)] at h2 h4
    have hc : (w 1).toNatClampNeg < 12 := by rw [c]; omega
    have hd : (w 2).toNatClampNeg < 12 := by rw [c]; omega
    have q0 : ¬ w 0 = 0 := by rw [e0]; decide
    simp only [q0, if_pos e0, if_false]
    rw [h (35 + (w 2).toNatClampNeg) (by omega), h (35 + (w 1).toNatClampNeg) (by omega), h (47 + (w 2).toNatClampNeg) (by omega), h (47 + (w 1).toNatClampNeg) (by omega), h (59 + (w 2).toNatClampNeg) (by omega), h (59 + (w 1).toNatClampNeg) (by omega), h i hi]
  · have q0 : ¬ w 0 = 0 := by rw [e0]; decide
    have q1 : ¬ w 0 = 1 := by rw [e0]; decide
    simp only [q0, q1, if_pos e0, if_false, h i hi]
  · have q0 : ¬ w 0 = 0 := by rw [e0]; decide
    have q1 : ¬ w 0 = 1 := by rw [e0]; decide
    have q2 : ¬ w 0 = 2 := by rw [e0]; decide
    simp only [q0, q1, q2, if_pos e0, if_false, h i hi]
  · have q0 : ¬ w 0 = 0 := by rw [e0]; decide
    have q1 : ¬ w 0 = 1 := by rw [e0]; decide
    have q2 : ¬ w 0 = 2 := by rw [e0]; decide
    have q3 : ¬ w 0 = 3 := by rw [e0]; decide
    simp only [q0, q1, q2, q3, if_false, h i hi]
/-- one act more: the ring and the rows go on together -/
theorem pq_hi_push {n K0 : Nat} {aw aw' : Nat → Nat → Int32} {now now' acts : Nat → Int32} (hn : n ≤ 24) (hK : K0 < 24) (h : pq_hi (nI n) (nI K0) aw now acts) (hw : pq_wf now) (hw' : pq_wf now') (hother : ∀ f k, k ≠ (K0 + 1) % 24 → aw' f k = aw f k) (hv : pq_av (fun f => aw' f ((K0 + 1) % 24)) now') (hu : ∀ i, i < 83 → now i = pq_un (fun f => aw' f ((K0 + 1) % 24)) now' i) : pq_hi (nI (pn_ns n)) (nI ((K0 + 1) % 24)) aw' now' (pn_an n now acts) := by
  obtain ⟨-, -, hj⟩ := h
  have ns : pn_ns n ≤ 24 ∧ 1 ≤ pn_ns n := by unfold pn_ns; split <;> omega
  have t1 : (nI n).toInt = n := nI_toInt (by omega)
  have t2 : (nI (pn_ns n)).toInt = pn_ns n := nI_toInt (by omega)
  have t3 : (nI K0).toInt = K0 := nI_toInt (by omega)
  have t4 : (nI ((K0 + 1) % 24)).toInt = ((K0 + 1) % 24 : Nat) := nI_toInt (by omega)
  unfold pq_hi
  rw [t2, t4]
  rw [t1, t3] at hj
  simp only [Int.toNat_natCast] at hj ⊢
  refine ⟨by omega, by omega, ?_⟩
  -- the rows, by their places
  have r0 : pq_sn now' (pn_an n now acts) (pn_ns n) 0 = now' := rfl
  have r1 : ∀ i, i < 83 → pq_sn now' (pn_an n now acts) (pn_ns n) 1 i = now i := fun i hi => pn_an_top hi
  have r2 : ∀ j, 1 ≤ j → j + 1 ≤ pn_ns n → ∀ i, i < 83 → pq_sn now' (pn_an n now acts) (pn_ns n) (j + 1) i = pq_sn now acts n j i := by
    intro j h1 h2 i hi
    unfold pq_sn
    rw [if_neg (by omega), if_neg (by omega)]
    exact pn_an_low hi h1 h2 hn
  have r3 : ∀ j, 1 ≤ j → j ≤ pn_ns n → ∀ i, i < 83 → pq_sn now' (pn_an n now acts) (pn_ns n) j i = pq_sn now acts n (j - 1) i := by
    intro j h1 h2 i hi
    by_cases q : j = 1
    · subst q
      rw [r1 i hi]
      rfl
    · obtain ⟨k, rfl⟩ : ∃ k, j = k + 1 := ⟨j - 1, by omega⟩
      exact r2 k (by omega) h2 i hi
  intro j hjn
  have hjn : j < pn_ns n := by omega
  by_cases q : j = 0
  · subst q
    rw [show ((K0 + 1) % 24 + 24 - 0) % 24 = (K0 + 1) % 24 by omega]
    refine ⟨hw', pq_wf_cg r1 hw, hv, fun i hi => ?_⟩
    rw [r1 i hi]
    exact hu i hi
  · have hjs : j - 1 < n := by unfold pn_ns at hjn; split at hjn <;> omega
    obtain ⟨a1, a2, a3, a4⟩ := hj (j - 1) (by omega)
    have ek : ((K0 + 1) % 24 + 24 - j) % 24 = (K0 + 24 - (j - 1)) % 24 := by omega
    have ef : (fun f => aw' f (((K0 + 1) % 24 + 24 - j) % 24)) = fun f => aw f ((K0 + 24 - (j - 1)) % 24) := by
      funext f
      rw [ek]
      exact hother f _ (by omega)
    rw [ef]
    refine ⟨pq_wf_cg (r3 j (by omega) (by omega)) a1, ?_, pq_av_cg (r3 j (by omega) (by omega)) a3, fun i hi => ?_⟩
    · rw [show j - 1 + 1 = j by omega] at a2
      exact pq_wf_cg (r2 j (by omega) (by omega)) a2
    · rw [r2 j (by omega) (by omega) i hi, pq_un_cg (r3 j (by omega) (by omega)) a1 a3 hi]
      have := a4 i hi
      rw [show j - 1 + 1 = j by omega] at this
      exact this
/-- the class begins an act -/
theorem pu_begin {N n K0 : Nat} {aw : Nat → Nat → Int32} {p1 p2 p3 : Int32} (hn : n ≤ 24) (hK : K0 < 24) : f_X4_begin N (nI n) (nI K0) aw p1 p2 p3 = some ((K0 + 1) % 24, nI (pn_ns n), nI ((K0 + 1) % 24), pq_aw (pq_aw (pq_aw aw 0 ((K0 + 1) % 24) p1) 1 ((K0 + 1) % 24) p2) 2 ((K0 + 1) % 24) p3) := by
  unfold f_X4_begin
  simp only [pu_j, pu_l]
  have es : (if 24 < nI n + 1 then (24 : Int32) else nI n + 1) = nI (pn_ns n) := by
    unfold pn_ns
    rw [nI_1, pu_lit 24]
    by_cases h : n = 24
    · subst h; rfl
    · rw [if_neg h, if_neg (by rw [nI_ltI (by omega) (by omega)]; omega)]
  rw [es, nI_1, pu_lit 24]
  have g : ∀ (k : Nat) (z : Option (Nat × Int32 × Int32 × (Nat → Nat → Int32))), k < 24 → pq_gn k 24 z = z := fun k z h => if_pos h
  have hk : (K0 + 1) % 24 < 24 := by omega
  by_cases h : 24 ≤ K0 + 1
  · rw [if_pos ((nI_leI (by omega) (by omega)).mpr h), show (0 : Int32) = nI ((K0 + 1) % 24) by rw [show K0 + 1 = 24 by omega]; rfl]
    rw [pu_gd hk (by decide), nI_clamp (by omega), g _ _ hk, g _ _ hk, g _ _ hk]
  · rw [if_neg (by rw [nI_leI (by omega) (by omega)]; exact h), show nI (K0 + 1) = nI ((K0 + 1) % 24) by rw [Nat.mod_eq_of_lt (by omega)]]
    rw [pu_gd hk (by decide), nI_clamp (by omega), g _ _ hk, g _ _ hk, g _ _ hk]
