/-! ===== contests: the class' row of judges, from the last case back ===== -/
def pm_g (p q w : Int32) : Int := if w = p then 1 else if w = q then -1 else 0
def pm_ga (s : Nat → Int32) (p q : Int32) (c j : Nat) (H : Nat → Int) (w : Int32) : Int := pm_g p q w + H (pm_n s j c w)
def pm_v1 (s : Nat → Int32) (p q : Int32) (c j : Nat) (H : Nat → Int) : Int := if pm_ow s c q = true then (if pm_ga s p q c j H (pn_op s c q) < pm_ga s p q c j H (pn_f s j (s (23 + j)) c) then pm_ga s p q c j H (pn_op s c q) else pm_ga s p q c j H (pn_f s j (s (23 + j)) c)) else pm_ga s p q c j H (pn_f s j (s (23 + j)) c)
def pm_v (s : Nat → Int32) (p q : Int32) (c j : Nat) (H : Nat → Int) : Int := if pm_ow s c p = true then (if pm_v1 s p q c j H < pm_ga s p q c j H (pn_op s c p) then pm_ga s p q c j H (pn_op s c p) else pm_v1 s p q c j H) else pm_v1 s p q c j H
/-- what p wins more than q in d cases from c on, the judge j sitting -/
def pm_V (s : Nat → Int32) (p q : Int32) : Nat → Nat → Nat → Int
  | 0, _, _ => 0
  | d + 1, c, j => pm_v s p q c j (pm_V s p q d (c + 1))
theorem pm_V_s (s : Nat → Int32) (p q : Int32) (d c j : Nat) : pm_V s p q (d + 1) c j = pm_v s p q c j (pm_V s p q d (c + 1)) := rfl
theorem pm_g_le (p q w : Int32) : -1 ≤ pm_g p q w ∧ pm_g p q w ≤ 1 := by
  unfold pm_g
  split
  · omega
  · split <;> omega
theorem pm_ga_le {s : Nat → Int32} {p q : Int32} {c j : Nat} {H : Nat → Int} {B : Int} (w : Int32) (h : ∀ i, -B ≤ H i ∧ H i ≤ B) : -(B + 1) ≤ pm_ga s p q c j H w ∧ pm_ga s p q c j H w ≤ B + 1 := by
  have h1 := pm_g_le p q w
  have h2 := h (pm_n s j c w)
  unfold pm_ga
  omega
theorem pm_v_le {s : Nat → Int32} {p q : Int32} {c j : Nat} {H : Nat → Int} {B : Int} (h : ∀ i, -B ≤ H i ∧ H i ≤ B) : -(B + 1) ≤ pm_v s p q c j H ∧ pm_v s p q c j H ≤ B + 1 := by
  have g1 := pm_ga_le (s := s) (p := p) (q := q) (c := c) (j := j) (pn_op s c p) h
  have g2 := pm_ga_le (s := s) (p := p) (q := q) (c := c) (j := j) (pn_op s c q) h
  have g3 := pm_ga_le (s := s) (p := p) (q := q) (c := c) (j := j) (pn_f s j (s (23 + j)) c) h
  have hv : -(B + 1) ≤ pm_v1 s p q c j H ∧ pm_v1 s p q c j H ≤ B + 1 := by
    unfold pm_v1
    split
    · split
      · exact g2
      · exact g3
    · exact g3
  unfold pm_v
  split
  · split
    · exact g1
    · exact hv
  · exact hv
theorem pm_V_le (s : Nat → Int32) (p q : Int32) : ∀ (d c j : Nat), -(d : Int) ≤ pm_V s p q d c j ∧ pm_V s p q d c j ≤ (d : Int)
  | 0, c, j => by
    show -((0 : Nat) : Int) ≤ 0 ∧ 0 ≤ ((0 : Nat) : Int)
    omega
  | d + 1, c, j => by
    have := pm_v_le (s := s) (p := p) (q := q) (c := c) (j := j) (H := pm_V s p q d (c + 1)) (B := (d : Int)) (fun i => pm_V_le s p q d (c + 1) i)
    rw [pm_V_s]
    omega
theorem pm_gain {N : Nat} {x : Nat → Int32} {a : Nat → Nat → Int32} {s here : Nat → Int32} {P J C X S j c : Nat} {p q : Int32} {H : Nat → Int} (hN : 10 < N) (hV : pn_V s P J C X S) (hC : pn_C x a s P J C) (hj : j < J) (hc : c < C) (hh : ∀ i, i < J → (here i).toInt = H i ∧ -100 ≤ H i ∧ H i ≤ 100) (w : Int32) : ∃ z, f_X3_gainOf N here (nI J) (a 0) (a 3) (a 4) (a 5) (a 6) p q (nI c) (nI j) w = some z ∧ z.toInt = pm_ga s p q c j H w := by
  have hn := pm_n_lt hV hj hc w
  obtain ⟨e1, e2, e3⟩ := hh _ hn
  have hJ6 := hV.2.1.2
  have key : ∀ y : Int32, (-1 ≤ y.toInt ∧ y.toInt ≤ 1) → ∃ z, (pq_c (f_X1_sitsAfter N (nI J) (a 0) (a 3) (a 4) (a 5) (a 6) (nI j) (nI c) w) (fun r_1 => pq_gd r_1 6 (some ((y + (here (r_1 : Int32).toNatClampNeg))))) : Option (Int32)) = some z ∧ z.toInt = y.toInt + H (pm_n s j c w) := by
    intro y hy
    rw [pm_sits hN hV hC hj hc, pu_cs, pu_gd (by omega) (by omega), nI_clamp (by omega)]
    exact ⟨_, rfl, by rw [pu_addi (by omega) (by omega) (by omega) (by omega), e1]⟩
  unfold f_X3_gainOf pm_ga pm_g
  rw [pu_j]
  by_cases h1 : w = p
  · rw [if_pos h1, if_pos h1]
    exact key 1 (by decide)
  · rw [if_neg h1, if_neg h1]
    by_cases h2 : w = q
    · rw [if_pos h2, if_pos h2]
      exact key (-1) (by decide)
    · rw [if_neg h2, if_neg h2]
      exact key 0 (by decide)
theorem pm_ct_in {N : Nat} {x : Nat → Int32} {a : Nat → Nat → Int32} {s here : Nat → Int32} {P J C X S c : Nat} {p q : Int32} {H : Nat → Int} {kL : Int32 → (Nat → Int32) → (Nat → Int32) → Option (Int32 × (Nat → Int32) × (Nat → Int32))} (hN : 10 < N) (hV : pn_V s P J C X S) (hC : pn_C x a s P J C) (hc : c < C) (hh : ∀ i, i < J → (here i).toInt = H i ∧ -100 ≤ H i ∧ H i ≤ 100) : ∀ (d j n : Nat) (th : Nat → Int32), j + d = J → d < n → (∀ i, i < j → (th i).toInt = pm_v s p q c i H) → ∃ r th', pq_w (fun _ _ => none) (f_X3_contest_L31 N (nI J) (a 0) (a 3) (a 4) (a 5) (a 6) (a 7) p q (nI c) here kL) n (nI j) th = kL (nI c + (-1)) r th' ∧ ∀ i, i < J → (r i).toInt = pm_v s p q c i H
  | 0, j, n, th, h1, h2, ht => by
    obtain ⟨n, rfl⟩ : ∃ t, n = t + 1 := ⟨n - 1, by omega⟩
    have hJ6 := hV.2.1.2
    rw [pu_w]
    unfold f_X3_contest_L31
    rw [if_pos (by rw [nI_leI (by omega) (by omega)]; omega), pm_move, pu_cs, pu_l]
    exact ⟨_, _, rfl, fun i hi => by rw [pu_cpy (by omega)]; exact ht i (by omega)⟩
  | d + 1, j, n, th, h1, h2, ht => by
    obtain ⟨n, rfl⟩ : ∃ t, n = t + 1 := ⟨n - 1, by omega⟩
    have hJ6 := hV.2.1.2
    have ih := pm_ct_in (kL := kL) (p := p) (q := q) hN hV hC hc hh d (j + 1) n
    rw [pu_w]
    generalize pq_w (fun _ _ => none) (f_X3_contest_L31 N (nI J) (a 0) (a 3) (a 4) (a 5) (a 6) (a 7) p q (nI c) here kL) n = kk at ih ⊢
    obtain ⟨z0, ez0, g0⟩ := pm_gain (p := p) (q := q) hN hV hC (show j < J by omega) hc hh (pn_f s j (s (23 + j)) c)
    obtain ⟨zq, ezq, gq⟩ := pm_gain (p := p) (q := q) hN hV hC (show j < J by omega) hc hh (pn_op s c q)
    obtain ⟨zp, ezp, gp⟩ := pm_gain (p := p) (q := q) hN hV hC (show j < J by omega) hc hh (pn_op s c p)
    unfold f_X3_contest_L31
    rw [if_neg (by rw [nI_leI (by omega) (by omega)]; omega), pm_wb hV hC (by omega) hc, pu_cs, ez0, pu_cs, pm_own hV hC hc, pu_cs, pu_j]
    have fin : ∀ v : Int32, v.toInt = pm_v s p q c j H → ∃ r th', (pq_gd (nI j) 6 (pq_l (upd th (nI j : Int32).toNatClampNeg v) (fun then_0_9 => pq_l (nI j + 1) (fun x6_10 => kk x6_10 then_0_9))) : Option (Int32 × (Nat → Int32) × (Nat → Int32))) = kL (nI c + (-1)) r th' ∧ ∀ i, i < J → (r i).toInt = pm_v s p q c i H := by
      intro v hv
      rw [pu_gd (by omega) (by omega), pu_l, pu_l, nI_1, nI_clamp (by omega)]
      refine ih _ (by omega) (by omega) (fun i hi => ?_)
      by_cases hij : i = j
      · subst hij
        rw [pu_us]
        exact hv
      · rw [pu_un hij]
        exact ht i (by omega)
    have mid : ∀ v : Int32, v.toInt = pm_v1 s p q c j H → ∃ r th', (pq_c (f_X1_isOwn N (a 5) (a 6) p (nI c)) (fun r_8 => pq_j (fun (x7_J131 : Int32) => (pq_gd (nI j) 6 (pq_l (upd th (nI j : Int32).toNatClampNeg x7_J131) (fun then_0_9 => pq_l (nI j + 1) (fun x6_10 => kk x6_10 then_0_9))) : Option (Int32 × (Nat → Int32) × (Nat → Int32)))) (fun kJ131 => (if r_8 = 0 then kJ131 v else pq_c (f_X1_opponentOf N (a 5) (a 6) p (nI c)) (fun r_11 => pq_c (f_X3_gainOf N here (nI J) (a 0) (a 3) (a 4) (a 5) (a 6) p q (nI c) (nI j) r_11) (fun r_12 => pq_l ((if v < r_12 then r_12 else v)) (fun x7_13 => kJ131 x7_13)))))) : Option (Int32 × (Nat → Int32) × (Nat → Int32))) = kL (nI c + (-1)) r th' ∧ ∀ i, i < J → (r i).toInt = pm_v s p q c i H := by
      intro v hv
      rw [pm_own hV hC hc, pu_cs, pu_j]
      by_cases ho : pm_ow s c p = true
      · rw [if_pos ho, if_neg (show ¬ (1 : Int32) = 0 by decide), pm_opp hV hC hc, pu_cs, ezp, pu_cs, pu_l]
        refine fin _ ?_
        unfold pm_v
        rw [if_pos ho, ← hv, ← gp]
        by_cases hl : v < zp
        · rw [if_pos hl, if_pos (pu_lt.mp hl)]
        · rw [if_neg hl, if_neg (fun h => hl (pu_lt.mpr h))]
      · rw [if_neg ho, if_pos (show (0 : Int32) = 0 from rfl)]
        refine fin _ ?_
        unfold pm_v
        rw [if_neg ho, hv]
    by_cases ho : pm_ow s c q = true
    · rw [if_pos ho, if_neg (show ¬ (1 : Int32) = 0 by decide), pm_opp hV hC hc, pu_cs, ezq, pu_cs, pu_l]
      refine mid _ ?_
      unfold pm_v1
      rw [if_pos ho, ← g0, ← gq]
      by_cases hl : zq < z0
      · rw [if_pos hl, if_pos (pu_lt.mp hl)]
      · rw [if_neg hl, if_neg (fun h => hl (pu_lt.mpr h))]
    · rw [if_neg ho, if_pos (show (0 : Int32) = 0 from rfl)]
      refine mid _ ?_
      unfold pm_v1
      rw [if_neg ho, g0]
theorem pm_ct_loop {N : Nat} {x : Nat → Int32} {a : Nat → Nat → Int32} {s : Nat → Int32} {P J C X S K : Nat} {p q : Int32} (hN : 20 < N) (hV : pn_V s P J C X S) (hC : pn_C x a s P J C) (hK : X + K ≤ C) : ∀ (m n : Nat) (here th : Nat → Int32), m ≤ K → m < n → (∀ i, i < J → (here i).toInt = pm_V s p q (K - m) (X + m) i) → ∃ z here' th', pq_w (fun _ _ _ => none) (f_X3_contest_L19 N (nI J) (nI X) (nI S) (a 0) (a 3) (a 4) (a 5) (a 6) (a 7) p q) n (nI (X + m) - 1) here th = some (z, here', th') ∧ z.toInt = pm_V s p q K X S
  | 0, n, here, th, h1, h2, hh => by
    obtain ⟨n, rfl⟩ : ∃ t, n = t + 1 := ⟨n - 1, by omega⟩
    have hJ6 := hV.2.1.2
    have hS := hV.2.2.2.2.1
    have hc := hV.2.2.1
    rw [pu_w]
    unfold f_X3_contest_L19
    rw [if_pos (by rw [pu_lt, pu_pred (by rw [nI_toInt (by omega)]; omega), nI_toInt (by omega), nI_toInt (by omega)]; omega), pu_gd (by omega) (by omega), nI_clamp (by omega)]
    exact ⟨_, _, _, rfl, hh S hS⟩
  | m + 1, n, here, th, h1, h2, hh => by
    obtain ⟨n, rfl⟩ : ∃ t, n = t + 1 := ⟨n - 1, by omega⟩
    have hJ6 := hV.2.1.2
    have hc := hV.2.2.1
    have ih := pm_ct_loop (p := p) (q := q) hN hV hC hK m n
    rw [pu_w]
    generalize pq_w (fun _ _ _ => none) (f_X3_contest_L19 N (nI J) (nI X) (nI S) (a 0) (a 3) (a 4) (a 5) (a 6) (a 7) p q) n = kk at ih ⊢
    have e : nI (X + (m + 1)) - 1 = nI (X + m) := nI_pred (X + m)
    unfold f_X3_contest_L19
    rw [e, if_neg (by rw [nI_ltI (by omega) (by omega)]; omega)]
    obtain ⟨r, th', er, hr⟩ := pm_ct_in (kL := kk) (p := p) (q := q) (H := pm_V s p q (K - (m + 1)) (X + (m + 1))) (c := X + m) (show 10 < N by omega) hV hC (by omega) (fun i hi => ⟨hh i hi, by have := pm_V_le s p q (K - (m + 1)) (X + (m + 1)) i; omega⟩) J 0 N th (by omega) (by omega) (fun i hi => absurd hi (by omega))
    rw [nI_0] at er
    rw [er, ← Int32.sub_eq_add_neg]
    refine ih r th' (by omega) (by omega) (fun i hi => ?_)
    rw [hr i hi, show K - m = (K - (m + 1)) + 1 by omega, pm_V_s]
    rfl
theorem pm_contest {N : Nat} {x : Nat → Int32} {a : Nat → Nat → Int32} {s : Nat → Int32} {P J C X S K : Nat} {p q : Int32} {here th : Nat → Int32} (hN : 20 < N) (hV : pn_V s P J C X S) (hC : pn_C x a s P J C) (hK : X + K ≤ C) : ∃ z here' th', f_X3_contest N here th (nI J) (nI X) (nI S) (a 0) (a 3) (a 4) (a 5) (a 6) (a 7) p q (nI K) = some (z, here', th') ∧ z.toInt = pm_V s p q K X S := by
  have hJ6 := hV.2.1.2
  have hc := hV.2.2.1
  unfold f_X3_contest
  rw [pu_fill (by omega) (by omega), pu_cs, pu_l, nI_add]
  refine pm_ct_loop hN hV hC hK K N _ th (by omega) (by omega) (fun i hi => ?_)
  rw [pn_fl_in (by omega), show K - K = 0 by omega]
  rfl
