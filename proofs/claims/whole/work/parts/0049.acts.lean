/-! ===== the acts ===== -/
theorem pu_vid {α : Type} {f : Nat → α} {k : Nat} : va_up f k (f k) = f := by
  funext j
  by_cases h : j = k
  · subst h; exact pu_vs
  · exact pu_vo h
theorem pu_gn {α : Type} {i n : Nat} {k : Option α} (h : i < n) : pq_gn i n k = k := if_pos h
theorem pu_N2 : 2000 < pq_N := by unfold pq_N; decide
theorem pu_as {w : Nat → Nat → Int32} {f k : Nat} {v : Int32} : pq_aw w f k v f k = v := if_pos ⟨rfl, rfl⟩
theorem pu_ao {w : Nat → Nat → Int32} {f f' k k' : Nat} {v : Int32} (h : f' ≠ f) : pq_aw w f k v f' k' = w f' k' := if_neg (fun e => h e.1)
theorem pu_ak {w : Nat → Nat → Int32} {f f' k k' : Nat} {v : Int32} (h : k' ≠ k) : pq_aw w f k v f' k' = w f' k' := if_neg (fun e => h e.2)
section PS
variable {xI xI' : Nat → Int32} {xA xA' : Nat → Nat → Int32} {xL xL' : Nat → Nat → Int64} {aw aw' : Nat → Nat → Int32} {mI mI' : Nat → Int32} {mA mA' : Nat → Nat → Int32} {mL mL' : Nat → Int64}
theorem pq_kA (hR : pq_R xI xA xL aw mI mA mL) (hI : ∀ k, (k < 10 ∨ k = 20 ∨ 25 ≤ k) → xI' k = xI k) (hA : ∀ k, (k < 18 ∨ k = 36) → xA' k = xA k) (h3 : mI' 3 = mI 3) (hM : ∀ k, (k < 2 ∨ k = 4 ∨ k = 9 ∨ k = 10) → mA' k = mA k) (hr : pq_rc (fun f => xI' (10 + f)) (fun f => xA' (18 + f)) (mA' 6)) (hw : pq_wf (mA' 6)) (hh : xI' 22 = mI' 12 ∧ pq_hi (xI' 22) (xI' 23) aw' (mA' 6) (mA' 11)) : pq_R xI' xA' xL aw' mI' mA' mL :=
  ⟨pq_kT hR (hI _ (by omega)) (hA _ (by omega)) h3 (hM _ (by omega)), ⟨hr, Or.inr hw⟩, pq_kI hR (fun k hk => hI _ (by omega)) (fun k hk => hA _ (by omega)) (hM _ (by omega)) (hM _ (by omega)), hh, pq_kS hR (fun k h1' h2' => hI _ (by omega)) (fun k hk => rfl) (hM _ (by omega)) (hM _ (by omega)) rfl⟩
theorem pu_hist (hR : pq_R xI xA xL aw mI mA mL) : ∃ n K0, n ≤ 24 ∧ K0 < 24 ∧ xI 22 = nI n ∧ xI 23 = nI K0 ∧ mI 12 = nI n ∧ pq_hi (nI n) (nI K0) aw (mA 6) (mA 11) := by
  obtain ⟨h1, h2⟩ := hR.hist
  obtain ⟨⟨a1, a2⟩, ⟨b1, b2⟩, -⟩ := id h2
  obtain ⟨n, hn, en⟩ := pu_le (n := 24) a1 (by omega)
  obtain ⟨K, hK, eK⟩ := pu_of (n := 24) b1 (by omega)
  refine ⟨n, K, hn, hK, en, eK, by rw [← h1, en], ?_⟩
  rw [← en, ← eK]
  exact h2
theorem pu_act (hR : pq_R xI xA xL aw mI mA mL) {n K0 : Nat} {t : Nat → Int32} (hn : n ≤ 24) (hK : K0 < 24) (hh : pq_hi (nI n) (nI K0) aw (mA 6) (mA 11)) (hw : pq_wf (mA 6)) (hwt : pq_wf t) (hr : pq_rc (fun f => xI' (10 + f)) (fun f => xA' (18 + f)) t)
    (hother : ∀ f k, k ≠ (K0 + 1) % 24 → aw' f k = aw f k) (hv : pq_av (fun f => aw' f ((K0 + 1) % 24)) t) (hu : ∀ i, i < 83 → mA 6 i = pq_un (fun f => aw' f ((K0 + 1) % 24)) t i)
    (hI : ∀ k, (k < 10 ∨ k = 20 ∨ 25 ≤ k) → xI' k = xI k) (hA : ∀ k, (k < 18 ∨ k = 36) → xA' k = xA k) (h3 : mI' 3 = mI 3) (hM : ∀ k, (k < 2 ∨ k = 4 ∨ k = 9 ∨ k = 10) → mA' k = mA k)
    (e22 : xI' 22 = nI (pn_ns n)) (e23 : xI' 23 = nI ((K0 + 1) % 24)) (m12 : mI' 12 = nI (pn_ns n)) (m6 : mA' 6 = t) (m11 : mA' 11 = pn_an n (mA 6) (mA 11)) : pq_R xI' xA' xL aw' mI' mA' mL := by
  refine pq_kA hR hI hA h3 hM (by rw [m6]; exact hr) (by rw [m6]; exact hwt) ⟨by rw [e22, m12], ?_⟩
  rw [e22, e23, m6, m11]
  exact pq_hi_push hn hK hh hw hwt hother hv hu
end PS
theorem pn_W_seat {s : Nat → Int32} {P J C X S q : Nat} (hW : pn_W s P J C X S) (hq : q < J) : pn_W (upd s 1 (nI q)) P J C X q := by
  obtain ⟨⟨p1, p2⟩, ⟨j1, j2⟩, ⟨c1, c2⟩, x2, s2, ⟨eP, eJ, eC, eX, eS⟩, hk, hg, hl, hf, hab, hw, hx1, hx2⟩ := hW
  have h : ∀ i, i ≠ 1 → upd s 1 (nI q) i = s i := fun i hi => pu_un hi
  refine ⟨⟨p1, p2⟩, ⟨j1, j2⟩, ⟨c1, c2⟩, x2, hq, ⟨by rw [h 2 (by omega)]; exact eP, by rw [h 3 (by omega)]; exact eJ, by rw [h 4 (by omega)]; exact eC, by rw [h 0 (by omega)]; exact eX, pu_us⟩, ?_, ?_, ?_, ?_, ?_, ?_, ?_, ?_⟩
  · intro i hi; rw [h _ (by omega)]; exact hk i hi
  · intro i hi; rw [h _ (by omega)]; exact hg i hi
  · intro i hi; rw [h _ (by omega)]; exact hl i hi
  · intro i hi; rw [h _ (by omega)]; exact hf i hi
  · intro i hi; rw [h _ (by omega), h _ (by omega)]; exact hab i hi
  · intro i hi; rw [h _ (by omega)]; exact hw i hi
  · intro i hi; rw [h _ (by omega), h _ (by omega), h _ (by omega)]; exact hx1 i hi
  · intro i hi hi2; rw [h _ (by omega)]; exact hx2 i hi hi2
theorem pn_W_lean {s : Nat → Int32} {P J C X S j l : Nat} (hW : pn_W s P J C X S) (hj : j < J) (hl9 : l ≤ 9) : pn_W (upd s (23 + j) (nI l)) P J C X S := by
  obtain ⟨⟨p1, p2⟩, ⟨j1, j2⟩, ⟨c1, c2⟩, x2, s2, ⟨eP, eJ, eC, eX, eS⟩, hk, hg, hl, hf, hab, hw, hx1, hx2⟩ := hW
  have h : ∀ i, i ≠ 23 + j → upd s (23 + j) (nI l) i = s i := fun i hi => pu_un hi
  refine ⟨⟨p1, p2⟩, ⟨j1, j2⟩, ⟨c1, c2⟩, x2, s2, ⟨by rw [h 2 (by omega)]; exact eP, by rw [h 3 (by omega)]; exact eJ, by rw [h 4 (by omega)]; exact eC, by rw [h 0 (by omega)]; exact eX, by rw [h 1 (by omega)]; exact eS⟩, ?_, ?_, ?_, ?_, ?_, ?_, ?_, ?_⟩
  · intro i hi; rw [h _ (by omega)]; exact hk i hi
  · intro i hi; rw [h _ (by omega)]; exact hg i hi
  · intro i hi
    by_cases q : i = j
    · subst q; exact ⟨l, hl9, pu_us⟩
    · rw [h _ (by omega)]; exact hl i hi
  · intro i hi; rw [h _ (by omega)]; exact hf i hi
  · intro i hi; rw [h _ (by omega), h _ (by omega)]; exact hab i hi
  · intro i hi; rw [h _ (by omega)]; exact hw i hi
  · intro i hi; rw [h _ (by omega), h _ (by omega), h _ (by omega)]; exact hx1 i hi
  · intro i hi hi2; rw [h _ (by omega)]; exact hx2 i hi hi2
theorem pn_W_grief {s : Nat → Int32} {P J C X S p g : Nat} (hW : pn_W s P J C X S) (hp : p < P) (hg20 : g ≤ 20) : pn_W (upd s (11 + p) (nI g)) P J C X S := by
  obtain ⟨⟨p1, p2⟩, ⟨j1, j2⟩, ⟨c1, c2⟩, x2, s2, ⟨eP, eJ, eC, eX, eS⟩, hk, hg, hl, hf, hab, hw, hx1, hx2⟩ := hW
  have h : ∀ i, i ≠ 11 + p → upd s (11 + p) (nI g) i = s i := fun i hi => pu_un hi
  refine ⟨⟨p1, p2⟩, ⟨j1, j2⟩, ⟨c1, c2⟩, x2, s2, ⟨by rw [h 2 (by omega)]; exact eP, by rw [h 3 (by omega)]; exact eJ, by rw [h 4 (by omega)]; exact eC, by rw [h 0 (by omega)]; exact eX, by rw [h 1 (by omega)]; exact eS⟩, ?_, ?_, ?_, ?_, ?_, ?_, ?_, ?_⟩
  · intro i hi; rw [h _ (by omega)]; exact hk i hi
  · intro i hi
    by_cases q : i = p
    · subst q; exact ⟨g, hg20, pu_us⟩
    · rw [h _ (by omega)]; exact hg i hi
  · intro i hi; rw [h _ (by omega)]; exact hl i hi
  · intro i hi; rw [h _ (by omega)]; exact hf i hi
  · intro i hi; rw [h _ (by omega), h _ (by omega)]; exact hab i hi
  · intro i hi; rw [h _ (by omega)]; exact hw i hi
  · intro i hi; rw [h _ (by omega), h _ (by omega), h _ (by omega)]; exact hx1 i hi
  · intro i hi hi2; rw [h _ (by omega)]; exact hx2 i hi hi2
set_option maxHeartbeats 1000000 in
theorem sim_seat {xI : Nat → Int32} {xA : Nat → Nat → Int32} {xL : Nat → Nat → Int64} {aw : Nat → Nat → Int32} {mI : Nat → Int32} {mA : Nat → Nat → Int32} {mL : Nat → Int64} (hR : pq_R xI xA xL aw mI mA mL) (p1 : Int32) : ∃ (zc : Int32 × Int32 × Int32 × Int32 × (Nat → Nat → Int32)) (zm : Int32 × Int32 × (Nat → Int32) × (Nat → Int32)), f_X7_seat pq_N (xI 22) (xI 23) (xI 11) (xI 14) aw p1 = some zc ∧ f_X8_seat pq_N (mI 12) (mA 6) (mA 11) p1 = some zm ∧ zc.1 = zm.1 ∧ pq_R (va_up (va_up (va_up xI 22 zc.2.1) 23 zc.2.2.1) 14 zc.2.2.2.1) xA xL zc.2.2.2.2 (va_up mI 12 zm.2.1) (va_up (va_up mA 6 zm.2.2.1) 11 zm.2.2.2) mL := by
  obtain ⟨⟨r0, r1, r2, r3, r4⟩, k2, k3, k4⟩ := pu_now hR
  have same : pq_R (va_up (va_up (va_up xI 22 (xI 22)) 23 (xI 23)) 14 (mA 6 1)) xA xL aw (va_up mI 12 (mI 12)) (va_up (va_up mA 6 (mA 6)) 11 (mA 11)) mL := by
    rw [← r4]; simp only [pu_vid]; exact hR
  unfold f_X7_seat f_X8_seat
  rw [r1, pu_hasJudge, pu_cs, pu_isJudge k3, pu_cs, r4]
  by_cases hv : 0 ≤ p1.toInt ∧ p1.toInt < (mA 6 3).toInt
  · rw [pu_f1 hv, pu_f1 hv]
    obtain ⟨P, J, C, X, S, hW, hC⟩ := pu_there hR (k := 3) (by omega) hv
    obtain ⟨n, K0, hn, hK, e22, e23, e12, hh⟩ := pu_hist hR
    obtain ⟨⟨p1', p2'⟩, ⟨j1, j2⟩, ⟨c1, c2⟩, x2, s2, ⟨eP, eJ, eC, eX, eS⟩, -⟩ := id hW
    rw [eJ, nI_toInt (by omega)] at hv
    obtain ⟨j, hj, ej⟩ := pu_of hv.1 hv.2
    subst ej
    rw [pq_gd_i (by decide), show (1 : Int32).toNatClampNeg = 1 from rfl, pu_l]
    by_cases q : mA 6 1 = nI j
    · rw [if_pos q, if_pos q]
      exact ⟨_, _, rfl, rfl, rfl, same⟩
    · rw [if_neg q, if_neg q, e22, e23, e12, pu_begin hn hK, pu_cs, pu_note pu_N2 hn, pu_cs]
      have hk : (K0 + 1) % 24 < 24 := by omega
      dsimp only
      rw [pu_gn hk, pu_l, pq_gd_i (by decide), pu_l]
      refine ⟨_, _, rfl, rfl, rfl, ?_⟩
      dsimp only
      obtain ⟨⟨q0, q1, q2, q3, q4⟩, h0, h1, h2, h3, h4, h5, h6, h7, h8⟩ := id hC
      have hW' := pn_W_seat hW hj
      refine pu_act hR (t := upd (mA 6) 1 (nI j)) hn hK hh hW.wf hW'.wf (pn_C.rc hW' ?_) ?_ ?_ ?_ ?_ ?_ ?_ ?_ ?_ ?_ ?_ ?_ ?_
      · have h : ∀ i, i ≠ 1 → upd (mA 6) 1 (nI j) i = mA 6 i := fun i hi => pu_un hi
        refine ⟨⟨q0, q1, q2, ?_, ?_⟩, ?_, ?_, ?_, ?_, ?_, ?_, ?_, ?_, ?_⟩
        · rw [h 0 (by omega)]; exact q3
        · rw [pu_us]; exact pu_vs
        · intro i hi; rw [h _ (by omega)]; exact h0 i hi
        · intro i hi; rw [h _ (by omega)]; exact h1 i hi
        · intro i hi; rw [h _ (by omega)]; exact h2 i hi
        · intro i hi; rw [h _ (by omega)]; exact h3 i hi
        · intro i hi; rw [h _ (by omega)]; exact h4 i hi
        · intro i hi; rw [h _ (by omega)]; exact h5 i hi
        · intro i hi; rw [h _ (by omega)]; exact h6 i hi
        · intro i hi; rw [h _ (by omega)]; exact h7 i hi
        · intro i hi; rw [h _ (by omega)]; exact h8 i hi
      · intro f k hk'
        rw [pu_ak hk', pu_ak hk', pu_ak hk', pu_ak hk']
      · refine Or.inr (Or.inr (Or.inr (Or.inl ?_)))
        simp (disch := omega) only [pu_ao, pu_as]
      · intro i hi
        unfold pq_un
        simp (disch := omega) only [pu_ao, pu_as]
        rw [if_neg (by decide), if_neg (by decide), if_neg (by decide), if_pos trivial]
        by_cases qi : i = 1
        · rw [if_pos qi, qi]
        · rw [if_neg qi, pu_un qi]
      · intro k hk'; simp (disch := omega) only [pu_vo]
      · intro k hk'; rfl
      · simp (disch := omega) only [pu_vo]
      · intro k hk'; simp (disch := omega) only [pu_vo]
      · simp (disch := omega) only [pu_vo, pu_vs]
      · simp (disch := omega) only [pu_vo, pu_vs]
      · simp (disch := omega) only [pu_vo, pu_vs]
      · simp (disch := omega) only [pu_vo, pu_vs]
      · simp (disch := omega) only [pu_vo, pu_vs]
  · rw [pu_f0 hv, pu_f0 hv]
    exact ⟨_, _, rfl, rfl, rfl, same⟩
set_option maxHeartbeats 1000000 in
theorem sim_lean {xI : Nat → Int32} {xA : Nat → Nat → Int32} {xL : Nat → Nat → Int64} {aw : Nat → Nat → Int32} {mI : Nat → Int32} {mA : Nat → Nat → Int32} {mL : Nat → Int64} (hR : pq_R xI xA xL aw mI mA mL) (p1 : Int32) (p2 : Int32) : ∃ (zc : Int32 × Int32 × Int32 × (Nat → Int32) × (Nat → Nat → Int32)) (zm : Int32 × Int32 × (Nat → Int32) × (Nat → Int32)), f_X7_lean pq_N (xI 22) (xI 23) (xI 11) (xA 21) aw p1 p2 = some zc ∧ f_X8_lean pq_N (mI 12) (mA 6) (mA 11) p1 p2 = some zm ∧ zc.1 = zm.1 ∧ pq_R (va_up (va_up xI 22 zc.2.1) 23 zc.2.2.1) (va_up xA 21 zc.2.2.2.1) xL zc.2.2.2.2 (va_up mI 12 zm.2.1) (va_up (va_up mA 6 zm.2.2.1) 11 zm.2.2.2) mL := by
  obtain ⟨⟨r0, r1, r2, r3, r4⟩, k2, k3, k4⟩ := pu_now hR
  have same : pq_R (va_up (va_up xI 22 (xI 22)) 23 (xI 23)) (va_up xA 21 (xA 21)) xL aw (va_up mI 12 (mI 12)) (va_up (va_up mA 6 (mA 6)) 11 (mA 11)) mL := by
    simp only [pu_vid]; exact hR
  unfold f_X7_lean f_X8_lean
  have z0 : (0 : Int32).toInt = 0 := rfl
  have z9 : (9 : Int32).toInt = 9 := rfl
  rw [r1, pu_hasJudge, pu_cs, pu_isJudge k3, pu_cs, pu_in, pu_cs, z0, z9]
  by_cases hv : 0 ≤ p1.toInt ∧ p1.toInt < (mA 6 3).toInt
  · rw [pu_f1 hv, pu_f1 hv]
    by_cases hl : 0 ≤ p2.toInt ∧ p2.toInt ≤ 9
    · rw [pu_f1 hl, if_neg (show ¬ p2 < 0 by rw [pu_lt, z0]; omega), if_pos (show p2 ≤ 9 by rw [pu_lei, z9]; omega)]
      obtain ⟨P, J, C, X, S, hW, hC⟩ := pu_there hR (k := 3) (by omega) hv
      obtain ⟨n, K0, hn, hK, e22, e23, e12, hh⟩ := pu_hist hR
      obtain ⟨⟨p1', p2'⟩, ⟨j1, j2⟩, ⟨c1, c2⟩, x2, s2, ⟨eP, eJ, eC, eX, eS⟩, -⟩ := id hW
      obtain ⟨⟨q0, q1, q2, q3, q4⟩, h0, h1, h2, h3, h4, h5, h6, h7, h8⟩ := id hC
      rw [eJ, nI_toInt (by omega)] at hv
      obtain ⟨j, hj, ej⟩ := pu_of hv.1 hv.2
      subst ej
      obtain ⟨l, hl9, el⟩ := pu_le (n := 9) hl.1 (by omega)
      subst el
      simp (disch := omega) only [pu_lit 23, nI_add, pu_gd, nI_clamp, pu_l]
      rw [show xA 21 j = mA 6 (23 + j) from h3 j hj]
      by_cases q : mA 6 (23 + j) = nI l
      · rw [if_pos q, if_pos q]
        exact ⟨_, _, rfl, rfl, rfl, same⟩
      · rw [if_neg q, if_neg q, e22, e23, e12, pu_begin hn hK, pu_cs, pu_note pu_N2 hn, pu_cs]
        have hk : (K0 + 1) % 24 < 24 := by omega
        dsimp only
        rw [pu_gn hk]
        refine ⟨_, _, rfl, rfl, rfl, ?_⟩
        dsimp only
        have hW' := pn_W_lean hW hj hl9
        refine pu_act hR (t := upd (mA 6) (23 + j) (nI l)) hn hK hh hW.wf hW'.wf (pn_C.rc hW' ?_) ?_ ?_ ?_ ?_ ?_ ?_ ?_ ?_ ?_ ?_ ?_ ?_
        · have h : ∀ i, i ≠ 23 + j → upd (mA 6) (23 + j) (nI l) i = mA 6 i := fun i hi => pu_un hi
          refine ⟨⟨q0, q1, q2, ?_, ?_⟩, ?_, ?_, ?_, ?_, ?_, ?_, ?_, ?_, ?_⟩
          · rw [h 0 (by omega)]; exact q3
          · rw [h 1 (by omega)]; exact q4
          · intro i hi; rw [h _ (by omega)]; exact h0 i hi
          · intro i hi; rw [h _ (by omega)]; exact h1 i hi
          · intro i hi; rw [h _ (by omega)]; exact h2 i hi
          · intro i hi
            show upd (xA 21) j (nI l) i = _
            by_cases qi : i = j
            · subst qi; rw [pu_us, pu_us]
            · rw [h _ (by omega), pu_un qi]; exact h3 i hi
          · intro i hi; rw [h _ (by omega)]; exact h4 i hi
          · intro i hi; rw [h _ (by omega)]; exact h5 i hi
          · intro i hi; rw [h _ (by omega)]; exact h6 i hi
          · intro i hi; rw [h _ (by omega)]; exact h7 i hi
          · intro i hi; rw [h _ (by omega)]; exact h8 i hi
        · intro f k hk'
          rw [pu_ak hk', pu_ak hk', pu_ak hk', pu_ak hk']
        · refine Or.inr (Or.inr (Or.inr (Or.inr ?_)))
          simp (disch := omega) only [pu_ao, pu_as]
          refine ⟨trivial, ?_⟩
          rw [pu_un (by omega), eJ, nI_toInt (by omega), nI_toInt (by omega)]
          omega
        · intro i hi
          unfold pq_un
          simp (disch := omega) only [pu_ao, pu_as]
          rw [if_neg (by decide), if_neg (by decide), if_neg (by decide), if_neg (by decide), nI_clamp (by omega)]
          by_cases qi : i = 23 + j
          · rw [if_pos qi, qi]
          · rw [if_neg qi, pu_un qi]
        · intro k hk'; simp (disch := omega) only [pu_vo]
        · intro k hk'; simp (disch := omega) only [pu_vo]
        · simp (disch := omega) only [pu_vo]
        · intro k hk'; simp (disch := omega) only [pu_vo]
        · simp (disch := omega) only [pu_vo, pu_vs]
        · simp (disch := omega) only [pu_vo, pu_vs]
        · simp (disch := omega) only [pu_vo, pu_vs]
        · simp (disch := omega) only [pu_vo, pu_vs]
        · simp (disch := omega) only [pu_vo, pu_vs]
    · rw [pu_f0 hl]
      by_cases hl0 : p2 < 0
      · rw [if_pos hl0]
        exact ⟨_, _, rfl, rfl, rfl, same⟩
      · rw [if_neg hl0, if_neg (show ¬ p2 ≤ 9 by rw [pu_lt, z0] at hl0; rw [pu_lei, z9]; omega)]
        exact ⟨_, _, rfl, rfl, rfl, same⟩
  · rw [pu_f0 hv, pu_f0 hv]
    exact ⟨_, _, rfl, rfl, rfl, same⟩
theorem pu_three {g : Nat} (h : g ≤ 20) : (if nI g - 3 < 0 then (0 : Int32) else nI g - 3) = nI (g - 3) ∧ (if nI g ≤ 3 then (0 : Int32) else nI g - 3) = nI (g - 3) := by
  by_cases h3 : g ≤ 3
  · rcases (show g = 0 ∨ g = 1 ∨ g = 2 ∨ g = 3 by omega) with rfl | rfl | rfl | rfl <;> exact ⟨rfl, rfl⟩
  · rw [pu_lit 3, pk_sub (by omega), if_neg (nI_pos (by omega)), if_neg (by rw [nI_leI (by omega) (by omega)]; exact h3)]
    exact ⟨rfl, rfl⟩
set_option maxHeartbeats 1000000 in
theorem sim_soothe {xI : Nat → Int32} {xA : Nat → Nat → Int32} {xL : Nat → Nat → Int64} {aw : Nat → Nat → Int32} {mI : Nat → Int32} {mA : Nat → Nat → Int32} {mL : Nat → Int64} (hR : pq_R xI xA xL aw mI mA mL) (p1 : Int32) : ∃ (zc : Int32 × Int32 × Int32 × (Nat → Int32) × (Nat → Nat → Int32)) (zm : Int32 × Int32 × (Nat → Int32) × (Nat → Int32)), f_X7_soothe pq_N (xI 22) (xI 23) (xI 10) (xA 19) aw p1 = some zc ∧ f_X8_soothe pq_N (mI 12) (mA 6) (mA 11) p1 = some zm ∧ zc.1 = zm.1 ∧ pq_R (va_up (va_up xI 22 zc.2.1) 23 zc.2.2.1) (va_up xA 19 zc.2.2.2.1) xL zc.2.2.2.2 (va_up mI 12 zm.2.1) (va_up (va_up mA 6 zm.2.2.1) 11 zm.2.2.2) mL := by
  obtain ⟨⟨r0, r1, r2, r3, r4⟩, k2, k3, k4⟩ := pu_now hR
  have same : pq_R (va_up (va_up xI 22 (xI 22)) 23 (xI 23)) (va_up xA 19 (xA 19)) xL aw (va_up mI 12 (mI 12)) (va_up (va_up mA 6 (mA 6)) 11 (mA 11)) mL := by
    simp only [pu_vid]; exact hR
  unfold f_X7_soothe f_X8_soothe
  rw [r0, pu_hasParty, pu_cs, pu_isParty k2, pu_cs]
  by_cases hv : 0 ≤ p1.toInt ∧ p1.toInt < (mA 6 2).toInt
  · rw [pu_f1 hv, pu_f1 hv]
    obtain ⟨P, J, C, X, S, hW, hC⟩ := pu_there hR (k := 2) (by omega) hv
    obtain ⟨n, K0, hn, hK, e22, e23, e12, hh⟩ := pu_hist hR
    obtain ⟨⟨p1', p2'⟩, ⟨j1, j2⟩, ⟨c1, c2⟩, x2, s2, ⟨eP, eJ, eC, eX, eS⟩, hkk, hg, -⟩ := id hW
    obtain ⟨⟨q0, q1, q2, q3, q4⟩, h0, h1, h2, h3, h4, h5, h6, h7, h8⟩ := id hC
    rw [eP, nI_toInt (by omega)] at hv
    obtain ⟨p, hp, ep⟩ := pu_of hv.1 hv.2
    subst ep
    obtain ⟨g, hg20, eg⟩ := hg p hp
    simp (disch := omega) only [pu_lit 11, nI_add, pu_gd, nI_clamp, pu_l, pu_j]
    rw [show xA 19 p = mA 6 (11 + p) from h1 p hp]
    by_cases q : mA 6 (11 + p) = 0
    · rw [if_pos q, if_pos q]
      exact ⟨_, _, rfl, rfl, rfl, same⟩
    · rw [if_neg q, if_neg q, e22, e23, e12, pu_begin hn hK, pu_cs, pu_note pu_N2 hn, pu_cs]
      have hk : (K0 + 1) % 24 < 24 := by omega
      dsimp only
      rw [pu_gn hk]
      obtain ⟨t1, t2⟩ := pu_three hg20
      rw [eg, t1]
      have em : (if nI g ≤ 3 then (some (upd (mA 6) (11 + p) 0 (11 + p), nI (pn_ns n), upd (mA 6) (11 + p) 0, pn_an n (mA 6) (mA 11)) : Option (Int32 × Int32 × (Nat → Int32) × (Nat → Int32))) else some (upd (mA 6) (11 + p) (nI g - 3) (11 + p), nI (pn_ns n), upd (mA 6) (11 + p) (nI g - 3), pn_an n (mA 6) (mA 11))) = some (nI (g - 3), nI (pn_ns n), upd (mA 6) (11 + p) (nI (g - 3)), pn_an n (mA 6) (mA 11)) := by
        rw [← t2]
        split <;> rw [pu_us]
      rw [em, pu_us]
      refine ⟨_, _, rfl, rfl, rfl, ?_⟩
      dsimp only
      have hW' := pn_W_grief (g := g - 3) hW hp (by omega)
      refine pu_act hR (t := upd (mA 6) (11 + p) (nI (g - 3))) hn hK hh hW.wf hW'.wf (pn_C.rc hW' ?_) ?_ ?_ ?_ ?_ ?_ ?_ ?_ ?_ ?_ ?_ ?_ ?_
      · have h : ∀ i, i ≠ 11 + p → upd (mA 6) (11 + p) (nI (g - 3)) i = mA 6 i := fun i hi => pu_un hi
        refine ⟨⟨q0, q1, q2, ?_, ?_⟩, ?_, ?_, ?_, ?_, ?_, ?_, ?_, ?_, ?_⟩
        · rw [h 0 (by omega)]; exact q3
        · rw [h 1 (by omega)]; exact q4
        · intro i hi; rw [h _ (by omega)]; exact h0 i hi
        · intro i hi
          show upd (xA 19) p (nI (g - 3)) i = _
          by_cases qi : i = p
          · subst qi; rw [pu_us, pu_us]
          · rw [h _ (by omega), pu_un qi]; exact h1 i hi
        · intro i hi; rw [h _ (by omega)]; exact h2 i hi
        · intro i hi; rw [h _ (by omega)]; exact h3 i hi
        · intro i hi; rw [h _ (by omega)]; exact h4 i hi
        · intro i hi; rw [h _ (by omega)]; exact h5 i hi
        · intro i hi; rw [h _ (by omega)]; exact h6 i hi
        · intro i hi; rw [h _ (by omega)]; exact h7 i hi
        · intro i hi; rw [h _ (by omega)]; exact h8 i hi
      · intro f k hk'
        rw [pu_ak hk', pu_ak hk', pu_ak hk', pu_ak hk']
      · refine Or.inr (Or.inr (Or.inl ?_))
        simp (disch := omega) only [pu_ao, pu_as]
        refine ⟨trivial, ?_⟩
        rw [pu_un (by omega), eP, nI_toInt (by omega), nI_toInt (by omega)]
        omega
      · intro i hi
        unfold pq_un
        simp (disch := omega) only [pu_ao, pu_as]
        rw [if_neg (by decide), if_neg (by decide), if_pos trivial, nI_clamp (by omega)]
        by_cases qi : i = 11 + p
        · rw [if_pos qi, qi, eg]
        · rw [if_neg qi, pu_un qi]
      · intro k hk'; simp (disch := omega) only [pu_vo]
      · intro k hk'; simp (disch := omega) only [pu_vo]
      · simp (disch := omega) only [pu_vo]
      · intro k hk'; simp (disch := omega) only [pu_vo]
      · simp (disch := omega) only [pu_vo, pu_vs]
      · simp (disch := omega) only [pu_vo, pu_vs]
      · simp (disch := omega) only [pu_vo, pu_vs]
      · simp (disch := omega) only [pu_vo, pu_vs]
      · simp (disch := omega) only [pu_vo, pu_vs]
  · rw [pu_f0 hv, pu_f0 hv]
    exact ⟨_, _, rfl, rfl, rfl, same⟩
