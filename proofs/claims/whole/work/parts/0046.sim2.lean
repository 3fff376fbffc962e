/-! ===== the simple questions ===== -/
theorem pu_N : 10 < pq_N := by unfold pq_N; decide
theorem pu_ND : ∃ n, pq_N = n + 50000 := ⟨50000, rfl⟩
theorem pu_now {xI : Nat → Int32} {xA : Nat → Nat → Int32} {xL : Nat → Nat → Int64} {aw : Nat → Nat → Int32} {mI : Nat → Int32} {mA : Nat → Nat → Int32} {mL : Nat → Int64} (hR : pq_R xI xA xL aw mI mA mL) : (xI 10 = mA 6 2 ∧ xI 11 = mA 6 3 ∧ xI 12 = mA 6 4 ∧ xI 13 = mA 6 0 ∧ xI 14 = mA 6 1) ∧ (0 ≤ (mA 6 2).toInt ∧ 0 ≤ (mA 6 3).toInt ∧ 0 ≤ (mA 6 4).toInt) := by
  obtain ⟨⟨r0, r1, r2, r3, r4, -⟩, hw⟩ := hR.now
  have h := pu_nn hw
  exact ⟨⟨r0, r1, r2, r3, r4⟩, h.1.1, h.2.1.1, h.2.2.1.1⟩
/-- a party, a judge or a case that is there: the circuit in numbers -/
theorem pu_there {xI : Nat → Int32} {xA : Nat → Nat → Int32} {xL : Nat → Nat → Int64} {aw : Nat → Nat → Int32} {mI : Nat → Int32} {mA : Nat → Nat → Int32} {mL : Nat → Int64} (hR : pq_R xI xA xL aw mI mA mL) {k : Nat} (hk : k = 2 ∨ k = 3 ∨ k = 4) {v : Int32} (hv : 0 ≤ v.toInt ∧ v.toInt < (mA 6 k).toInt) : ∃ P J C X S, pn_W (mA 6) P J C X S ∧ pn_C (fun f => xI (10 + f)) (fun f => xA (18 + f)) (mA 6) P J C := by
  obtain ⟨hr, hw⟩ := hR.now
  obtain ⟨P, J, C, X, S, hW⟩ := pn_W.of (pu_wfOf hw hk hv)
  exact ⟨P, J, C, X, S, hW, pn_C.of hW hr⟩

theorem sim_trial {xI : Nat → Int32} {xA : Nat → Nat → Int32} {xL : Nat → Nat → Int64} {aw : Nat → Nat → Int32} {mI : Nat → Int32} {mA : Nat → Nat → Int32} {mL : Nat → Int64} (hR : pq_R xI xA xL aw mI mA mL) (p1 : Int32) (p2 : Int32) : ∃ (zc : Int32) (zm : Int32), f_X7_trial pq_N (xI 12) (xA 23) (xA 24) (xA 25) (xA 26) p1 p2 = some zc ∧ f_X8_trial pq_N (mA 6) p1 p2 = some zm ∧ zc = zm ∧ pq_R xI xA xL aw mI mA mL := by
  obtain ⟨⟨r0, r1, r2, r3, r4⟩, k2, k3, k4⟩ := pu_now hR
  unfold f_X7_trial f_X8_trial
  rw [r2, pu_hasCase, pu_cs, pu_isCase k4, pu_cs]
  by_cases hv : 0 ≤ p1.toInt ∧ p1.toInt < (mA 6 4).toInt
  · rw [pu_f1 hv, pu_f1 hv]
    obtain ⟨P, J, C, X, S, ⟨⟨p1', p2'⟩, ⟨j1, j2⟩, ⟨c1, c2⟩, x2, s2, ⟨eP, eJ, eC, eX, eS⟩, -⟩, ⟨-, h0, h1, h2, h3, h4, h5, h6, h7, h8⟩⟩ := pu_there hR (k := 4) (by omega) hv
    rw [eC, nI_toInt (by omega)] at hv
    obtain ⟨i, hi, ei⟩ := pu_of hv.1 hv.2
    subst ei
    simp (disch := omega) only [pu_lit 5, pu_lit 11, pu_lit 17, pu_lit 23, pu_lit 29, pu_lit 35, pu_lit 47, pu_lit 59, pu_lit 71, nI_add, pu_gd, nI_clamp]
    by_cases q0 : p2 = 0
    · rw [if_pos q0, if_pos q0]
      exact ⟨_, _, rfl, rfl, h5 i hi, hR⟩
    · rw [if_neg q0, if_neg q0]
      by_cases q1 : p2 = 1
      · rw [if_pos q1, if_pos q1]
        exact ⟨_, _, rfl, rfl, h6 i hi, hR⟩
      · rw [if_neg q1, if_neg q1]
        by_cases q2 : p2 = 2
        · rw [if_pos q2, if_pos q2]
          exact ⟨_, _, rfl, rfl, h7 i hi, hR⟩
        · rw [if_neg q2, if_neg q2]
          by_cases q3 : p2 = 3
          · rw [if_pos q3, if_pos q3]
            exact ⟨_, _, rfl, rfl, h8 i hi, hR⟩
          · rw [if_neg q3, if_neg q3]
            exact ⟨_, _, rfl, rfl, rfl, hR⟩
  · rw [pu_f0 hv, pu_f0 hv]
    exact ⟨_, _, rfl, rfl, rfl, hR⟩

theorem sim_judge {xI : Nat → Int32} {xA : Nat → Nat → Int32} {xL : Nat → Nat → Int64} {aw : Nat → Nat → Int32} {mI : Nat → Int32} {mA : Nat → Nat → Int32} {mL : Nat → Int64} (hR : pq_R xI xA xL aw mI mA mL) (p1 : Int32) (p2 : Int32) : ∃ (zc : Int32) (zm : Int32), f_X7_judge pq_N (xI 11) (xI 14) (xA 21) (xA 22) p1 p2 = some zc ∧ f_X8_judge pq_N (mA 6) p1 p2 = some zm ∧ zc = zm ∧ pq_R xI xA xL aw mI mA mL := by
  obtain ⟨⟨r0, r1, r2, r3, r4⟩, k2, k3, k4⟩ := pu_now hR
  unfold f_X7_judge f_X8_judge
  rw [r1, pu_hasJudge, pu_cs, pu_isJudge k3, pu_cs]
  by_cases hv : 0 ≤ p1.toInt ∧ p1.toInt < (mA 6 3).toInt
  · rw [pu_f1 hv, pu_f1 hv]
    obtain ⟨P, J, C, X, S, ⟨⟨p1', p2'⟩, ⟨j1, j2⟩, ⟨c1, c2⟩, x2, s2, ⟨eP, eJ, eC, eX, eS⟩, -⟩, ⟨-, h0, h1, h2, h3, h4, h5, h6, h7, h8⟩⟩ := pu_there hR (k := 3) (by omega) hv
    rw [eJ, nI_toInt (by omega)] at hv
    obtain ⟨i, hi, ei⟩ := pu_of hv.1 hv.2
    subst ei
    simp (disch := omega) only [pu_lit 5, pu_lit 11, pu_lit 17, pu_lit 23, pu_lit 29, pu_lit 35, pu_lit 47, pu_lit 59, pu_lit 71, nI_add, pu_gd, nI_clamp]
    by_cases q0 : p2 = 0
    · rw [if_pos q0, if_pos q0]
      exact ⟨_, _, rfl, rfl, h3 i hi, hR⟩
    · rw [if_neg q0, if_neg q0]
      by_cases q1 : p2 = 1
      · rw [if_pos q1, if_pos q1]
        exact ⟨_, _, rfl, rfl, h4 i hi, hR⟩
      · rw [if_neg q1, if_neg q1]
        by_cases q2 : p2 = 2
        · rw [if_pos q2, if_pos q2]
          rw [pu_lit 1, pu_gd (by decide) (by decide), nI_clamp (by decide), r4]
          split <;> exact ⟨_, _, rfl, rfl, rfl, hR⟩
        · rw [if_neg q2, if_neg q2]
          exact ⟨_, _, rfl, rfl, rfl, hR⟩
  · rw [pu_f0 hv, pu_f0 hv]
    exact ⟨_, _, rfl, rfl, rfl, hR⟩

theorem sim_party {xI : Nat → Int32} {xA : Nat → Nat → Int32} {xL : Nat → Nat → Int64} {aw : Nat → Nat → Int32} {mI : Nat → Int32} {mA : Nat → Nat → Int32} {mL : Nat → Int64} (hR : pq_R xI xA xL aw mI mA mL) (p1 : Int32) (p2 : Int32) : ∃ (zc : Int32) (zm : Int32), f_X7_party pq_N (xI 10) (xI 11) (xI 14) (xA 18) (xA 19) (xA 20) (xA 21) (xA 22) p1 p2 = some zc ∧ f_X8_party pq_N (mA 6) p1 p2 = some zm ∧ zc = zm ∧ pq_R xI xA xL aw mI mA mL := by
  obtain ⟨⟨r0, r1, r2, r3, r4⟩, k2, k3, k4⟩ := pu_now hR
  unfold f_X7_party f_X8_party
  rw [r0, pu_hasParty, pu_cs, pu_isParty k2, pu_cs]
  by_cases hv : 0 ≤ p1.toInt ∧ p1.toInt < (mA 6 2).toInt
  · rw [pu_f1 hv, pu_f1 hv]
    obtain ⟨P, J, C, X, S, ⟨⟨p1', p2'⟩, ⟨j1, j2⟩, ⟨c1, c2⟩, x2, s2, ⟨eP, eJ, eC, eX, eS⟩, -⟩, ⟨-, h0, h1, h2, h3, h4, h5, h6, h7, h8⟩⟩ := pu_there hR (k := 2) (by omega) hv
    rw [eP, nI_toInt (by omega)] at hv
    obtain ⟨i, hi, ei⟩ := pu_of hv.1 hv.2
    subst ei
    simp (disch := omega) only [pu_lit 5, pu_lit 11, pu_lit 17, pu_lit 23, pu_lit 29, pu_lit 35, pu_lit 47, pu_lit 59, pu_lit 71, nI_add, pu_gd, nI_clamp]
    by_cases q0 : p2 = 0
    · rw [if_pos q0, if_pos q0]
      exact ⟨_, _, rfl, rfl, h0 i hi, hR⟩
    · rw [if_neg q0, if_neg q0]
      by_cases q1 : p2 = 1
      · rw [if_pos q1, if_pos q1]
        exact ⟨_, _, rfl, rfl, h1 i hi, hR⟩
      · rw [if_neg q1, if_neg q1]
        by_cases q2 : p2 = 2
        · rw [if_pos q2, if_pos q2]
          exact ⟨_, _, rfl, rfl, h2 i hi, hR⟩
        · rw [if_neg q2, if_neg q2]
          by_cases q3 : p2 = 3
          · rw [if_pos q3, if_pos q3]
            unfold f_X1_namedBy
            simp (disch := omega) only [r1, r4, pu_lit 1, pu_gd, nI_clamp, eJ, eS]
            rw [pu_named8 pu_N eJ j1 j2 s2, pu_cs]
            rw [show xA 18 i = mA 6 (5 + i) from h0 i hi, pu_named1 (s := mA 6) pu_N eJ j1 j2 s2 h3 h4, pu_cs, pu_cs]
            exact ⟨_, _, rfl, rfl, rfl, hR⟩
          · rw [if_neg q3, if_neg q3]
            exact ⟨_, _, rfl, rfl, rfl, hR⟩
  · rw [pu_f0 hv, pu_f0 hv]
    exact ⟨_, _, rfl, rfl, rfl, hR⟩


theorem sim_finds {xI : Nat → Int32} {xA : Nat → Nat → Int32} {xL : Nat → Nat → Int64} {aw : Nat → Nat → Int32} {mI : Nat → Int32} {mA : Nat → Nat → Int32} {mL : Nat → Int64} (hR : pq_R xI xA xL aw mI mA mL) (p1 : Int32) (p2 : Int32) : ∃ (zc : Int32) (zm : Int32), f_X7_finds pq_N (xI 11) (xI 12) (xA 21) (xA 22) (xA 23) (xA 24) (xA 25) p1 p2 = some zc ∧ f_X8_finds pq_N (mA 6) p1 p2 = some zm ∧ zc = zm ∧ pq_R xI xA xL aw mI mA mL := by
  obtain ⟨⟨r0, r1, r2, r3, r4⟩, k2, k3, k4⟩ := pu_now hR
  unfold f_X7_finds f_X8_finds
  rw [r1, r2, pu_hasJudge, pu_cs, pu_isJudge k3, pu_cs]
  by_cases hv : 0 ≤ p1.toInt ∧ p1.toInt < (mA 6 3).toInt
  · rw [pu_f1 hv, pu_f1 hv, pu_hasCase, pu_cs, pu_isCase k4, pu_cs]
    by_cases hw : 0 ≤ p2.toInt ∧ p2.toInt < (mA 6 4).toInt
    · rw [pu_f1 hw, pu_f1 hw]
      obtain ⟨P, J, C, X, S, ⟨⟨p1', p2'⟩, ⟨j1, j2⟩, ⟨c1, c2⟩, x2, s2, ⟨eP, eJ, eC, eX, eS⟩, -⟩, ⟨-, h0, h1, h2, h3, h4, h5, h6, h7, h8⟩⟩ := pu_there hR (k := 3) (by omega) hv
      rw [eJ, nI_toInt (by omega)] at hv
      rw [eC, nI_toInt (by omega)] at hw
      obtain ⟨i, hi, ei⟩ := pu_of hv.1 hv.2
      obtain ⟨c, hc, ec⟩ := pu_of hw.1 hw.2
      subst ei
      subst ec
      rw [(pu_win (N := pq_N) (s := mA 6) (by omega) (by omega) (h3 i hi) (h4 i hi) (h5 c hc) (h6 c hc) (h7 c hc)).2, pu_cs, pu_lit 23, nI_add, pu_gd (by omega) (by decide), nI_clamp (by omega), pu_found (by omega) (by omega), pu_cs]
      exact ⟨_, _, rfl, rfl, rfl, hR⟩
    · rw [pu_f0 hw, pu_f0 hw]
      exact ⟨_, _, rfl, rfl, rfl, hR⟩
  · rw [pu_f0 hv, pu_f0 hv]
    exact ⟨_, _, rfl, rfl, rfl, hR⟩

theorem sim_names {xI : Nat → Int32} {xA : Nat → Nat → Int32} {xL : Nat → Nat → Int64} {aw : Nat → Nat → Int32} {mI : Nat → Int32} {mA : Nat → Nat → Int32} {mL : Nat → Int64} (hR : pq_R xI xA xL aw mI mA mL) (p1 : Int32) (p2 : Int32) : ∃ (zc : Int32) (zm : Int32), f_X7_names pq_N (xI 10) (xI 11) (xA 18) (xA 21) (xA 22) p1 p2 = some zc ∧ f_X8_names pq_N (mA 6) p1 p2 = some zm ∧ zc = zm ∧ pq_R xI xA xL aw mI mA mL := by
  obtain ⟨⟨r0, r1, r2, r3, r4⟩, k2, k3, k4⟩ := pu_now hR
  unfold f_X7_names f_X8_names
  rw [r0, r1, pu_hasParty, pu_cs, pu_isParty k2, pu_cs]
  by_cases hv : 0 ≤ p1.toInt ∧ p1.toInt < (mA 6 2).toInt
  · rw [pu_f1 hv, pu_f1 hv, pu_hasJudge, pu_cs, pu_isJudge k3, pu_cs]
    by_cases hw : 0 ≤ p2.toInt ∧ p2.toInt < (mA 6 3).toInt
    · rw [pu_f1 hw, pu_f1 hw]
      obtain ⟨P, J, C, X, S, ⟨⟨p1', p2'⟩, ⟨j1, j2⟩, ⟨c1, c2⟩, x2, s2, ⟨eP, eJ, eC, eX, eS⟩, -⟩, ⟨-, h0, h1, h2, h3, h4, h5, h6, h7, h8⟩⟩ := pu_there hR (k := 3) (by omega) hw
      rw [eP, nI_toInt (by omega)] at hv
      rw [eJ, nI_toInt (by omega)] at hw
      obtain ⟨i, hi, ei⟩ := pu_of hv.1 hv.2
      obtain ⟨j, hj, ej⟩ := pu_of hw.1 hw.2
      subst ei
      subst ej
      unfold f_X1_namedBy
      rw [pu_lit 5, nI_add, pu_gd (show 5 + i < 83 by omega) (by decide), nI_clamp (show 5 + i < 2 ^ 31 by omega), pu_gd (by omega) (by decide), nI_clamp (by omega), pu_named8 pu_N eJ j1 j2 hj, pu_cs, eJ]
      rw [show xA 18 i = mA 6 (5 + i) from h0 i hi, pu_named1 (s := mA 6) pu_N eJ j1 j2 hj h3 h4, pu_cs, pu_cs]
      exact ⟨_, _, rfl, rfl, rfl, hR⟩
    · rw [pu_f0 hw, pu_f0 hw]
      exact ⟨_, _, rfl, rfl, rfl, hR⟩
  · rw [pu_f0 hv, pu_f0 hv]
    exact ⟨_, _, rfl, rfl, rfl, hR⟩

theorem pu_under : ∀ (n : Nat) (k : Fin 6) (q : Fin 6), f_X7_isUnder (n + 10) (nI k.val) (nI q.val) = some (if k.val = q.val ∨ q.val = 0 ∨ (q.val = 1 ∧ k.val ≠ 4 ∧ k.val ≠ 0) ∨ (q.val = 2 ∧ k.val = 5) then 1 else 0) := by
  intro n k q
  match k, q with
  | ⟨0, _⟩, ⟨0, _⟩ => rfl
  | ⟨0, _⟩, ⟨1, _⟩ => rfl
  | ⟨0, _⟩, ⟨2, _⟩ => rfl
  | ⟨0, _⟩, ⟨3, _⟩ => rfl
  | ⟨0, _⟩, ⟨4, _⟩ => rfl
  | ⟨0, _⟩, ⟨5, _⟩ => rfl
  | ⟨1, _⟩, ⟨0, _⟩ => rfl
  | ⟨1, _⟩, ⟨1, _⟩ => rfl
  | ⟨1, _⟩, ⟨2, _⟩ => rfl
  | ⟨1, _⟩, ⟨3, _⟩ => rfl
  | ⟨1, _⟩, ⟨4, _⟩ => rfl
  | ⟨1, _⟩, ⟨5, _⟩ => rfl
  | ⟨2, _⟩, ⟨0, _⟩ => rfl
  | ⟨2, _⟩, ⟨1, _⟩ => rfl
  | ⟨2, _⟩, ⟨2, _⟩ => rfl
  | ⟨2, _⟩, ⟨3, _⟩ => rfl
  | ⟨2, _⟩, ⟨4, _⟩ => rfl
  | ⟨2, _⟩, ⟨5, _⟩ => rfl
  | ⟨3, _⟩, ⟨0, _⟩ => rfl
  | ⟨3, _⟩, ⟨1, _⟩ => rfl
  | ⟨3, _⟩, ⟨2, _⟩ => rfl
  | ⟨3, _⟩, ⟨3, _⟩ => rfl
  | ⟨3, _⟩, ⟨4, _⟩ => rfl
  | ⟨3, _⟩, ⟨5, _⟩ => rfl
  | ⟨4, _⟩, ⟨0, _⟩ => rfl
  | ⟨4, _⟩, ⟨1, _⟩ => rfl
  | ⟨4, _⟩, ⟨2, _⟩ => rfl
  | ⟨4, _⟩, ⟨3, _⟩ => rfl
  | ⟨4, _⟩, ⟨4, _⟩ => rfl
  | ⟨4, _⟩, ⟨5, _⟩ => rfl
  | ⟨5, _⟩, ⟨0, _⟩ => rfl
  | ⟨5, _⟩, ⟨1, _⟩ => rfl
  | ⟨5, _⟩, ⟨2, _⟩ => rfl
  | ⟨5, _⟩, ⟨3, _⟩ => rfl
  | ⟨5, _⟩, ⟨4, _⟩ => rfl
  | ⟨5, _⟩, ⟨5, _⟩ => rfl

theorem sim_as {xI : Nat → Int32} {xA : Nat → Nat → Int32} {xL : Nat → Nat → Int64} {aw : Nat → Nat → Int32} {mI : Nat → Int32} {mA : Nat → Nat → Int32} {mL : Nat → Int64} (hR : pq_R xI xA xL aw mI mA mL) (p1 : Int32) (p2 : Int32) : ∃ (zc : Int32) (zm : Int32), f_X7_as pq_N (xI 10) (xA 18) p1 p2 = some zc ∧ f_X8_as pq_N (mA 6) p1 p2 = some zm ∧ zc = zm ∧ pq_R xI xA xL aw mI mA mL := by
  obtain ⟨⟨r0, r1, r2, r3, r4⟩, k2, k3, k4⟩ := pu_now hR
  unfold f_X7_as f_X8_as
  rw [r0, pu_hasParty, pu_cs, pu_isParty k2, pu_cs]
  by_cases hv : 0 ≤ p1.toInt ∧ p1.toInt < (mA 6 2).toInt
  · rw [pu_f1 hv, pu_f1 hv, pu_in, pu_cs]
    have z0 : (0 : Int32).toInt = 0 := rfl
    have z5 : (5 : Int32).toInt = 5 := rfl
    rw [z0, z5]
    by_cases hq : 0 ≤ p2.toInt ∧ p2.toInt ≤ 5
    · rw [pu_f1 hq, if_neg (show ¬ p2 < 0 by rw [pu_lt, z0]; omega), if_pos (show p2 ≤ 5 by rw [pu_lei, z5]; omega)]
      obtain ⟨P, J, C, X, S, ⟨⟨p1', p2'⟩, ⟨j1, j2⟩, ⟨c1, c2⟩, x2, s2, ⟨eP, eJ, eC, eX, eS⟩, hk, -⟩, ⟨-, h0, h1, h2, h3, h4, h5, h6, h7, h8⟩⟩ := pu_there hR (k := 2) (by omega) hv
      rw [eP, nI_toInt (by omega)] at hv
      obtain ⟨i, hi, ei⟩ := pu_of hv.1 hv.2
      subst ei
      obtain ⟨q, hq6, eq⟩ := pu_of (n := 6) hq.1 (by omega)
      subst eq
      obtain ⟨k, hk5, ek⟩ := hk i hi
      rw [pu_lit 5, nI_add, pu_gd (show 5 + i < 83 by omega) (by decide), nI_clamp (show 5 + i < 2 ^ 31 by omega), pu_gd (by omega) (by decide), nI_clamp (by omega), show xA 18 i = mA 6 (5 + i) from h0 i hi, ek]
      obtain ⟨n, en⟩ : ∃ n, pq_N = n + 10 := ⟨99990, rfl⟩
      rw [en, pu_under n ⟨k, by omega⟩ ⟨q, hq6⟩, pu_cs]
      simp only [pu_l, pu_j]
      rcases (show k = 1 ∨ k = 2 ∨ k = 3 ∨ k = 4 ∨ k = 5 by omega) with rfl | rfl | rfl | rfl | rfl <;> rcases (show q = 0 ∨ q = 1 ∨ q = 2 ∨ q = 3 ∨ q = 4 ∨ q = 5 by omega) with rfl | rfl | rfl | rfl | rfl | rfl <;> exact ⟨_, _, rfl, rfl, rfl, hR⟩
    · rw [pu_f0 hq]
      refine ⟨-1, -1, ?_, rfl, rfl, hR⟩
      by_cases h1 : p2 < 0
      · rw [if_pos h1]
      · rw [if_neg h1, if_neg (show ¬ p2 ≤ 5 by rw [pu_lei, z5]; rw [pu_lt, z0] at h1; omega)]
  · rw [pu_f0 hv, pu_f0 hv]
    exact ⟨_, _, rfl, rfl, rfl, hR⟩
