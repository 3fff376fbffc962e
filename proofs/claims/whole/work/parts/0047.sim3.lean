/-! ===== count ===== -/
def pn_su (g : Nat → Int32) : Nat → Int32
  | 0 => 0
  | n + 1 => pn_su g n + g n
theorem pn_su_cg {g g' : Nat → Int32} : ∀ {n : Nat}, (∀ i, i < n → g i = g' i) → pn_su g n = pn_su g' n
  | 0, _ => rfl
  | n + 1, h => by
    show pn_su g n + g n = pn_su g' n + g' n
    rw [pn_su_cg (fun i hi => h i (by omega)), h n (by omega)]
theorem pu_all1_loop {N : Nat} {a1 : Nat → Int32} {P : Nat} (hP : P ≤ 6) : ∀ (d i n : Nat), i + d = P → d < n → pq_w (fun _ _ => none) (f_X1_allGrievance_L4 N (nI P) a1) n (pn_su a1 i) (nI i) = some (pn_su a1 P)
  | 0, i, n, h1, h2 => by
    obtain ⟨n, rfl⟩ : ∃ q, n = q + 1 := ⟨n - 1, by omega⟩
    rw [pu_w]
    unfold f_X1_allGrievance_L4
    simp (disch := omega) only [nI_leI]
    rw [if_pos (by omega), show i = P by omega]
  | d + 1, i, n, h1, h2 => by
    obtain ⟨n, rfl⟩ : ∃ q, n = q + 1 := ⟨n - 1, by omega⟩
    have ih := pu_all1_loop (N := N) (a1 := a1) hP d (i + 1) n (by omega) (by omega)
    rw [pu_w]
    generalize pq_w (fun _ _ => none) (f_X1_allGrievance_L4 N (nI P) a1) n = kk at ih ⊢
    unfold f_X1_allGrievance_L4
    simp (disch := omega) only [nI_leI, pu_gd, nI_clamp, pu_l, nI_1]
    rw [if_neg (by omega)]
    exact ih
theorem pu_all8_loop {N : Nat} {s : Nat → Int32} {P : Nat} (hP : P ≤ 6) (eP : s 2 = nI P) : ∀ (d i n : Nat), i + d = P → d < n → pq_w (fun _ _ => none) (f_X8_griefs_L4 N s) n (pn_su (fun i => s (11 + i)) i) (nI i) = some (pn_su (fun i => s (11 + i)) P)
  | 0, i, n, h1, h2 => by
    obtain ⟨n, rfl⟩ : ∃ q, n = q + 1 := ⟨n - 1, by omega⟩
    rw [pu_w]
    unfold f_X8_griefs_L4
    simp (disch := omega) only [pu_lit 2, pu_gd, nI_clamp, eP, nI_leI]
    rw [if_pos (by omega), show i = P by omega]
  | d + 1, i, n, h1, h2 => by
    obtain ⟨n, rfl⟩ : ∃ q, n = q + 1 := ⟨n - 1, by omega⟩
    have ih := pu_all8_loop (N := N) (s := s) hP eP d (i + 1) n (by omega) (by omega)
    rw [pu_w]
    generalize pq_w (fun _ _ => none) (f_X8_griefs_L4 N s) n = kk at ih ⊢
    unfold f_X8_griefs_L4
    simp (disch := omega) only [pu_lit 2, pu_lit 11, nI_add, pu_gd, nI_clamp, eP, nI_leI, pu_l, nI_1]
    rw [if_neg (by omega)]
    exact ih
def pn_ju (s : Nat → Int32) (c : Nat) : Bool := decide (s (71 + c) = if s (59 + c) < 5 then s (47 + c) else s (35 + c))
def pn_jc (s : Nat → Int32) : Nat → Int32
  | 0 => 0
  | n + 1 => if pn_ju s n then pn_jc s n + 1 else pn_jc s n
theorem pn_jc_s (s : Nat → Int32) (n : Nat) : pn_jc s (n + 1) = if pn_ju s n then pn_jc s n + 1 else pn_jc s n := rfl
theorem pu_isJust {N : Nat} {s : Nat → Int32} {c : Nat} (hc : c < 12) : f_X8_isJust N s (nI c) = some (if pn_ju s c = true then 1 else 0) := by
  unfold f_X8_isJust pn_ju
  simp (disch := omega) only [pu_lit 71, pu_lit 59, pu_lit 47, pu_lit 35, nI_add, pu_gd, nI_clamp, pu_j, pu_b0, pu_b1, decide_eq_true_eq]
  by_cases h : s (59 + c) < 5
  · rw [if_pos h, if_pos h]
    split <;> rfl
  · rw [if_neg h, if_neg h]
    split <;> rfl
theorem pu_jus8_loop {N : Nat} {s : Nat → Int32} {X : Nat} (hX : X ≤ 12) (eX : s 0 = nI X) : ∀ (d i n : Nat), i + d = X → d < n → pq_w (fun _ _ => none) (f_X8_justOnes_L4 N s) n (pn_jc s i) (nI i) = some (pn_jc s X)
  | 0, i, n, h1, h2 => by
    obtain ⟨n, rfl⟩ : ∃ q, n = q + 1 := ⟨n - 1, by omega⟩
    rw [pu_w]
    unfold f_X8_justOnes_L4
    simp (disch := omega) only [pu_lit 0, pu_gd, nI_clamp, eX, nI_leI]
    rw [if_pos (by omega), show i = X by omega]
  | d + 1, i, n, h1, h2 => by
    obtain ⟨n, rfl⟩ : ∃ q, n = q + 1 := ⟨n - 1, by omega⟩
    have ih := pu_jus8_loop (N := N) (s := s) hX eX d (i + 1) n (by omega) (by omega)
    rw [pu_w]
    generalize pq_w (fun _ _ => none) (f_X8_justOnes_L4 N s) n = kk at ih ⊢
    unfold f_X8_justOnes_L4
    rw [show (0 : Int32).toNatClampNeg = 0 from rfl, eX, pq_gd_i (by decide), if_neg (by rw [nI_leI (by omega) (by omega)]; omega), pu_isJust (by omega), pu_cs]
    simp only [pu_j, pu_l, nI_1]
    rw [pn_jc_s] at ih
    by_cases h : pn_ju s i = true
    · rw [if_pos h] at ih
      rw [pu_f1 h]
      exact ih
    · rw [if_neg h] at ih
      rw [pu_f0 h, Int32.add_zero]
      exact ih
theorem pu_jus1_loop {N : Nat} {a5 a6 a7 a8 : Nat → Int32} {s : Nat → Int32} {X : Nat} (hX : X ≤ 12) (h5 : ∀ i, i < X → a5 i = s (35 + i)) (h6 : ∀ i, i < X → a6 i = s (47 + i)) (h7 : ∀ i, i < X → a7 i = s (59 + i)) (h8 : ∀ i, i < X → a8 i = s (71 + i)) : ∀ (d i n : Nat), i + d = X → d < n → pq_w (fun _ _ => none) (f_X1_justlyWon_L4 N (nI X) a5 a6 a7 a8) n (pn_jc s i) (nI i) = some (pn_jc s X)
  | 0, i, n, h1, h2 => by
    obtain ⟨n, rfl⟩ : ∃ q, n = q + 1 := ⟨n - 1, by omega⟩
    rw [pu_w]
    unfold f_X1_justlyWon_L4
    simp (disch := omega) only [nI_leI]
    rw [if_pos (by omega), show i = X by omega]
  | d + 1, i, n, h1, h2 => by
    obtain ⟨n, rfl⟩ : ∃ q, n = q + 1 := ⟨n - 1, by omega⟩
    have ih := pu_jus1_loop (N := N) (a5 := a5) (a6 := a6) (a7 := a7) (a8 := a8) hX h5 h6 h7 h8 d (i + 1) n (by omega) (by omega)
    rw [pu_w]
    generalize pq_w (fun _ _ => none) (f_X1_justlyWon_L4 N (nI X) a5 a6 a7 a8) n = kk at ih ⊢
    unfold f_X1_justlyWon_L4 f_X1_justWinner
    simp (disch := omega) only [nI_leI, pu_gd, nI_clamp, pu_j, pu_l, nI_1, h5 i (by omega), h6 i (by omega), h7 i (by omega), h8 i (by omega)]
    rw [if_neg (by omega)]
    rw [pn_jc_s] at ih
    unfold pn_ju at ih
    simp only [decide_eq_true_eq] at ih
    by_cases h : s (59 + i) < 5
    · rw [if_pos h] at ih ⊢
      rw [pu_cs]
      by_cases q : s (71 + i) = s (47 + i)
      · rw [if_pos q] at ih ⊢
        exact ih
      · rw [if_neg q] at ih ⊢
        exact ih
    · rw [if_neg h] at ih ⊢
      rw [pu_cs]
      by_cases q : s (71 + i) = s (35 + i)
      · rw [if_pos q] at ih ⊢
        exact ih
      · rw [if_neg q] at ih ⊢
        exact ih

theorem sim_count {xI : Nat → Int32} {xA : Nat → Nat → Int32} {xL : Nat → Nat → Int64} {aw : Nat → Nat → Int32} {mI : Nat → Int32} {mA : Nat → Nat → Int32} {mL : Nat → Int64} (hR : pq_R xI xA xL aw mI mA mL) (p1 : Int32) : ∃ (zc : Int32) (zm : Int32), f_X7_count pq_N (xI 20) (xI 22) (xI 10) (xI 11) (xI 12) (xI 13) (xI 14) (xA 19) (xA 23) (xA 24) (xA 25) (xA 26) p1 = some zc ∧ f_X8_count pq_N (mI 3) (mI 12) (mA 6) p1 = some zm ∧ zc = zm ∧ pq_R xI xA xL aw mI mA mL := by
  obtain ⟨⟨r0, r1, r2, r3, r4⟩, k2, k3, k4⟩ := pu_now hR
  obtain ⟨t1, -, -⟩ := hR.tape
  have hh := hR.hist.1
  have h5 : ∃ z, f_X1_allGrievance pq_N (mA 6 2) (xA 19) = some z ∧ f_X8_griefs pq_N (mA 6) = some z := by
    obtain ⟨hr, hw⟩ := hR.now
    rcases hw with ⟨n0, n1, n2, n3, n4⟩ | hw
    · obtain ⟨n, en⟩ : ∃ n, pq_N = n + 1 := ⟨99999, rfl⟩
      refine ⟨0, ?_, ?_⟩
      · unfold f_X1_allGrievance
        rw [en, pu_w]
        unfold f_X1_allGrievance_L4
        rw [n2, if_pos (by decide)]
      · unfold f_X8_griefs
        rw [en, pu_w]
        unfold f_X8_griefs_L4
        rw [show (2 : Int32).toNatClampNeg = 2 from rfl, n2, pq_gd_i (by decide), if_pos (by decide)]
    · obtain ⟨P, J, C, X, S, hW⟩ := pn_W.of hw
      obtain ⟨-, h0, h1, h2, h3, h4, h5, h6, h7, h8⟩ := pn_C.of hW hr
      obtain ⟨⟨p1', p2'⟩, ⟨j1, j2⟩, ⟨c1, c2⟩, x2, s2, ⟨eP, eJ, eC, eX, eS⟩, -⟩ := hW
      refine ⟨pn_su (fun i => mA 6 (11 + i)) P, ?_, pu_all8_loop p2' eP P 0 pq_N (by omega) (by have := pu_N; omega)⟩
      rw [eP, ← pn_su_cg (g := xA 19) (fun i hi => h1 i hi)]
      exact pu_all1_loop p2' P 0 pq_N (by omega) (by have := pu_N; omega)
  have h6 : ∃ z, f_X1_justlyWon pq_N (mA 6 0) (xA 23) (xA 24) (xA 25) (xA 26) = some z ∧ f_X8_justOnes pq_N (mA 6) = some z := by
    obtain ⟨hr, hw⟩ := hR.now
    obtain ⟨n, en⟩ : ∃ n, pq_N = n + 20 := ⟨99980, rfl⟩
    rcases hw with ⟨n0, n1, n2, n3, n4⟩ | hw
    · refine ⟨0, ?_, ?_⟩
      · unfold f_X1_justlyWon
        rw [en, pu_w]
        unfold f_X1_justlyWon_L4
        rw [n0, if_pos (by decide)]
      · unfold f_X8_justOnes
        rw [en, pu_w]
        unfold f_X8_justOnes_L4
        rw [show (0 : Int32).toNatClampNeg = 0 from rfl, n0, pq_gd_i (by decide), if_pos (by decide)]
    · obtain ⟨P, J, C, X, S, hW⟩ := pn_W.of hw
      obtain ⟨-, h0, h1, h2, h3, h4, h5, h6, h7, h8⟩ := pn_C.of hW hr
      obtain ⟨⟨p1', p2'⟩, ⟨j1, j2⟩, ⟨c1, c2⟩, x2, s2, ⟨eP, eJ, eC, eX, eS⟩, -⟩ := hW
      refine ⟨pn_jc (mA 6) X, ?_, pu_jus8_loop (by omega) eX X 0 pq_N (by omega) (by omega)⟩
      rw [eX]
      exact pu_jus1_loop (s := mA 6) (by omega) (fun i hi => h5 i (by omega)) (fun i hi => h6 i (by omega)) (fun i hi => h7 i (by omega)) (fun i hi => h8 i (by omega)) X 0 pq_N (by omega) (by omega)
  obtain ⟨z5, e5, e5'⟩ := h5
  obtain ⟨z6, e6, e6'⟩ := h6
  unfold f_X7_count f_X8_count
  rw [r0, r1, r2, r3, r4, t1, hh, e5, e5', e6, e6']
  simp only [pu_cs, show (2 : Int32).toNatClampNeg = 2 from rfl, show (3 : Int32).toNatClampNeg = 3 from rfl, show (4 : Int32).toNatClampNeg = 4 from rfl, show (0 : Int32).toNatClampNeg = 0 from rfl, show (1 : Int32).toNatClampNeg = 1 from rfl, pq_gd_i (i := 2) (n := 83) (by decide), pq_gd_i (i := 3) (n := 83) (by decide), pq_gd_i (i := 4) (n := 83) (by decide), pq_gd_i (i := 0) (n := 83) (by decide), pq_gd_i (i := 1) (n := 83) (by decide)]
  by_cases q0 : p1 = 0
  · rw [if_pos q0]
    exact ⟨_, _, rfl, rfl, rfl, hR⟩
  · rw [if_neg q0]
    by_cases q1 : p1 = 1
    · rw [if_pos q1]
      exact ⟨_, _, rfl, rfl, rfl, hR⟩
    · rw [if_neg q1]
      by_cases q2 : p1 = 2
      · rw [if_pos q2]
        exact ⟨_, _, rfl, rfl, rfl, hR⟩
      · rw [if_neg q2]
        by_cases q3 : p1 = 3
        · rw [if_pos q3]
          exact ⟨_, _, rfl, rfl, rfl, hR⟩
        · rw [if_neg q3]
          by_cases q4 : p1 = 4
          · rw [if_pos q4]
            exact ⟨_, _, rfl, rfl, rfl, hR⟩
          · rw [if_neg q4]
            by_cases q5 : p1 = 5
            · rw [if_pos q5]
              exact ⟨_, _, rfl, rfl, rfl, hR⟩
            · rw [if_neg q5]
              by_cases q6 : p1 = 6
              · rw [if_pos q6]
                exact ⟨_, _, rfl, rfl, rfl, hR⟩
              · rw [if_neg q6]
                by_cases q7 : p1 = 7
                · rw [if_pos q7]
                  exact ⟨_, _, rfl, rfl, rfl, hR⟩
                · rw [if_neg q7]
                  by_cases q8 : p1 = 8
                  · rw [if_pos q8]
                    exact ⟨_, _, rfl, rfl, rfl, hR⟩
                  · rw [if_neg q8]
                    exact ⟨_, _, rfl, rfl, rfl, hR⟩
