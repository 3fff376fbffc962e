/-! ===== leans ===== -/
def pn_P (pl : Nat → Int32) (Y : Nat → Nat) (v k : Nat) : Bool := decide ((if pl k < nI v then 1 else 0) = Y k)
theorem pu_lo_in {N n j v : Nat} {f g a4 a5 a6 a7 pl : Nat → Int32} {Y : Nat → Nat} {x3 : Int32} {kL5 : Int32 → Int32 → Option Int32} (hn : n ≤ 10) (hv : v ≤ 9) (hpl : ∀ k, k < n → f_X1_pleaBefore N a4 a5 a6 a7 (nI j) (f k) = some (pl k)) (hg : ∀ k, k < n → g k = nI (Y k) ∧ Y k < 2) : ∀ (d k m : Nat), k + d = n → d < m → pq_w (fun _ _ => none) (f_X2_leansOf_L18 N (nI n) f g a4 a5 a6 a7 (nI j) x3 (nI v) kL5) m (pn_i (pn_al (pn_P pl Y v) k)) (nI k) = kL5 (if pn_al (pn_P pl Y v) n then x3 ||| ((1 : Int32) <<< (nI v &&& 31)) else x3) (nI (v + 1))
  | 0, k, m, h1, h2 => by
    obtain ⟨m, rfl⟩ : ∃ t, m = t + 1 := ⟨m - 1, by omega⟩
    rw [pu_w]
    unfold f_X2_leansOf_L18
    rw [if_pos (by rw [nI_leI (by omega) (by omega)]; omega), show k = n by omega]
    simp only [pu_j, pu_l, nI_1]
    cases pn_al (pn_P pl Y v) n
    · rw [if_pos (show pn_i false = 0 from rfl)]; rfl
    · rw [if_neg (show ¬ pn_i true = 0 by decide)]; rfl
  | d + 1, k, m, h1, h2 => by
    obtain ⟨m, rfl⟩ : ∃ t, m = t + 1 := ⟨m - 1, by omega⟩
    have ih := pu_lo_in (x3 := x3) (kL5 := kL5) hn hv hpl hg d (k + 1) m (by omega) (by omega)
    rw [pu_w]
    generalize pq_w (fun _ _ => none) (f_X2_leansOf_L18 N (nI n) f g a4 a5 a6 a7 (nI j) x3 (nI v) kL5) m = kk at ih ⊢
    unfold f_X2_leansOf_L18
    rw [if_neg (by rw [nI_leI (by omega) (by omega)]; omega), pu_gd (show k < 10 by omega) (by omega), nI_clamp (by omega), hpl k (by omega), pu_cs]
    simp only [pu_j, pu_l, nI_1]
    rw [pn_al_s] at ih
    obtain ⟨eg, hY⟩ := hg k (by omega)
    simp (disch := omega) only [pu_gd, nI_clamp, eg]
    cases hal : pn_al (pn_P pl Y v) k
    · rw [hal, Bool.false_and] at ih
      simp only [pn_i_f, if_true]
      rw [ite_self]
      exact ih
    · rw [hal, Bool.true_and] at ih
      simp only [pn_i_t, show ¬ (1 : Int32) = 0 by decide, if_false]
      rw [show pn_P pl Y v k = decide ((if pl k < nI v then 1 else 0) = Y k) from rfl] at ih
      by_cases hp : pl k < nI v
      · rw [if_pos hp] at ih ⊢
        rcases (show Y k = 0 ∨ Y k = 1 by omega) with e | e
        · rw [e] at ih ⊢
          rw [if_neg (show ¬ (1 : Int32) = nI 0 by decide)]
          exact ih
        · rw [e] at ih ⊢
          rw [if_pos (show (1 : Int32) = nI 1 from rfl)]
          exact ih
      · rw [if_neg hp] at ih ⊢
        rcases (show Y k = 0 ∨ Y k = 1 by omega) with e | e
        · rw [e] at ih ⊢
          rw [if_pos (show (0 : Int32) = nI 0 from rfl)]
          exact ih
        · rw [e] at ih ⊢
          rw [if_neg (show ¬ (0 : Int32) = nI 1 by decide)]
          exact ih
theorem pu_lo {N n j : Nat} {f g a4 a5 a6 a7 pl : Nat → Int32} {Y : Nat → Nat} (hN : 20 < N) (hn : n ≤ 10) (hpl : ∀ k, k < n → f_X1_pleaBefore N a4 a5 a6 a7 (nI j) (f k) = some (pl k)) (hg : ∀ k, k < n → g k = nI (Y k) ∧ Y k < 2) : ∀ (d v m : Nat), v + d = 10 → d < m → pq_w (fun _ _ => none) (f_X2_leansOf_L5 N (nI n) f g a4 a5 a6 a7 (nI j)) m (nI (pn_bm (fun v => pn_al (pn_P pl Y v) n) v)) (nI v) = some (nI (pn_bm (fun v => pn_al (pn_P pl Y v) n) 10))
  | 0, v, m, h1, h2 => by
    obtain ⟨m, rfl⟩ : ∃ t, m = t + 1 := ⟨m - 1, by omega⟩
    rw [pu_w]
    unfold f_X2_leansOf_L5
    rw [if_pos (by rw [pu_lit 9, nI_ltI (by omega) (by omega)]; omega), show v = 10 by omega]
  | d + 1, v, m, h1, h2 => by
    obtain ⟨m, rfl⟩ : ∃ t, m = t + 1 := ⟨m - 1, by omega⟩
    have ih := pu_lo hN hn hpl hg d (v + 1) m (by omega) (by omega)
    rw [pu_w]
    generalize pq_w (fun _ _ => none) (f_X2_leansOf_L5 N (nI n) f g a4 a5 a6 a7 (nI j)) m = kk at ih ⊢
    unfold f_X2_leansOf_L5
    rw [if_neg (by rw [pu_lit 9, nI_ltI (by omega) (by omega)]; omega)]
    refine (pu_lo_in (v := v) hn (by omega) hpl hg n 0 N (by omega) (by omega)).trans ?_
    rw [← pn_bm_or (q := fun v => pn_al (pn_P pl Y v) n) (by omega)]
    exact ih
theorem pu_lb_in {N n j v o : Nat} {s pl : Nat → Int32} {it : Nat → Int64} {Y : Nat → Nat} {x3 : Int32} {kL5 : Int32 → Int32 → Option Int32} (hn : n ≤ 10) (ho : o + 2 * n ≤ 96) (hv : v ≤ 9) (hpl : ∀ k, k < n → f_X8_isForBy N s (nI j) (nI v) (it (o + 2 * k)).toInt32 = some (if pl k < nI v then 0 else 1)) (hg : ∀ k, k < n → (it (o + 2 * k + 1)).toInt = (Y k : Int) ∧ Y k < 2) : ∀ (d k m : Nat), k + d = n → d < m → pq_w (fun _ _ => none) (f_X8_leansBy_L19 N it s (nI j) (nI o) (nI n) x3 (nI v) kL5) m (pn_i (pn_al (pn_P pl Y v) k)) (nI k) = kL5 (if pn_al (pn_P pl Y v) n then x3 ||| ((1 : Int32) <<< (nI v &&& 31)) else x3) (nI (v + 1))
  | 0, k, m, h1, h2 => by
    obtain ⟨m, rfl⟩ : ∃ t, m = t + 1 := ⟨m - 1, by omega⟩
    rw [pu_w]
    unfold f_X8_leansBy_L19
    rw [if_pos (by rw [nI_leI (by omega) (by omega)]; omega), show k = n by omega]
    simp only [pu_j, pu_l, nI_1]
    cases pn_al (pn_P pl Y v) n
    · rw [if_pos (show pn_i false = 0 from rfl), Int32.or_zero]; rfl
    · rw [if_neg (show ¬ pn_i true = 0 by decide)]; rfl
  | d + 1, k, m, h1, h2 => by
    obtain ⟨m, rfl⟩ : ∃ t, m = t + 1 := ⟨m - 1, by omega⟩
    have ih := pu_lb_in (x3 := x3) (kL5 := kL5) hn ho hv hpl hg d (k + 1) m (by omega) (by omega)
    rw [pu_w]
    generalize pq_w (fun _ _ => none) (f_X8_leansBy_L19 N it s (nI j) (nI o) (nI n) x3 (nI v) kL5) m = kk at ih ⊢
    unfold f_X8_leansBy_L19
    rw [if_neg (by rw [nI_leI (by omega) (by omega)]; omega)]
    obtain ⟨eg, hY⟩ := hg k (by omega)
    simp (disch := omega) only [pu_lit 2, pk_mul, nI_add, nI_clamp, pu_gd, pu_j, pu_l, nI_1]
    rw [hpl k (by omega), pu_cs]
    rw [pn_al_s] at ih
    cases hal : pn_al (pn_P pl Y v) k
    · rw [hal, Bool.false_and] at ih
      rw [if_pos (show pn_i false = 0 from rfl)]
      exact ih
    · rw [hal, Bool.true_and] at ih
      rw [if_neg (show ¬ pn_i true = 0 by decide)]
      rw [show pn_P pl Y v k = decide ((if pl k < nI v then 1 else 0) = Y k) from rfl] at ih
      rcases (show Y k = 0 ∨ Y k = 1 by omega) with e | e
      · rw [if_pos (show lg_cmp (it (o + 2 * k + 1)) 0 = 0 from pu_ceq.mpr (by rw [eg, e]; rfl))]
        rw [e] at ih
        by_cases hp : pl k < nI v
        · rw [if_pos hp] at ih ⊢
          rw [if_neg (show ¬ (0 : Int32) = 1 by decide)]
          exact ih
        · rw [if_neg hp] at ih ⊢
          rw [if_pos rfl]
          exact ih
      · rw [if_neg (show ¬ lg_cmp (it (o + 2 * k + 1)) 0 = 0 from fun h => by rw [pu_ceq, eg, e] at h; omega)]
        rw [e] at ih
        by_cases hp : pl k < nI v
        · rw [if_pos hp] at ih ⊢
          rw [if_pos rfl]
          exact ih
        · rw [if_neg hp] at ih ⊢
          rw [if_neg (show ¬ (1 : Int32) = 0 by decide)]
          exact ih
theorem pu_lb {N n j o : Nat} {s pl : Nat → Int32} {it : Nat → Int64} {Y : Nat → Nat} (hN : 20 < N) (hn : n ≤ 10) (ho : o + 2 * n ≤ 96) (hpl : ∀ v, v ≤ 9 → ∀ k, k < n → f_X8_isForBy N s (nI j) (nI v) (it (o + 2 * k)).toInt32 = some (if pl k < nI v then 0 else 1)) (hg : ∀ k, k < n → (it (o + 2 * k + 1)).toInt = (Y k : Int) ∧ Y k < 2) : ∀ (d v m : Nat), v + d = 10 → d < m → pq_w (fun _ _ => none) (f_X8_leansBy_L6 N it s (nI j) (nI o) (nI n)) m (nI (pn_bm (fun v => pn_al (pn_P pl Y v) n) v)) (nI v) = some (nI (pn_bm (fun v => pn_al (pn_P pl Y v) n) 10))
  | 0, v, m, h1, h2 => by
    obtain ⟨m, rfl⟩ : ∃ t, m = t + 1 := ⟨m - 1, by omega⟩
    rw [pu_w]
    unfold f_X8_leansBy_L6
    rw [if_pos (by rw [pu_lit 9, nI_ltI (by omega) (by omega)]; omega), show v = 10 by omega]
  | d + 1, v, m, h1, h2 => by
    obtain ⟨m, rfl⟩ : ∃ t, m = t + 1 := ⟨m - 1, by omega⟩
    have ih := pu_lb hN hn ho hpl hg d (v + 1) m (by omega) (by omega)
    rw [pu_w]
    generalize pq_w (fun _ _ => none) (f_X8_leansBy_L6 N it s (nI j) (nI o) (nI n)) m = kk at ih ⊢
    unfold f_X8_leansBy_L6
    rw [if_neg (by rw [pu_lit 9, nI_ltI (by omega) (by omega)]; omega)]
    refine (pu_lb_in (v := v) hn ho (by omega) (hpl v (by omega)) hg n 0 N (by omega) (by omega)).trans ?_
    rw [← pn_bm_or (q := fun v => pn_al (pn_P pl Y v) n) (by omega)]
    exact ih
/-- the leans in the set before which a plea of pl finds for the plaintiff -/
def pn_ye (q : Nat → Bool) (pl : Int32) : Nat → Bool := fun v => q v && !decide (pl < nI v)
def pn_Wl (q : Nat → Bool) (pl : Int32) : Nat := if pn_cn (pn_ye q pl) 10 < pn_cn q 10 - pn_cn (pn_ye q pl) 10 then pn_cn q 10 - pn_cn (pn_ye q pl) 10 else pn_cn (pn_ye q pl) 10
theorem pn_ye_le {q : Nat → Bool} {pl : Int32} : pn_cn (pn_ye q pl) 10 ≤ pn_cn q 10 := by
  apply pn_cn_mono
  intro k hk h
  unfold pn_ye at h
  rw [Bool.and_eq_true] at h
  exact h.1
theorem pn_Wl_le {q : Nat → Bool} {pl : Int32} : pn_Wl q pl ≤ 10 := by
  have h1 := pn_cn_le q 10
  have h2 := pn_cn_le (pn_ye q pl) 10
  unfold pn_Wl
  split <;> omega
theorem pu_gp_loop {N : Nat} {q : Nat → Bool} {pl : Int32} : ∀ (d i m : Nat), i + d = 10 → d < m → pq_w (fun _ _ => none) (f_X2_greaterPart_L4 N pl (nI (pn_bm q 10))) m (nI (pn_cn (pn_ye q pl) i)) (nI i) = some (nI (pn_Wl q pl)) := by
  have hM := pn_bm_lt q 10
  have hjb : pn_jb (nI (pn_bm q 10)) = nI (pn_cn q 10) := by
    have e := pn_jb_1024 ⟨pn_bm q 10, hM⟩
    rw [e]
    congr 1
    apply pn_cn_cg
    intro i hi
    dsimp only
    rw [pn_bm_bit q 10 i hi]
    cases q i <;> rfl
  have h10 := pn_cn_le q 10
  have fin : ∀ x : Nat, x = pn_cn (pn_ye q pl) 10 → (some (if nI x < (nI (pn_cn q 10) - nI x) then (nI (pn_cn q 10) - nI x) else nI x) : Option Int32) = some (nI (pn_Wl q pl)) := by
    intro x hx
    subst hx
    have hle := pn_ye_le (q := q) (pl := pl)
    rw [pk_sub hle]
    unfold pn_Wl
    by_cases h : pn_cn (pn_ye q pl) 10 < pn_cn q 10 - pn_cn (pn_ye q pl) 10
    · rw [if_pos h, if_pos ((nI_ltI (by omega) (by omega)).mpr h)]
    · rw [if_neg h, if_neg (by rw [nI_ltI (by omega) (by omega)]; exact h)]
  intro d
  induction d with
  | zero =>
    intro i m h1 h2
    obtain ⟨m, rfl⟩ : ∃ t, m = t + 1 := ⟨m - 1, by omega⟩
    rw [pu_w]
    unfold f_X2_greaterPart_L4
    rw [pu_j, if_pos (by rw [pu_lit 9, nI_ltI (by omega) (by omega)]; omega), pu_jb, pu_cs, hjb]
    exact fin _ (by rw [show i = 10 by omega])
  | succ d ihd =>
    intro i m h1 h2
    obtain ⟨m, rfl⟩ : ∃ t, m = t + 1 := ⟨m - 1, by omega⟩
    have ih := ihd (i + 1) m (by omega) (by omega)
    rw [pu_w]
    generalize pq_w (fun _ _ => none) (f_X2_greaterPart_L4 N pl (nI (pn_bm q 10))) m = kk at ih ⊢
    unfold f_X2_greaterPart_L4
    rw [pu_j, if_neg (by rw [pu_lit 9, nI_ltI (by omega) (by omega)]; omega)]
    by_cases hp : pl < nI i
    · rw [if_pos hp, pu_jb, pu_cs, hjb]
      refine fin _ (pn_cn_end (by omega) ?_).symm
      intro k hk hk2
      unfold pn_ye
      have : pl < nI k := by
        rw [pu_lt, nI_toInt (by omega)] at hp ⊢
        omega
      rw [decide_eq_true this]
      cases q k <;> rfl
    · rw [if_neg hp, pu_l, pu_l, pu_bitN (by omega) (by omega), pn_bm_bit q 10 i (by omega), nI_add, nI_1]
      have e : pn_cn (pn_ye q pl) i + (if q i then 1 else 0) = pn_cn (pn_ye q pl) (i + 1) := by
        rw [pn_cn_s]
        unfold pn_ye
        rw [decide_eq_false hp]
        cases q i <;> rfl
      rw [e]
      exact ih
theorem pu_gp {N : Nat} {q : Nat → Bool} {pl : Int32} (hN : 20 < N) : f_X2_greaterPart N pl (nI (pn_bm q 10)) = some (nI (pn_Wl q pl)) := by
  unfold f_X2_greaterPart
  exact pu_gp_loop 10 0 N (by omega) (by omega)
theorem pu_ct_loop {N j C : Nat} {a4 a5 a6 a7 pl : Nat → Int32} {q : Nat → Bool} (hN : 20 < N) (hC : C ≤ 12) (hq : pn_bm q 10 ≠ 0) (hpl : ∀ c, c < C → f_X1_pleaBefore N a4 a5 a6 a7 (nI j) (nI c) = some (pl c)) : ∀ (d c m : Nat), c + d = C → d < m → pq_w (fun _ _ _ => none) (f_X2_caseToTry_L10 N (nI C) a4 a5 a6 a7 (nI j) (nI (pn_bm q 10))) m (pn_e (pn_mb (fun c => pn_Wl q (pl c)) c)) (pn_mv (fun c => pn_Wl q (pl c)) 0 (pn_mb (fun c => pn_Wl q (pl c)) c)) (nI c) = some (pn_e (pn_mb (fun c => pn_Wl q (pl c)) C))
  | 0, c, m, h1, h2 => by
    obtain ⟨m, rfl⟩ : ∃ t, m = t + 1 := ⟨m - 1, by omega⟩
    rw [pu_w]
    unfold f_X2_caseToTry_L10
    rw [if_pos (by rw [nI_leI (by omega) (by omega)]; omega), show c = C by omega]
  | d + 1, c, m, h1, h2 => by
    obtain ⟨m, rfl⟩ : ∃ t, m = t + 1 := ⟨m - 1, by omega⟩
    have ih := pu_ct_loop hN hC hq hpl d (c + 1) m (by omega) (by omega)
    have hM := pn_bm_lt q 10
    rw [pu_w]
    generalize pq_w (fun _ _ _ => none) (f_X2_caseToTry_L10 N (nI C) a4 a5 a6 a7 (nI j) (nI (pn_bm q 10))) m = kk at ih ⊢
    unfold f_X2_caseToTry_L10
    rw [if_neg (by rw [nI_leI (by omega) (by omega)]; omega), if_neg (by rw [pu_lit 0, nI_eq (by omega) (by omega)]; exact hq), hpl c (by omega), pu_cs, pu_gp hN, pu_cs]
    simp only [pu_j, pu_l, nI_1]
    rw [pn_mb_s] at ih
    cases e : pn_mb (fun c => pn_Wl q (pl c)) c with
    | none =>
      rw [e] at ih
      rw [if_pos (show pn_e none = -4 from rfl)]
      exact ih
    | some b =>
      rw [e] at ih
      dsimp only at ih
      have hb := pn_mb_lt _ _ _ e
      rw [if_neg (show ¬ pn_e (some b) = -4 from pu_ne4 (by omega))]
      have w1 := pn_Wl_le (q := q) (pl := pl c)
      have w2 := pn_Wl_le (q := q) (pl := pl b)
      by_cases g : pn_Wl q (pl c) < pn_Wl q (pl b)
      · rw [if_pos g] at ih
        rw [if_neg (show ¬ pn_mv (fun c => pn_Wl q (pl c)) 0 (some b) ≤ nI (pn_Wl q (pl c)) from by unfold pn_mv; dsimp only; rw [nI_leI (by omega) (by omega)]; omega)]
        exact ih
      · rw [if_neg g] at ih
        rw [if_pos (show pn_mv (fun c => pn_Wl q (pl c)) 0 (some b) ≤ nI (pn_Wl q (pl c)) from by unfold pn_mv; dsimp only; rw [nI_leI (by omega) (by omega)]; omega)]
        exact ih
theorem pu_bc_in {N j c : Nat} {s : Nat → Int32} {q : Nat → Bool} {pl x3 x4 : Int32} {kL10 : Int32 → Int32 → Int32 → Option Int32} (hN : 20 < N) (hc : c < 12) (hpl : ∀ v, v ≤ 9 → f_X8_isForBy N s (nI j) (nI v) (nI c) = some (if pl < nI v then 0 else 1)) : ∀ (d i m : Nat), i + d = 10 → d < m → pq_w (fun _ _ => none) (f_X8_bestCase_L31 N s (nI j) (nI (pn_bm q 10)) x3 x4 (nI c) kL10) m (nI (pn_cn (pn_ye q pl) i)) (nI i) = if x4 ≤ nI (pn_Wl q pl) then kL10 x3 x4 (nI (c + 1)) else kL10 (nI c) (nI (pn_Wl q pl)) (nI (c + 1))
  | 0, i, m, h1, h2 => by
    obtain ⟨m, rfl⟩ : ∃ t, m = t + 1 := ⟨m - 1, by omega⟩
    have hM := pn_bm_lt q 10
    have h10 := pn_cn_le q 10
    have hle := pn_ye_le (q := q) (pl := pl)
    have hbits : f_X8_bits N (nI (pn_bm q 10)) = some (nI (pn_cn q 10)) := by
      rw [pu_bits (q := fun k => decide (k < 10) && q k) hN (by omega)]
      · rfl
      · intro k hk
        by_cases g : k < 10
        · rw [pn_bm_bit q 10 k g, decide_eq_true g, Bool.true_and]
        · rw [decide_eq_false g, Bool.false_and]
          have : pn_bm q 10 / 2 ^ k = 0 := Nat.div_eq_of_lt (Nat.lt_of_lt_of_le hM (Nat.pow_le_pow_right (by omega) (by omega)))
          rw [this]
          rfl
    rw [pu_w]
    unfold f_X8_bestCase_L31
    rw [if_pos (by rw [pu_lit 9, nI_ltI (by omega) (by omega)]; omega), hbits, pu_cs, pu_l, show i = 10 by omega, pk_sub hle]
    simp only [pu_j, pu_l, nI_1]
    unfold pn_Wl
    by_cases h : pn_cn (pn_ye q pl) 10 < pn_cn q 10 - pn_cn (pn_ye q pl) 10
    · rw [if_pos (show nI (pn_cn (pn_ye q pl) 10) ≤ nI (pn_cn q 10 - pn_cn (pn_ye q pl) 10) from (nI_leI (by omega) (by omega)).mpr (by omega)), if_pos h]
      by_cases g : x4 ≤ nI (pn_cn q 10 - pn_cn (pn_ye q pl) 10)
      · simp only [g, if_true]
      · simp only [g, if_false]
    · rw [if_neg h]
      by_cases h' : nI (pn_cn (pn_ye q pl) 10) ≤ nI (pn_cn q 10 - pn_cn (pn_ye q pl) 10)
      · rw [if_pos h']
        rw [nI_leI (by omega) (by omega)] at h'
        rw [show pn_cn q 10 - pn_cn (pn_ye q pl) 10 = pn_cn (pn_ye q pl) 10 by omega]
        by_cases g : x4 ≤ nI (pn_cn (pn_ye q pl) 10)
        · simp only [g, if_true]
        · simp only [g, if_false]
      · rw [if_neg h']
        by_cases g : x4 ≤ nI (pn_cn (pn_ye q pl) 10)
        · simp only [g, if_true]
        · simp only [g, if_false]
  | d + 1, i, m, h1, h2 => by
    obtain ⟨m, rfl⟩ : ∃ t, m = t + 1 := ⟨m - 1, by omega⟩
    have ih := pu_bc_in (q := q) (x3 := x3) (x4 := x4) (kL10 := kL10) hN hc hpl d (i + 1) m (by omega) (by omega)
    have hM := pn_bm_lt q 10
    rw [pu_w]
    generalize pq_w (fun _ _ => none) (f_X8_bestCase_L31 N s (nI j) (nI (pn_bm q 10)) x3 x4 (nI c) kL10) m = kk at ih ⊢
    unfold f_X8_bestCase_L31
    rw [if_neg (by rw [pu_lit 9, nI_ltI (by omega) (by omega)]; omega), pu_hasN (by omega) (by omega), pu_cs, pn_bm_bit q 10 i (by omega), hpl i (by omega)]
    simp only [pu_j, pu_l, pu_cs, nI_1]
    rw [pn_cn_s] at ih
    unfold pn_ye at ih ⊢
    cases hq : q i
    · rw [hq, Bool.false_and] at ih
      rw [if_pos (by decide), Int32.add_zero]
      exact ih
    · rw [hq, Bool.true_and] at ih
      rw [if_neg (by decide)]
      by_cases hp : pl < nI i
      · rw [decide_eq_true hp] at ih
        rw [if_pos hp, if_pos rfl, Int32.add_zero]
        exact ih
      · rw [decide_eq_false hp] at ih
        rw [if_neg hp, if_neg (by decide)]
        exact ih
theorem pu_bc_loop {N j C : Nat} {s pl : Nat → Int32} {q : Nat → Bool} (hN : 20 < N) (hC : C ≤ 12) (eC : s 4 = nI C) (hq : pn_bm q 10 ≠ 0) (hpl : ∀ c, c < C → ∀ v, v ≤ 9 → f_X8_isForBy N s (nI j) (nI v) (nI c) = some (if pl c < nI v then 0 else 1)) : ∀ (d c m : Nat), c + d = C → d < m → pq_w (fun _ _ _ => none) (f_X8_bestCase_L10 N s (nI j) (nI (pn_bm q 10))) m (pn_e (pn_mb (fun c => pn_Wl q (pl c)) c)) (pn_mv (fun c => pn_Wl q (pl c)) 99 (pn_mb (fun c => pn_Wl q (pl c)) c)) (nI c) = some (pn_e (pn_mb (fun c => pn_Wl q (pl c)) C))
  | 0, c, m, h1, h2 => by
    obtain ⟨m, rfl⟩ : ∃ t, m = t + 1 := ⟨m - 1, by omega⟩
    rw [pu_w]
    unfold f_X8_bestCase_L10
    rw [pq_gd_i (by decide), show (4 : Int32).toNatClampNeg = 4 from rfl, eC, if_pos (by rw [nI_leI (by omega) (by omega)]; omega), show c = C by omega]
  | d + 1, c, m, h1, h2 => by
    obtain ⟨m, rfl⟩ : ∃ t, m = t + 1 := ⟨m - 1, by omega⟩
    have ih := pu_bc_loop hN hC eC hq hpl d (c + 1) m (by omega) (by omega)
    have hM := pn_bm_lt q 10
    rw [pu_w]
    generalize pq_w (fun _ _ _ => none) (f_X8_bestCase_L10 N s (nI j) (nI (pn_bm q 10))) m = kk at ih ⊢
    unfold f_X8_bestCase_L10
    rw [pq_gd_i (by decide), show (4 : Int32).toNatClampNeg = 4 from rfl, eC, if_neg (by rw [nI_leI (by omega) (by omega)]; omega), if_neg (by rw [pu_lit 0, nI_eq (by omega) (by omega)]; exact hq)]
    refine (pu_bc_in (q := q) hN (by omega) (hpl c (by omega)) 10 0 N (by omega) (by omega)).trans ?_
    rw [pn_mb_s] at ih
    have w1 := pn_Wl_le (q := q) (pl := pl c)
    cases e : pn_mb (fun c => pn_Wl q (pl c)) c with
    | none =>
      rw [e] at ih
      rw [if_neg (show ¬ pn_mv (fun c => pn_Wl q (pl c)) 99 none ≤ nI (pn_Wl q (pl c)) from by unfold pn_mv; dsimp only; rw [nI_leI (by omega) (by omega)]; omega)]
      exact ih
    | some b =>
      rw [e] at ih
      dsimp only at ih
      have w2 := pn_Wl_le (q := q) (pl := pl b)
      by_cases g : pn_Wl q (pl c) < pn_Wl q (pl b)
      · rw [if_pos g] at ih
        rw [if_neg (show ¬ pn_mv (fun c => pn_Wl q (pl c)) 99 (some b) ≤ nI (pn_Wl q (pl c)) from by unfold pn_mv; dsimp only; rw [nI_leI (by omega) (by omega)]; omega)]
        exact ih
      · rw [if_neg g] at ih
        rw [if_pos (show pn_mv (fun c => pn_Wl q (pl c)) 99 (some b) ≤ nI (pn_Wl q (pl c)) from by unfold pn_mv; dsimp only; rw [nI_leI (by omega) (by omega)]; omega)]
        exact ih
/-- which case to try: the same on both sides -/
theorem pu_try {N j C : Nat} {s a4 a5 a6 a7 pl : Nat → Int32} {q : Nat → Bool} (hN : 20 < N) (hC : 1 ≤ C ∧ C ≤ 12) (eC : s 4 = nI C) (hpl : ∀ c, c < C → f_X1_pleaBefore N a4 a5 a6 a7 (nI j) (nI c) = some (pl c)) (hpl8 : ∀ c, c < C → ∀ v, v ≤ 9 → f_X8_isForBy N s (nI j) (nI v) (nI c) = some (if pl c < nI v then 0 else 1)) : ∃ z, f_X2_caseToTry N (nI C) a4 a5 a6 a7 (nI j) (nI (pn_bm q 10)) = some z ∧ f_X8_bestCase N s (nI j) (nI (pn_bm q 10)) = some z := by
  unfold f_X2_caseToTry f_X8_bestCase
  by_cases hq : pn_bm q 10 = 0
  · obtain ⟨n, rfl⟩ : ∃ t, N = t + 1 := ⟨N - 1, by omega⟩
    rw [hq, pu_w, pu_w]
    unfold f_X2_caseToTry_L10 f_X8_bestCase_L10
    rw [pq_gd_i (by decide), show (4 : Int32).toNatClampNeg = 4 from rfl, eC, if_neg (show ¬ nI C ≤ 0 by rw [pu_lit 0, nI_leI (by omega) (by omega)]; omega), if_neg (show ¬ nI C ≤ 0 by rw [pu_lit 0, nI_leI (by omega) (by omega)]; omega), if_pos (show nI 0 = 0 from rfl), if_pos (show nI 0 = 0 from rfl)]
    exact ⟨_, rfl, rfl⟩
  · exact ⟨_, pu_ct_loop hN hC.2 hq hpl C 0 N (by omega) (by omega), pu_bc_loop hN hC.2 eC hq hpl8 C 0 N (by omega) (by omega)⟩
theorem pu_told {N : Nat} {p2 p3 p5 : Int32} : f_X7_arePairsTold N p2 p3 p5 = some (if (0 ≤ p2.toInt ∧ p2.toInt < 4) ∧ (0 ≤ p3.toInt ∧ p3.toInt < 4) ∧ 1 ≤ p5.toInt ∧ p5.toInt ≤ 10 then 1 else 0) := by
  unfold f_X7_arePairsTold
  have z1 : (1 : Int32).toInt = 1 := rfl
  have z10 : (10 : Int32).toInt = 10 := rfl
  simp only [pu_sheet7, pu_lane7, pu_cs, pu_b0, pu_b1]
  by_cases h1 : 0 ≤ p2.toInt ∧ p2.toInt < 4
  · rw [pu_f1 h1]
    by_cases h2 : 0 ≤ p3.toInt ∧ p3.toInt < 4
    · rw [pu_f1 h2]
      by_cases h3 : p5 < 1
      · rw [if_pos h3, if_neg (by rw [pu_lt, z1] at h3; omega)]
      · rw [if_neg h3]
        by_cases h4 : 10 < p5
        · rw [if_pos h4, if_neg (by rw [pu_lt, z10] at h4; omega)]
        · rw [if_neg h4, if_pos (by rw [pu_lt, z10] at h4; rw [pu_lt, z1] at h3; omega)]
    · rw [pu_f0 h2, if_neg (by omega)]
  · rw [pu_f0 h1, if_neg (by omega)]
