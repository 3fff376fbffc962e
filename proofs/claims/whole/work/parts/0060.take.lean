/-! ===== pairs that were seen ===== -/
theorem pu_l32 {x : Int64} {n : Nat} (h : x.toInt = (n : Int)) (hn : n < 2 ^ 31) : x.toInt32 = nI n := by
  apply Int32.toInt_inj.mp
  rw [Int64.toInt_toInt32, h, nI_toInt hn]
  exact Int.bmod_eq_of_le (by omega) (by omega)
theorem pu_i64 {n : Nat} (hn : n < 2 ^ 31) : (nI n).toInt64.toInt = (n : Int) := by
  rw [Int32.toInt_toInt64, nI_toInt hn]
theorem pu_c0 {x : Int64} : lg_cmp x 0 < 0 ↔ x.toInt < 0 := by
  rw [lg_cmp_lt, Int64.lt_iff_toInt_lt]
  exact Iff.rfl
theorem pu_cge {x : Int64} {n : Nat} (hn : n < 2 ^ 31) : 0 ≤ lg_cmp x (nI n).toInt64 ↔ (n : Int) ≤ x.toInt := by
  rw [lg_cmp_ge, Int64.le_iff_toInt_le, pu_i64 hn]
theorem pu_clt {x : Int64} {n : Nat} (hn : n < 2 ^ 31) : lg_cmp x (nI n).toInt64 < 0 ↔ x.toInt < (n : Int) := by
  rw [lg_cmp_lt, Int64.lt_iff_toInt_lt, pu_i64 hn]
theorem pu_ceq {x : Int64} : lg_cmp x 0 = 0 ↔ x.toInt = 0 := by
  rw [lg_cmp_eq, ← Int64.toInt_inj]
  exact Iff.rfl
/-- the pair is below its limits -/
def pn_ok (x y : Nat → Int64) (a b : Nat) (k : Nat) : Bool := decide ((0 ≤ (x k).toInt ∧ (x k).toInt < (a : Int)) ∧ (0 ≤ (y k).toInt ∧ (y k).toInt < (b : Int)))
theorem pu_take_loop {N i n a b : Nat} {it : Nat → Int64} (hn : n ≤ 10) (hi : i + 2 * n ≤ 24) (ha : a < 2 ^ 20) (hb : b < 2 ^ 20) : ∀ (d q m : Nat) (f s : Nat → Int32), q + d = n → d < m → pn_al (pn_ok (fun k => it (i + 2 * k)) (fun k => it (i + 2 * k + 1)) a b) q = true → (∀ k, k < q → f k = (it (i + 2 * k)).toInt32 ∧ s k = (it (i + 2 * k + 1)).toInt32) → ∃ f' s', pq_w (fun _ _ _ => none) (f_X2_take_L8 N it (nI i) (nI n) (nI a) (nI b)) m (nI q) f s = some (pn_i (pn_al (pn_ok (fun k => it (i + 2 * k)) (fun k => it (i + 2 * k + 1)) a b) n), nI n, f', s') ∧ (pn_al (pn_ok (fun k => it (i + 2 * k)) (fun k => it (i + 2 * k + 1)) a b) n = true → ∀ k, k < n → f' k = (it (i + 2 * k)).toInt32 ∧ s' k = (it (i + 2 * k + 1)).toInt32)
  | 0, q, m, f, s, h1, h2, hal, hf => by
    obtain ⟨m, rfl⟩ : ∃ t, m = t + 1 := ⟨m - 1, by omega⟩
    rw [pu_w]
    unfold f_X2_take_L8
    rw [if_pos (by rw [nI_leI (by omega) (by omega)]; omega), pu_b1, show n = q by omega, hal]
    exact ⟨f, s, rfl, fun _ => hf⟩
  | d + 1, q, m, f, s, h1, h2, hal, hf => by
    obtain ⟨m, rfl⟩ : ∃ t, m = t + 1 := ⟨m - 1, by omega⟩
    have bad : ∀ z, pn_ok (fun k => it (i + 2 * k)) (fun k => it (i + 2 * k + 1)) a b q = false → z = (some (0, nI n, f, s) : Option (Int32 × Int32 × (Nat → Int32) × (Nat → Int32))) → ∃ f' s', z = some (pn_i (pn_al (pn_ok (fun k => it (i + 2 * k)) (fun k => it (i + 2 * k + 1)) a b) n), nI n, f', s') ∧ (pn_al (pn_ok (fun k => it (i + 2 * k)) (fun k => it (i + 2 * k + 1)) a b) n = true → ∀ k, k < n → f' k = (it (i + 2 * k)).toInt32 ∧ s' k = (it (i + 2 * k + 1)).toInt32) := by
      intro z hno hz
      have hal' : pn_al (pn_ok (fun k => it (i + 2 * k)) (fun k => it (i + 2 * k + 1)) a b) n = false := by
        apply Bool.eq_false_iff.mpr
        intro h
        have := (pn_al_iff _ n).mp h q (by omega)
        rw [hno] at this
        exact absurd this (by decide)
      rw [hal', hz]
      exact ⟨f, s, rfl, fun h => absurd h (by decide)⟩
    rw [pu_w]
    generalize hkk : pq_w (fun _ _ _ => none) (f_X2_take_L8 N it (nI i) (nI n) (nI a) (nI b)) m = kk
    unfold f_X2_take_L8
    rw [if_neg (by rw [nI_leI (by omega) (by omega)]; omega)]
    simp (disch := omega) only [pu_lit 2, pk_mul, nI_add, pu_gd, nI_clamp, pu_l, nI_1, pu_b0]
    by_cases g1 : lg_cmp (it (i + 2 * q)) 0 < 0
    · rw [if_pos g1]
      refine bad _ ?_ rfl
      rw [pu_c0] at g1
      unfold pn_ok
      dsimp only
      exact decide_eq_false (by omega)
    rw [if_neg g1]
    by_cases g2 : 0 ≤ lg_cmp (it (i + 2 * q)) (nI a).toInt64
    · rw [if_pos g2]
      refine bad _ ?_ rfl
      rw [pu_cge (by omega)] at g2
      unfold pn_ok
      dsimp only
      exact decide_eq_false (by omega)
    rw [if_neg g2]
    by_cases g3 : lg_cmp (it (i + 2 * q + 1)) 0 < 0
    · rw [if_pos g3]
      refine bad _ ?_ rfl
      rw [pu_c0] at g3
      unfold pn_ok
      dsimp only
      exact decide_eq_false (by omega)
    rw [if_neg g3]
    by_cases g4 : lg_cmp (it (i + 2 * q + 1)) (nI b).toInt64 < 0
    · rw [if_pos g4, ← hkk]
      rw [pu_c0] at g1 g3
      rw [pu_cge (by omega)] at g2
      rw [pu_clt (by omega)] at g4
      refine pu_take_loop hn hi ha hb d (q + 1) m _ _ (by omega) (by omega) ?_ ?_
      · rw [pn_al_s, hal, Bool.true_and]
        unfold pn_ok
        dsimp only
        exact decide_eq_true (by omega)
      · intro k hk
        by_cases e : k = q
        · subst e
          rw [pu_us, pu_us]
          exact ⟨rfl, rfl⟩
        · rw [pu_un e, pu_un e]
          exact hf k (by omega)
    · rw [if_neg g4]
      refine bad _ ?_ rfl
      rw [pu_clt (by omega)] at g4
      unfold pn_ok
      dsimp only
      exact decide_eq_false (by omega)
theorem pu_take {N i n a b : Nat} {it : Nat → Int64} {z : Int32} {f s : Nat → Int32} (hN : 20 < N) (hn : n ≤ 10) (hi : i + 2 * n ≤ 24) (ha : a < 2 ^ 20) (hb : b < 2 ^ 20) : ∃ f' s', f_X2_take N z f s it (nI i) (nI n) (nI a) (nI b) = some (pn_i (pn_al (pn_ok (fun k => it (i + 2 * k)) (fun k => it (i + 2 * k + 1)) a b) n), nI n, f', s') ∧ (pn_al (pn_ok (fun k => it (i + 2 * k)) (fun k => it (i + 2 * k + 1)) a b) n = true → ∀ k, k < n → f' k = (it (i + 2 * k)).toInt32 ∧ s' k = (it (i + 2 * k + 1)).toInt32) := by
  unfold f_X2_take
  exact pu_take_loop hn hi ha hb n 0 N f s (by omega) (by omega) rfl (fun k hk => absurd hk (by omega))
theorem pu_below_loop {N o n a b : Nat} {it : Nat → Int64} (hn : n ≤ 10) (hi : o + 2 * n ≤ 96) (ha : a < 2 ^ 20) (hb : b < 2 ^ 20) : ∀ (d q m : Nat), q + d = n → d < m → pq_w (fun _ _ => none) (f_X8_areBelow_L6 N it (nI o) (nI n) (nI a) (nI b)) m (pn_i (pn_al (pn_ok (fun k => it (o + 2 * k)) (fun k => it (o + 2 * k + 1)) a b) q)) (nI q) = some (pn_i (pn_al (pn_ok (fun k => it (o + 2 * k)) (fun k => it (o + 2 * k + 1)) a b) n))
  | 0, q, m, h1, h2 => by
    obtain ⟨m, rfl⟩ : ∃ t, m = t + 1 := ⟨m - 1, by omega⟩
    rw [pu_w]
    unfold f_X8_areBelow_L6
    rw [if_pos (by rw [nI_leI (by omega) (by omega)]; omega), show q = n by omega]
    unfold pn_i
    rw [pu_bi]
  | d + 1, q, m, h1, h2 => by
    obtain ⟨m, rfl⟩ : ∃ t, m = t + 1 := ⟨m - 1, by omega⟩
    have ih := pu_below_loop (N := N) (it := it) hn hi ha hb d (q + 1) m (by omega) (by omega)
    rw [pu_w]
    generalize pq_w (fun _ _ => none) (f_X8_areBelow_L6 N it (nI o) (nI n) (nI a) (nI b)) m = kk at ih ⊢
    unfold f_X8_areBelow_L6
    rw [if_neg (by rw [nI_leI (by omega) (by omega)]; omega)]
    simp (disch := omega) only [pu_lit 2, pk_mul, nI_add, pu_gd, nI_clamp, pu_l, pu_j, nI_1]
    rw [pn_al_s] at ih
    by_cases hal : pn_al (pn_ok (fun k => it (o + 2 * k)) (fun k => it (o + 2 * k + 1)) a b) q = true
    · rw [hal, Bool.true_and] at ih
      rw [hal, if_neg (show ¬ pn_i true = 0 by decide)]
      have no : pn_ok (fun k => it (o + 2 * k)) (fun k => it (o + 2 * k + 1)) a b q = false → kk 0 (nI (q + 1)) = some (pn_i (pn_al (pn_ok (fun k => it (o + 2 * k)) (fun k => it (o + 2 * k + 1)) a b) n)) := by
        intro h
        rw [h] at ih
        exact ih
      by_cases g1 : lg_cmp (it (o + 2 * q)) 0 < 0
      · rw [if_pos g1]
        rw [pu_c0] at g1
        exact no (by unfold pn_ok; dsimp only; exact decide_eq_false (by omega))
      rw [if_neg g1]
      by_cases g2 : 0 ≤ lg_cmp (it (o + 2 * q)) (nI a).toInt64
      · rw [if_pos g2]
        rw [pu_cge (by omega)] at g2
        exact no (by unfold pn_ok; dsimp only; exact decide_eq_false (by omega))
      rw [if_neg g2]
      by_cases g3 : lg_cmp (it (o + 2 * q + 1)) 0 < 0
      · rw [if_pos g3]
        rw [pu_c0] at g3
        exact no (by unfold pn_ok; dsimp only; exact decide_eq_false (by omega))
      rw [if_neg g3]
      by_cases g4 : 0 ≤ lg_cmp (it (o + 2 * q + 1)) (nI b).toInt64
      · rw [if_pos g4]
        rw [pu_cge (by omega)] at g4
        exact no (by unfold pn_ok; dsimp only; exact decide_eq_false (by omega))
      rw [if_neg g4]
      rw [pu_c0] at g1 g3
      rw [pu_cge (by omega)] at g2 g4
      have hok : pn_ok (fun k => it (o + 2 * k)) (fun k => it (o + 2 * k + 1)) a b q = true := by unfold pn_ok; dsimp only; exact decide_eq_true (by omega)
      rw [hok] at ih
      exact ih
    · have hal := Bool.eq_false_iff.mpr hal
      rw [hal, Bool.false_and] at ih
      rw [hal, if_pos (show pn_i false = 0 from rfl)]
      exact ih
theorem pu_below {N o n a b : Nat} {it : Nat → Int64} (hN : 20 < N) (hn : n ≤ 10) (hi : o + 2 * n ≤ 96) (ha : a < 2 ^ 20) (hb : b < 2 ^ 20) : f_X8_areBelow N it (nI o) (nI n) (nI a) (nI b) = some (pn_i (pn_al (pn_ok (fun k => it (o + 2 * k)) (fun k => it (o + 2 * k + 1)) a b) n)) := by
  unfold f_X8_areBelow
  exact pu_below_loop hn hi ha hb n 0 N (by omega) (by omega)
/-- the first of those with the least W below n -/
def pn_mb (W : Nat → Nat) : Nat → Option Nat
  | 0 => none
  | n + 1 => match pn_mb W n with
    | none => some n
    | some b => if W n < W b then some n else some b
theorem pn_mb_s (W : Nat → Nat) (n : Nat) : pn_mb W (n + 1) = match pn_mb W n with
    | none => some n
    | some b => if W n < W b then some n else some b := rfl
theorem pn_mb_lt (W : Nat → Nat) : ∀ n b, pn_mb W n = some b → b < n
  | 0, b, h => by cases h
  | n + 1, b, h => by
    rw [pn_mb_s] at h
    cases e : pn_mb W n with
    | none => rw [e] at h; cases h; omega
    | some b0 =>
      rw [e] at h
      dsimp only at h
      have := pn_mb_lt W n b0 e
      by_cases g : W n < W b0
      · rw [if_pos g] at h; cases h; omega
      · rw [if_neg g] at h; cases h; omega
theorem pn_mb_cg {W W' : Nat → Nat} : ∀ {n : Nat}, (∀ i, i < n → W i = W' i) → pn_mb W n = pn_mb W' n
  | 0, _ => rfl
  | n + 1, h => by
    rw [pn_mb_s, pn_mb_s, pn_mb_cg (fun i hi => h i (by omega))]
    cases e : pn_mb W' n with
    | none => rfl
    | some b =>
      dsimp only
      rw [h n (by omega), h b (by have := pn_mb_lt W' n b e; omega)]
def pn_mv (W : Nat → Nat) (z : Nat) (o : Option Nat) : Int32 := match o with
  | none => nI z
  | some b => nI (W b)
