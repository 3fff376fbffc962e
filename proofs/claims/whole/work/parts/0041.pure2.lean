/-! ===== pure: findings and namings, on the reference's row s ===== -/
def pn_plea (s : Nat → Int32) (j c : Nat) : Int32 := s (59 + c) + (if s (29 + j) = s (35 + c) then 2 else 0) - (if s (29 + j) = s (47 + c) then 2 else 0)
def pn_f (s : Nat → Int32) (j : Nat) (l : Int32) (c : Nat) : Int32 := if pn_plea s j c < l then s (47 + c) else s (35 + c)
def pn_lk (s : Nat → Int32) (p k : Int32) (j : Nat) : Int32 := if k = 2 then s (23 + j) else if k = 4 then -nI j else if k = 5 then (if s (29 + j) = p then s (23 + j) + 5 else s (23 + j)) else -s (23 + j)
def pn_b (g : Nat → Int32) (ok : Nat → Bool) : Nat → Option Nat
  | 0 => none
  | n + 1 => match pn_b g ok n with
    | none => if ok n then some n else none
    | some b => if ok n = true ∧ g b < g n then some n else some b
def pn_e (o : Option Nat) : Int32 := match o with
  | none => -4
  | some b => nI b
/-- whom a party p of kind k names, having lost before the judge j -/
def pn_nm (s : Nat → Int32) (p k : Int32) (j : Nat) : Int32 := if k = 3 ∨ s 3 = 1 then nI j else if k = 4 then (if (j : Int) + 1 < (s 3).toInt then nI (j + 1) else 0) else pn_e (pn_b (pn_lk s p k) (fun i => decide (i ≠ j)) (s 3).toNatClampNeg)
theorem pn_b_lt (g : Nat → Int32) (ok : Nat → Bool) : ∀ n b, pn_b g ok n = some b → b < n ∧ ok b = true
  | 0, b, h => by cases h
  | n + 1, b, h => by
    unfold pn_b at h
    cases e : pn_b g ok n with
    | none =>
      rw [e] at h
      dsimp only at h
      by_cases c : ok n = true
      · rw [if_pos c] at h
        cases h
        exact ⟨Nat.lt_succ_self n, c⟩
      · rw [if_neg c] at h
        cases h
    | some b0 =>
      rw [e] at h
      dsimp only at h
      have ih := pn_b_lt g ok n b0 e
      by_cases c : ok n = true ∧ g b0 < g n
      · rw [if_pos c] at h
        cases h
        exact ⟨Nat.lt_succ_self n, c.1⟩
      · rw [if_neg c] at h
        cases h
        exact ⟨Nat.lt_succ_of_lt ih.1, ih.2⟩
theorem pn_b_some (g : Nat → Int32) (ok : Nat → Bool) : ∀ n i, i < n → ok i = true → ∃ b, pn_b g ok n = some b
  | 0, i, h, _ => absurd h (Nat.not_lt_zero i)
  | n + 1, i, h, hi => by
    unfold pn_b
    cases e : pn_b g ok n with
    | none =>
      rcases Nat.lt_or_ge i n with q | q
      · obtain ⟨b, hb⟩ := pn_b_some g ok n i q hi
        rw [e] at hb
        cases hb
      · have : i = n := by omega
        subst this
        exact ⟨i, by dsimp only; rw [if_pos hi]⟩
    | some b0 =>
      dsimp only
      by_cases c : ok n = true ∧ g b0 < g n
      · exact ⟨n, by rw [if_pos c]⟩
      · exact ⟨b0, by rw [if_neg c]⟩
theorem pu_found {N : Nat} {s : Nat → Int32} {l : Int32} {j c : Nat} (hj : j < 6) (hc : c < 12) : f_X8_foundBy N s (nI j) l (nI c) = some (pn_f s j l c) := by
  unfold f_X8_foundBy pn_f pn_plea
  simp (disch := omega) only [pu_lit 29, pu_lit 59, pu_lit 35, pu_lit 47, nI_add, pu_gd, pu_l, pu_j, nI_clamp]
  by_cases h1 : s (29 + j) = s (35 + c)
  · rw [if_pos h1, if_pos h1]
    by_cases h2 : s (29 + j) = s (47 + c)
    · rw [if_pos h2, if_pos h2]
      split <;> rfl
    · rw [if_neg h2, if_neg h2]
      split <;> rfl
  · rw [if_neg h1, if_neg h1]
    by_cases h2 : s (29 + j) = s (47 + c)
    · rw [if_pos h2, if_pos h2]
      split <;> rfl
    · rw [if_neg h2, if_neg h2]
      split <;> rfl
theorem pu_liking8 {N : Nat} {s : Nat → Int32} {p k : Int32} {j : Nat} (hj : j < 6) : f_X8_liking N s p (nI j) k = some (pn_lk s p k j) := by
  unfold f_X8_liking pn_lk
  simp (disch := omega) only [pu_lit 23, pu_lit 29, nI_add, pu_gd, pu_l, nI_clamp, Int32.add_zero]
  by_cases h2 : k = 2
  · rw [if_pos h2, if_pos h2]
  · rw [if_neg h2, if_neg h2]
    by_cases h3 : k = 3
    · subst h3
      rw [if_pos rfl, if_neg (by decide), if_neg (by decide)]
    · rw [if_neg h3]
      by_cases h4 : k = 4
      · rw [if_pos h4, if_pos h4]
      · rw [if_neg h4, if_neg h4]
        by_cases h5 : k = 5
        · rw [if_pos h5, if_pos h5]
          split <;> rfl
        · rw [if_neg h5, if_neg h5]
theorem pu_liking1 {N : Nat} {a3 a4 : Nat → Int32} {s : Nat → Int32} {p k : Int32} {j : Nat} (hj : j < 6) (e3 : a3 j = s (23 + j)) (e4 : a4 j = s (29 + j)) : f_X1_likingOf N a3 a4 p k (nI j) = some (pn_lk s p k j) := by
  unfold f_X1_likingOf pn_lk
  simp (disch := omega) only [pu_gd, pu_l, pu_j, nI_clamp, e3, e4]
  by_cases h2 : k = 2
  · rw [if_pos h2, if_pos h2]
  · rw [if_neg h2, if_neg h2]
    by_cases h3 : k = 3
    · subst h3
      rw [if_pos rfl, if_neg (by decide), if_neg (by decide)]
    · rw [if_neg h3]
      by_cases h4 : k = 4
      · rw [if_pos h4, if_pos h4]
      · rw [if_neg h4, if_neg h4]
        by_cases h5 : k = 5
        · rw [if_pos h5, if_pos h5]
          split <;> rfl
        · rw [if_neg h5, if_neg h5]
theorem pu_win {N : Nat} {a3 a4 a5 a6 a7 : Nat → Int32} {s : Nat → Int32} {j c : Nat} (hj : j < 6) (hc : c < 12) (e3 : a3 j = s (23 + j)) (e4 : a4 j = s (29 + j)) (e5 : a5 c = s (35 + c)) (e6 : a6 c = s (47 + c)) (e7 : a7 c = s (59 + c)) : f_X1_pleaBefore N a4 a5 a6 a7 (nI j) (nI c) = some (pn_plea s j c) ∧ f_X1_winnerBefore N a3 a4 a5 a6 a7 (nI j) (nI c) = some (pn_f s j (s (23 + j)) c) := by
  have hp : f_X1_pleaBefore N a4 a5 a6 a7 (nI j) (nI c) = some (pn_plea s j c) := by
    unfold f_X1_pleaBefore pn_plea
    simp (disch := omega) only [pu_gd, pu_l, pu_j, nI_clamp, e4, e5, e6, e7]
    by_cases h1 : s (29 + j) = s (35 + c)
    · rw [if_pos h1, if_pos h1]
      by_cases h2 : s (29 + j) = s (47 + c)
      · rw [if_pos h2, if_pos h2, Int32.sub_eq_add_neg]
      · rw [if_neg h2, if_neg h2, Int32.sub_zero]
    · rw [if_neg h1, if_neg h1]
      by_cases h2 : s (29 + j) = s (47 + c)
      · rw [if_pos h2, if_pos h2, Int32.sub_eq_add_neg, Int32.add_zero]
      · rw [if_neg h2, if_neg h2, Int32.sub_zero, Int32.add_zero]
  refine ⟨hp, ?_⟩
  unfold f_X1_winnerBefore pn_f
  rw [hp, pu_cs]
  simp (disch := omega) only [pu_gd, nI_clamp, e3, e5, e6]
  split <;> rfl
/-! the loops over the judges -/
theorem pn_b_succ (g : Nat → Int32) (ok : Nat → Bool) (n : Nat) : pn_b g ok (n + 1) = match pn_b g ok n with
    | none => if ok n then some n else none
    | some b => if ok n = true ∧ g b < g n then some n else some b := rfl
theorem pu_named8_loop {N : Nat} {s : Nat → Int32} {p k : Int32} {sat J : Nat} (hJ : s 3 = nI J) (hJ6 : J ≤ 6) (hsat : sat < 6) :
    ∀ (d i n : Nat), i + d = J → d < n → pq_w (fun _ _ => none) (f_X8_namedBy_L34 N s p k (nI sat)) n (pn_e (pn_b (pn_lk s p k) (fun i => decide (i ≠ sat)) i)) (nI i) = some (pn_e (pn_b (pn_lk s p k) (fun i => decide (i ≠ sat)) J))
  | 0, i, n, h1, h2 => by
    obtain ⟨n, rfl⟩ : ∃ q, n = q + 1 := ⟨n - 1, by omega⟩
    rw [pu_w]
    unfold f_X8_namedBy_L34
    simp (disch := omega) only [pu_lit 3, pu_gd, nI_clamp, hJ, nI_leI]
    rw [if_pos (by omega), show i = J by omega]
  | d + 1, i, n, h1, h2 => by
    obtain ⟨n, rfl⟩ : ∃ q, n = q + 1 := ⟨n - 1, by omega⟩
    have ih := pu_named8_loop (N := N) (s := s) (p := p) (k := k) (sat := sat) hJ hJ6 hsat d (i + 1) n (by omega) (by omega)
    rw [pu_w]
    generalize pq_w (fun _ _ => none) (f_X8_namedBy_L34 N s p k (nI sat)) n = kk at ih ⊢
    unfold f_X8_namedBy_L34
    simp (disch := omega) only [pu_lit 3, pu_lit 1, pu_gd, nI_clamp, hJ, nI_leI, pu_j, pu_l, nI_add, nI_eq]
    rw [if_neg (by omega)]
    rw [pn_b_succ] at ih
    cases e : pn_b (pn_lk s p k) (fun i => decide (i ≠ sat)) i with
    | none =>
      rw [e] at ih
      dsimp only at ih
      simp only [pn_e, if_true]
      by_cases hs : i = sat
      · rw [if_pos hs]
        rw [if_neg (by simp [hs])] at ih
        exact ih
      · rw [if_neg hs]
        rw [if_pos (by simp [hs])] at ih
        simp only [pn_e] at ih
        rw [if_neg (by decide)]
        exact ih
    | some b =>
      rw [e] at ih
      dsimp only at ih
      have hb := pn_b_lt _ _ _ _ e
      simp only [pn_e]
      have hne : ¬ nI b = (-4 : Int32) := pu_ne4 (by omega)
      simp only [hne, if_false]
      rw [pu_liking8 (by omega), pu_cs, pu_liking8 (by omega), pu_cs]
      by_cases hs : i = sat
      · rw [if_neg (by simp [hs])] at ih
        simp only [pn_e] at ih
        by_cases hg : pn_lk s p k i ≤ pn_lk s p k b
        · rw [if_pos hg, if_pos hs]
          exact ih
        · rw [if_neg hg, if_pos hs]
          exact ih
      · by_cases hg : pn_lk s p k i ≤ pn_lk s p k b
        · rw [if_neg (by rw [pu_lt]; rw [pu_lei] at hg; omega)] at ih
          simp only [pn_e] at ih
          rw [if_pos hg, if_neg hs]
          exact ih
        · rw [if_pos (by rw [pu_lt]; rw [pu_lei] at hg; simp [hs]; omega)] at ih
          simp only [pn_e] at ih
          rw [if_neg hg, if_neg hs, if_neg (by decide)]
          exact ih
def pn_v (g : Nat → Int32) (o : Option Nat) : Int32 := match o with
  | none => 0
  | some b => g b
theorem pu_liked1_loop {N : Nat} {a3 a4 : Nat → Int32} {s : Nat → Int32} {p k bar : Int32} {J : Nat} (hJ6 : J ≤ 6) (e3 : ∀ j, j < J → a3 j = s (23 + j)) (e4 : ∀ j, j < J → a4 j = s (29 + j)) :
    ∀ (d i n : Nat), i + d = J → d < n → pq_w (fun _ _ _ => none) (f_X1_likedBest_L10 N (nI J) a3 a4 p k bar) n (pn_e (pn_b (pn_lk s p k) (fun j => decide (((bar >>> (nI j &&& 31)) &&& 1) = 0)) i)) (pn_v (pn_lk s p k) (pn_b (pn_lk s p k) (fun j => decide (((bar >>> (nI j &&& 31)) &&& 1) = 0)) i)) (nI i) = some (pn_e (pn_b (pn_lk s p k) (fun j => decide (((bar >>> (nI j &&& 31)) &&& 1) = 0)) J))
  | 0, i, n, h1, h2 => by
    obtain ⟨n, rfl⟩ : ∃ q, n = q + 1 := ⟨n - 1, by omega⟩
    rw [pu_w]
    unfold f_X1_likedBest_L10
    simp (disch := omega) only [nI_leI]
    rw [if_pos (by omega), show i = J by omega]
  | d + 1, i, n, h1, h2 => by
    obtain ⟨n, rfl⟩ : ∃ q, n = q + 1 := ⟨n - 1, by omega⟩
    have ih := pu_liked1_loop (N := N) (a3 := a3) (a4 := a4) (s := s) (p := p) (k := k) (bar := bar) hJ6 e3 e4 d (i + 1) n (by omega) (by omega)
    rw [pu_w]
    generalize pq_w (fun _ _ _ => none) (f_X1_likedBest_L10 N (nI J) a3 a4 p k bar) n = kk at ih ⊢
    unfold f_X1_likedBest_L10
    simp (disch := omega) only [nI_leI, pu_j, pu_l, nI_1]
    rw [if_neg (by omega), pu_liking1 (s := s) (by omega) (e3 i (by omega)) (e4 i (by omega)), pu_cs]
    rw [pn_b_succ] at ih
    by_cases hb : ((bar >>> (nI i &&& 31)) &&& 1) = 0
    · rw [if_pos hb]
      cases e : pn_b (pn_lk s p k) (fun j => decide (((bar >>> (nI j &&& 31)) &&& 1) = 0)) i with
      | none =>
        rw [e] at ih
        dsimp only at ih
        rw [if_pos (by simp [hb])] at ih
        simp only [pn_e, pn_v, if_true] at ih ⊢
        exact ih
      | some b =>
        rw [e] at ih
        dsimp only at ih
        have hbl := pn_b_lt _ _ _ _ e
        simp only [pn_e, pn_v]
        have hne : ¬ nI b = (-4 : Int32) := pu_ne4 (by omega)
        simp only [hne, if_false]
        by_cases hg : pn_lk s p k i ≤ pn_lk s p k b
        · rw [if_neg (by rw [pu_lt]; rw [pu_lei] at hg; omega)] at ih
          simp only [pn_e, pn_v] at ih
          simp only [hg, if_true]
          exact ih
        · rw [if_pos (by rw [pu_lt]; rw [pu_lei] at hg; simp [hb]; omega)] at ih
          simp only [pn_e, pn_v] at ih
          simp only [hg, if_false]
          exact ih
    · rw [if_neg hb]
      cases e : pn_b (pn_lk s p k) (fun j => decide (((bar >>> (nI j &&& 31)) &&& 1) = 0)) i with
      | none =>
        rw [e] at ih
        dsimp only at ih
        rw [if_neg (by simp [hb])] at ih
        exact ih
      | some b =>
        rw [e] at ih
        dsimp only at ih
        rw [if_neg (by simp [hb])] at ih
        exact ih
theorem pn_b_cong {g : Nat → Int32} {ok ok' : Nat → Bool} : ∀ {n : Nat}, (∀ i, i < n → ok i = ok' i) → pn_b g ok n = pn_b g ok' n
  | 0, _ => rfl
  | n + 1, h => by rw [pn_b_succ, pn_b_succ, pn_b_cong (fun i hi => h i (by omega)), h n (by omega)]
theorem pu_liked1 {N : Nat} {a3 a4 : Nat → Int32} {s : Nat → Int32} {p k bar : Int32} {J : Nat} (hN : 10 < N) (hJ6 : J ≤ 6) (e3 : ∀ j, j < J → a3 j = s (23 + j)) (e4 : ∀ j, j < J → a4 j = s (29 + j)) : f_X1_likedBest N (nI J) a3 a4 p k bar = some (pn_e (pn_b (pn_lk s p k) (fun j => decide (((bar >>> (nI j &&& 31)) &&& 1) = 0)) J)) := by
  unfold f_X1_likedBest
  exact pu_liked1_loop hJ6 e3 e4 J 0 N (by omega) (by omega)
theorem pu_bit : ∀ j : Fin 6, ∀ t : Fin 6, decide (((((1 : Int32) <<< (nI t.val &&& 31)) >>> (nI j.val &&& 31)) &&& 1) = 0) = decide (j.val ≠ t.val) := by decide +kernel
/-- whom the class says is named -/
theorem pu_named1 {N : Nat} {a3 a4 : Nat → Int32} {s : Nat → Int32} {p k : Int32} {j J : Nat} (hN : 10 < N) (hJ : s 3 = nI J) (h1 : 1 ≤ J) (hJ6 : J ≤ 6) (hj : j < J) (e3 : ∀ j, j < J → a3 j = s (23 + j)) (e4 : ∀ j, j < J → a4 j = s (29 + j)) : f_X1_namedAs N (nI J) a3 a4 p k (nI j) = some (pn_nm s p k j) := by
  unfold f_X1_namedAs pn_nm
  rw [hJ]
  by_cases h3 : k = 3
  · rw [if_pos h3, if_pos (Or.inl h3)]
  · rw [if_neg h3]
    by_cases hJ1 : J = 1
    · subst hJ1
      rw [if_neg (by decide), if_pos (show k = 3 ∨ nI 1 = 1 from Or.inr rfl)]
    · rw [if_pos (show (2 : Int32) ≤ nI J from by rw [pu_lit 2, nI_leI (by omega) (by omega)]; omega)]
      rw [if_neg (show ¬ (k = 3 ∨ nI J = 1) from by rw [pu_lit 1, nI_eq (by omega) (by omega)]; exact fun h => h.elim h3 hJ1)]
      by_cases h4 : k = 4
      · rw [if_pos h4, if_pos h4, nI_1, nI_toInt (by omega)]
        by_cases hl : J ≤ j + 1
        · rw [if_pos ((nI_leI (by omega) (by omega)).mpr hl), if_neg (by omega)]
        · rw [if_neg (by rw [nI_leI (by omega) (by omega)]; exact hl), if_pos (by omega)]
      · rw [if_neg h4, if_neg h4, pu_liked1 (s := s) hN hJ6 e3 e4, pu_cs, nI_clamp (by omega)]
        rw [pn_b_cong (ok' := fun i => decide (i ≠ j)) (fun i hi => pu_bit ⟨i, by omega⟩ ⟨j, by omega⟩)]
/-- whom the reference says is named -/
theorem pu_named8 {N : Nat} {s : Nat → Int32} {p k : Int32} {j J : Nat} (hN : 10 < N) (hJ : s 3 = nI J) (h1 : 1 ≤ J) (hJ6 : J ≤ 6) (hj : j < J) : f_X8_namedBy N s p k (nI j) = some (pn_nm s p k j) := by
  unfold f_X8_namedBy pn_nm
  simp (disch := omega) only [pu_lit 3, pu_gd, nI_clamp, hJ]
  rw [show nI 3 = (3 : Int32) from rfl]
  by_cases h3 : k = 3
  · rw [if_pos h3, if_pos (Or.inl h3)]
  · rw [if_neg h3]
    by_cases hJ1 : nI J = 1
    · rw [if_pos hJ1, if_pos (Or.inr hJ1)]
    · rw [if_neg hJ1, if_neg (show ¬ (k = 3 ∨ nI J = 1) from fun h => h.elim h3 hJ1)]
      have hJ2 : J ≠ 1 := fun e => hJ1 (by rw [e]; rfl)
      by_cases h4 : k = 4
      · rw [if_pos h4, if_pos h4, pu_z (nI_ne0 (by omega) (by omega)), nI_1, pk_rem (by omega) (by omega) (by omega), nI_toInt (by omega)]
        by_cases hl : j + 1 < J
        · rw [if_pos (by omega), Nat.mod_eq_of_lt hl]
        · rw [if_neg (by omega), show j + 1 = J by omega, Nat.mod_self, nI_0]
      · rw [if_neg h4, if_neg h4]
        exact pu_named8_loop hJ hJ6 (by omega) J 0 N (by omega) (by omega)
/-- he who is named is a judge -/
theorem pn_nm_lt {s : Nat → Int32} {p k : Int32} {j J : Nat} (hJ : s 3 = nI J) (h1 : 1 ≤ J) (hJ6 : J ≤ 6) (hj : j < J) : ∃ q, q < J ∧ pn_nm s p k j = nI q := by
  unfold pn_nm
  rw [hJ]
  by_cases h3 : k = 3 ∨ nI J = 1
  · rw [if_pos h3]
    exact ⟨j, hj, rfl⟩
  · rw [if_neg h3]
    have hJ2 : J ≠ 1 := fun e => h3 (Or.inr (by rw [e]; rfl))
    by_cases h4 : k = 4
    · rw [if_pos h4, nI_toInt (by omega)]
      by_cases hl : (j : Int) + 1 < (J : Int)
      · rw [if_pos hl]
        exact ⟨j + 1, by omega, rfl⟩
      · rw [if_neg hl]
        exact ⟨0, by omega, nI_0.symm⟩
    · rw [if_neg h4, nI_clamp (by omega)]
      obtain ⟨b, hb⟩ := pn_b_some (pn_lk s p k) (fun i => decide (i ≠ j)) J (if j = 0 then 1 else 0) (by split <;> omega) (by split <;> simp <;> omega)
      rw [hb]
      exact ⟨b, (pn_b_lt _ _ _ _ hb).1, rfl⟩
