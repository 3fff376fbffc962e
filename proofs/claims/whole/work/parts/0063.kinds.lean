/-! ===== kinds ===== -/
def pn_fl (f : Nat → Int32) (v : Int32) (q : Nat) : Nat → Int32 := fun k => if k < q then v else f k
theorem pn_fl_0 (f : Nat → Int32) (v : Int32) : pn_fl f v 0 = f := by
  funext k
  unfold pn_fl
  rw [if_neg (by omega)]
theorem pn_fl_s (f : Nat → Int32) (v : Int32) (q : Nat) : upd (pn_fl f v q) q v = pn_fl f v (q + 1) := by
  funext k
  by_cases h : k = q
  · subst h
    rw [pu_us]
    unfold pn_fl
    rw [if_pos (by omega)]
  · rw [pu_un h]
    unfold pn_fl
    by_cases h2 : k < q
    · rw [if_pos h2, if_pos (by omega)]
    · rw [if_neg h2, if_neg (by omega)]
theorem pn_fl_in {f : Nat → Int32} {v : Int32} {q k : Nat} (h : k < q) : pn_fl f v q k = v := if_pos h
theorem pu_fill_loop {N n0 : Nat} {f : Nat → Int32} {v : Int32} (hn : n0 < 2 ^ 20) : ∀ (d q m : Nat), q + d = n0 → d < m → pq_w (fun _ _ => none) (f_J7_fill_53178_L5 N n0 v (nI n0)) m (nI q) (pn_fl f v q) = some (pn_fl f v n0)
  | 0, q, m, e1, e2 => by
    obtain ⟨m, rfl⟩ : ∃ t, m = t + 1 := ⟨m - 1, by omega⟩
    rw [pu_w]
    unfold f_J7_fill_53178_L5
    rw [if_pos (by rw [nI_leI (by omega) (by omega)]; omega), show q = n0 by omega]
  | d + 1, q, m, e1, e2 => by
    obtain ⟨m, rfl⟩ : ∃ t, m = t + 1 := ⟨m - 1, by omega⟩
    have ih := pu_fill_loop (N := N) (f := f) (v := v) hn d (q + 1) m (by omega) (by omega)
    rw [pu_w]
    generalize pq_w (fun _ _ => none) (f_J7_fill_53178_L5 N n0 v (nI n0)) m = kk at ih ⊢
    unfold f_J7_fill_53178_L5
    rw [if_neg (by rw [nI_leI (by omega) (by omega)]; omega)]
    simp (disch := omega) only [pu_gd, nI_clamp, pu_l, nI_1]
    rw [pn_fl_s]
    exact ih
theorem pu_fill {N n0 : Nat} {f : Nat → Int32} {v : Int32} (hn : n0 < 2 ^ 20) (hN : n0 < N) : f_J7_fill_53178 N n0 f v = some (pn_fl f v n0) := by
  unfold f_J7_fill_53178
  rw [pu_l]
  have e := pu_fill_loop (N := N) (f := f) (v := v) hn n0 0 N (by omega) hN
  rw [pn_fl_0, nI_0] at e
  exact e
def pn_K (nm : Nat → Nat → Nat) (c Y : Nat → Nat) (n v : Nat) : Bool := decide (1 ≤ v) && pn_al (fun k => decide (nm v (c k) = Y k)) n
theorem pn_K_pos {nm : Nat → Nat → Nat} {c Y : Nat → Nat} {n v : Nat} (h : 1 ≤ v) : pn_K nm c Y n v = pn_al (fun k => decide (nm v (c k) = Y k)) n := by
  unfold pn_K
  rw [decide_eq_true h, Bool.true_and]
theorem pu_ko_in {N n v J : Nat} {f g a3 a4 : Nat → Int32} {p : Int32} {nm : Nat → Nat → Nat} {c Y : Nat → Nat} {x3 : Int32} {kL5 : Int32 → Int32 → Option Int32} (hn : n ≤ 10) (hv : v ≤ 5) (hnm : ∀ k, k < n → f_X1_namedAs N (nI J) a3 a4 p (nI v) (f k) = some (nI (nm v (c k))) ∧ nm v (c k) < 6) (hg : ∀ k, k < n → g k = nI (Y k) ∧ Y k < 6) : ∀ (d k m : Nat), k + d = n → d < m → pq_w (fun _ _ => none) (f_X2_kindsOf_L17 N (nI n) f g (nI J) a3 a4 p x3 (nI v) kL5) m (pn_i (pn_al (fun k => decide (nm v (c k) = Y k)) k)) (nI k) = kL5 (if pn_al (fun k => decide (nm v (c k) = Y k)) n then x3 ||| ((1 : Int32) <<< (nI v &&& 31)) else x3) (nI (v + 1))
  | 0, k, m, h1, h2 => by
    obtain ⟨m, rfl⟩ : ∃ t, m = t + 1 := ⟨m - 1, by omega⟩
    rw [pu_w]
    unfold f_X2_kindsOf_L17
    rw [if_pos (by rw [nI_leI (by omega) (by omega)]; omega), show k = n by omega]
    simp only [pu_j, pu_l, nI_1]
    cases pn_al (fun k => decide (nm v (c k) = Y k)) n
    · rw [if_pos (show pn_i false = 0 from rfl)]; rfl
    · rw [if_neg (show ¬ pn_i true = 0 by decide)]; rfl
  | d + 1, k, m, h1, h2 => by
    obtain ⟨m, rfl⟩ : ∃ t, m = t + 1 := ⟨m - 1, by omega⟩
    have ih := pu_ko_in (x3 := x3) (kL5 := kL5) hn hv hnm hg d (k + 1) m (by omega) (by omega)
    rw [pu_w]
    generalize pq_w (fun _ _ => none) (f_X2_kindsOf_L17 N (nI n) f g (nI J) a3 a4 p x3 (nI v) kL5) m = kk at ih ⊢
    unfold f_X2_kindsOf_L17
    obtain ⟨eg, hY⟩ := hg k (by omega)
    obtain ⟨en, hm⟩ := hnm k (by omega)
    rw [if_neg (by rw [nI_leI (by omega) (by omega)]; omega)]
    simp (disch := omega) only [pu_gd, nI_clamp, pu_j, pu_l, nI_1, eg, en, pu_cs]
    rw [pn_al_s] at ih
    cases hal : pn_al (fun k => decide (nm v (c k) = Y k)) k
    · rw [hal, Bool.false_and] at ih
      rw [if_pos (show pn_i false = 0 from rfl)]
      exact ih
    · rw [hal, Bool.true_and] at ih
      rw [if_neg (show ¬ pn_i true = 0 by decide)]
      by_cases h : nm v (c k) = Y k
      · rw [decide_eq_true h] at ih
        rw [if_pos (by rw [h])]
        exact ih
      · rw [decide_eq_false h] at ih
        rw [if_neg (by rw [nI_eq (by omega) (by omega)]; exact h)]
        exact ih
theorem pu_ko {N n J : Nat} {f g a3 a4 : Nat → Int32} {p : Int32} {nm : Nat → Nat → Nat} {c Y : Nat → Nat} (hN : 20 < N) (hn : n ≤ 10) (hnm : ∀ v, 1 ≤ v → v ≤ 5 → ∀ k, k < n → f_X1_namedAs N (nI J) a3 a4 p (nI v) (f k) = some (nI (nm v (c k))) ∧ nm v (c k) < 6) (hg : ∀ k, k < n → g k = nI (Y k) ∧ Y k < 6) : ∀ (d v m : Nat), v + d = 6 → 1 ≤ v → d < m → pq_w (fun _ _ => none) (f_X2_kindsOf_L5 N (nI n) f g (nI J) a3 a4 p) m (nI (pn_bm (pn_K nm c Y n) v)) (nI v) = some (nI (pn_bm (pn_K nm c Y n) 6))
  | 0, v, m, h1, h3, h2 => by
    obtain ⟨m, rfl⟩ : ∃ t, m = t + 1 := ⟨m - 1, by omega⟩
    rw [pu_w]
    unfold f_X2_kindsOf_L5
    rw [if_pos (by rw [pu_lit 5, nI_ltI (by omega) (by omega)]; omega), show v = 6 by omega]
  | d + 1, v, m, h1, h3, h2 => by
    obtain ⟨m, rfl⟩ : ∃ t, m = t + 1 := ⟨m - 1, by omega⟩
    have ih := pu_ko hN hn hnm hg d (v + 1) m (by omega) (by omega) (by omega)
    rw [pu_w]
    generalize pq_w (fun _ _ => none) (f_X2_kindsOf_L5 N (nI n) f g (nI J) a3 a4 p) m = kk at ih ⊢
    unfold f_X2_kindsOf_L5
    rw [if_neg (by rw [pu_lit 5, nI_ltI (by omega) (by omega)]; omega)]
    refine (pu_ko_in (v := v) hn (by omega) (hnm v h3 (by omega)) hg n 0 N (by omega) (by omega)).trans ?_
    rw [pn_bm_or (by omega), pn_K_pos h3] at ih
    exact ih
theorem pu_kb_in {N n v o : Nat} {s : Nat → Int32} {it : Nat → Int64} {p : Int32} {nm : Nat → Nat → Nat} {c Y : Nat → Nat} {x3 : Int32} {kL5 : Int32 → Int32 → Option Int32} (hn : n ≤ 10) (ho : o + 2 * n ≤ 96) (hv : v ≤ 5) (hnm : ∀ k, k < n → f_X8_namedBy N s p (nI v) (it (o + 2 * k)).toInt32 = some (nI (nm v (c k))) ∧ nm v (c k) < 6) (hg : ∀ k, k < n → (it (o + 2 * k + 1)).toInt = (Y k : Int) ∧ Y k < 6) : ∀ (d k m : Nat), k + d = n → d < m → pq_w (fun _ _ => none) (f_X8_kindsBy_L18 N it s p (nI o) (nI n) x3 (nI v) kL5) m (pn_i (pn_al (fun k => decide (nm v (c k) = Y k)) k)) (nI k) = kL5 (if pn_al (fun k => decide (nm v (c k) = Y k)) n then x3 ||| ((1 : Int32) <<< (nI v &&& 31)) else x3) (nI (v + 1))
  | 0, k, m, h1, h2 => by
    obtain ⟨m, rfl⟩ : ∃ t, m = t + 1 := ⟨m - 1, by omega⟩
    rw [pu_w]
    unfold f_X8_kindsBy_L18
    rw [if_pos (by rw [nI_leI (by omega) (by omega)]; omega), show k = n by omega]
    simp only [pu_j, pu_l, nI_1]
    cases pn_al (fun k => decide (nm v (c k) = Y k)) n
    · rw [if_pos (show pn_i false = 0 from rfl), Int32.or_zero]; rfl
    · rw [if_neg (show ¬ pn_i true = 0 by decide)]; rfl
  | d + 1, k, m, h1, h2 => by
    obtain ⟨m, rfl⟩ : ∃ t, m = t + 1 := ⟨m - 1, by omega⟩
    have ih := pu_kb_in (x3 := x3) (kL5 := kL5) hn ho hv hnm hg d (k + 1) m (by omega) (by omega)
    rw [pu_w]
    generalize pq_w (fun _ _ => none) (f_X8_kindsBy_L18 N it s p (nI o) (nI n) x3 (nI v) kL5) m = kk at ih ⊢
    unfold f_X8_kindsBy_L18
    rw [if_neg (by rw [nI_leI (by omega) (by omega)]; omega)]
    obtain ⟨eg, hY⟩ := hg k (by omega)
    obtain ⟨en, hm⟩ := hnm k (by omega)
    simp (disch := omega) only [pu_lit 2, pk_mul, nI_add, nI_clamp, pu_gd, pu_j, pu_l, nI_1]
    rw [en, pu_cs]
    rw [pn_al_s] at ih
    cases hal : pn_al (fun k => decide (nm v (c k) = Y k)) k
    · rw [hal, Bool.false_and] at ih
      rw [if_pos (show pn_i false = 0 from rfl)]
      exact ih
    · rw [hal, Bool.true_and] at ih
      rw [if_neg (show ¬ pn_i true = 0 by decide)]
      have he : lg_cmp (nI (nm v (c k))).toInt64 (it (o + 2 * k + 1)) = 0 ↔ nm v (c k) = Y k := by
        rw [lg_cmp_eq, ← Int64.toInt_inj, pu_i64 (by omega), eg]
        omega
      by_cases h : nm v (c k) = Y k
      · rw [decide_eq_true h] at ih
        rw [if_pos (he.mpr h)]
        exact ih
      · rw [decide_eq_false h] at ih
        rw [if_neg (fun e => h (he.mp e))]
        exact ih
theorem pu_kb {N n o : Nat} {s : Nat → Int32} {it : Nat → Int64} {p : Int32} {nm : Nat → Nat → Nat} {c Y : Nat → Nat} (hN : 20 < N) (hn : n ≤ 10) (ho : o + 2 * n ≤ 96) (hnm : ∀ v, 1 ≤ v → v ≤ 5 → ∀ k, k < n → f_X8_namedBy N s p (nI v) (it (o + 2 * k)).toInt32 = some (nI (nm v (c k))) ∧ nm v (c k) < 6) (hg : ∀ k, k < n → (it (o + 2 * k + 1)).toInt = (Y k : Int) ∧ Y k < 6) : ∀ (d v m : Nat), v + d = 6 → 1 ≤ v → d < m → pq_w (fun _ _ => none) (f_X8_kindsBy_L6 N it s p (nI o) (nI n)) m (nI (pn_bm (pn_K nm c Y n) v)) (nI v) = some (nI (pn_bm (pn_K nm c Y n) 6))
  | 0, v, m, h1, h3, h2 => by
    obtain ⟨m, rfl⟩ : ∃ t, m = t + 1 := ⟨m - 1, by omega⟩
    rw [pu_w]
    unfold f_X8_kindsBy_L6
    rw [if_pos (by rw [pu_lit 5, nI_ltI (by omega) (by omega)]; omega), show v = 6 by omega]
  | d + 1, v, m, h1, h3, h2 => by
    obtain ⟨m, rfl⟩ : ∃ t, m = t + 1 := ⟨m - 1, by omega⟩
    have ih := pu_kb hN hn ho hnm hg d (v + 1) m (by omega) (by omega) (by omega)
    rw [pu_w]
    generalize pq_w (fun _ _ => none) (f_X8_kindsBy_L6 N it s p (nI o) (nI n)) m = kk at ih ⊢
    unfold f_X8_kindsBy_L6
    rw [if_neg (by rw [pu_lit 5, nI_ltI (by omega) (by omega)]; omega)]
    refine (pu_kb_in (v := v) hn ho (by omega) (hnm v h3 (by omega)) hg n 0 N (by omega) (by omega)).trans ?_
    rw [pn_bm_or (by omega), pn_K_pos h3] at ih
    exact ih
/-- the greatest of f below n, 0 at least -/
def pn_gm (f : Nat → Nat) : Nat → Nat
  | 0 => 0
  | n + 1 => if f n ≤ pn_gm f n then pn_gm f n else f n
theorem pn_gm_s (f : Nat → Nat) (n : Nat) : pn_gm f (n + 1) = if f n ≤ pn_gm f n then pn_gm f n else f n := rfl
theorem pn_gm_le (f : Nat → Nat) : ∀ n z, pn_gm f n ≤ z ↔ ∀ o, o < n → f o ≤ z
  | 0, z => ⟨fun _ o h => absurd h (by omega), fun _ => Nat.zero_le _⟩
  | n + 1, z => by
    have ih := pn_gm_le f n z
    rw [pn_gm_s]
    constructor
    · intro h o ho
      by_cases g : f n ≤ pn_gm f n
      · rw [if_pos g] at h
        by_cases e : o = n
        · subst e; omega
        · exact ih.mp h o (by omega)
      · rw [if_neg g] at h
        by_cases e : o = n
        · subst e; omega
        · exact ih.mp (by omega) o (by omega)
    · intro h
      have := ih.mpr (fun o ho => h o (by omega))
      have := h n (by omega)
      split <;> omega
def pn_ct (q : Nat → Bool) (nm : Nat → Nat) (i o : Nat) : Nat := pn_cn (fun v => q v && decide (nm v = o)) i
theorem pn_ct_s (q : Nat → Bool) (nm : Nat → Nat) (i o : Nat) : pn_ct q nm (i + 1) o = pn_ct q nm i o + (if (q i && decide (nm i = o)) = true then 1 else 0) := rfl
theorem pn_ct_le (q : Nat → Bool) (nm : Nat → Nat) (i o : Nat) : pn_ct q nm i o ≤ i := pn_cn_le _ i
theorem pn_gm_up {q : Nat → Bool} {nm : Nat → Nat} {i J : Nat} (hq : q i = true) (hm : nm i < J) : pn_gm (pn_ct q nm (i + 1)) J = if pn_gm (pn_ct q nm i) J < pn_ct q nm (i + 1) (nm i) then pn_ct q nm (i + 1) (nm i) else pn_gm (pn_ct q nm i) J := by
  have hmono : ∀ o, pn_ct q nm i o ≤ pn_ct q nm (i + 1) o := fun o => by rw [pn_ct_s]; omega
  have hne : ∀ o, o ≠ nm i → pn_ct q nm (i + 1) o = pn_ct q nm i o := fun o ho => by
    rw [pn_ct_s, hq, Bool.true_and, decide_eq_false (fun e => ho e.symm)]
    rfl
  have a1 : pn_ct q nm (i + 1) (nm i) ≤ pn_gm (pn_ct q nm (i + 1)) J := (pn_gm_le _ J _).mp (Nat.le_refl _) _ hm
  have a2 : pn_gm (pn_ct q nm i) J ≤ pn_gm (pn_ct q nm (i + 1)) J := (pn_gm_le _ J _).mpr (fun o ho => Nat.le_trans (hmono o) ((pn_gm_le _ J _).mp (Nat.le_refl _) o ho))
  have a3 : ∀ z, pn_ct q nm (i + 1) (nm i) ≤ z → pn_gm (pn_ct q nm i) J ≤ z → pn_gm (pn_ct q nm (i + 1)) J ≤ z := by
    intro z h1 h2
    refine (pn_gm_le _ J _).mpr (fun o ho => ?_)
    by_cases e : o = nm i
    · rw [e]; exact h1
    · rw [hne o e]
      exact (pn_gm_le _ J _).mp h2 o ho
  by_cases h : pn_gm (pn_ct q nm i) J < pn_ct q nm (i + 1) (nm i)
  · rw [if_pos h]
    have := a3 _ (Nat.le_refl _) (by omega)
    omega
  · rw [if_neg h]
    have := a3 (pn_gm (pn_ct q nm i) J) (by omega) (Nat.le_refl _)
    omega
theorem pn_gm_same {q : Nat → Bool} {nm : Nat → Nat} {i J : Nat} (hq : q i = false) : pn_gm (pn_ct q nm (i + 1)) J = pn_gm (pn_ct q nm i) J := by
  have : pn_ct q nm (i + 1) = pn_ct q nm i := by
    funext o
    rw [pn_ct_s, hq, Bool.false_and]
    rfl
  rw [this]
theorem pu_gt_loop {N J j : Nat} {a3 a4 : Nat → Int32} {p : Int32} {q : Nat → Bool} {nm : Nat → Nat} (hJ : J ≤ 6) (hnm : ∀ v, 1 ≤ v → v ≤ 5 → f_X1_namedAs N (nI J) a3 a4 p (nI v) (nI j) = some (nI (nm v)) ∧ nm v < J) : ∀ (d i m : Nat) (al : Nat → Int32), i + d = 6 → 1 ≤ i → d < m → (∀ o, o < 6 → al o = nI (pn_ct q nm i o)) → ∃ al', pq_w (fun _ _ _ => none) (f_X2_greatestPart_L14 N (nI J) a3 a4 p (nI j) (nI (pn_bm q 6))) m (nI (pn_gm (pn_ct q nm i) J)) (nI i) al = some (nI (pn_gm (pn_ct q nm 6) J), al')
  | 0, i, m, al, h1, h3, h2, hal => by
    obtain ⟨m, rfl⟩ : ∃ t, m = t + 1 := ⟨m - 1, by omega⟩
    rw [pu_w]
    unfold f_X2_greatestPart_L14
    rw [if_pos (by rw [pu_lit 5, nI_ltI (by omega) (by omega)]; omega), show i = 6 by omega]
    exact ⟨al, rfl⟩
  | d + 1, i, m, al, h1, h3, h2, hal => by
    obtain ⟨m, rfl⟩ : ∃ t, m = t + 1 := ⟨m - 1, by omega⟩
    have ih := pu_gt_loop (q := q) hJ hnm d (i + 1) m
    have hM := pn_bm_lt q 6
    rw [pu_w]
    generalize pq_w (fun _ _ _ => none) (f_X2_greatestPart_L14 N (nI J) a3 a4 p (nI j) (nI (pn_bm q 6))) m = kk at ih ⊢
    unfold f_X2_greatestPart_L14
    obtain ⟨en, hm⟩ := hnm i h3 (by omega)
    rw [if_neg (by rw [pu_lit 5, nI_ltI (by omega) (by omega)]; omega), pu_j, pu_bitN (by omega) (by omega), pn_bm_bit q 6 i (by omega)]
    cases hq : q i
    · rw [if_neg (by decide)]
      dsimp only
      rw [pu_l, nI_1]
      have := ih al (by omega) (by omega) (by omega) (fun o ho => by rw [hal o ho, pn_ct_s, hq, Bool.false_and]; rfl)
      rw [pn_gm_same hq] at this
      exact this
    · rw [if_pos (by decide), en, pu_cs]
      simp (disch := omega) only [pu_gd, nI_clamp, pu_l, nI_1, pu_us]
      have ec : al (nm i) = nI (pn_ct q nm i (nm i)) := hal _ (by omega)
      have es : pn_ct q nm (i + 1) (nm i) = pn_ct q nm i (nm i) + 1 := by
        rw [pn_ct_s, hq, Bool.true_and, decide_eq_true rfl]
        rfl
      rw [ec, nI_1, ← es]
      have b1 := pn_ct_le q nm (i + 1) (nm i)
      have b2 : pn_gm (pn_ct q nm i) J ≤ i := (pn_gm_le _ J _).mpr (fun o _ => pn_ct_le q nm i o)
      have := ih (upd al (nm i) (nI (pn_ct q nm (i + 1) (nm i)))) (by omega) (by omega) (by omega) (fun o ho => by
        by_cases e : o = nm i
        · rw [e, pu_us]
        · rw [pu_un e, hal o ho, pn_ct_s, hq, Bool.true_and, decide_eq_false (fun e' => e e'.symm)]
          rfl)
      rw [pn_gm_up hq hm] at this
      by_cases g : pn_gm (pn_ct q nm i) J < pn_ct q nm (i + 1) (nm i)
      · rw [if_pos g] at this
        rw [if_pos ((nI_ltI (by omega) (by omega)).mpr g)]
        exact this
      · rw [if_neg g] at this
        rw [if_neg (by rw [nI_ltI (by omega) (by omega)]; exact g)]
        exact this
theorem pn_gm_z {q : Nat → Bool} {nm : Nat → Nat} {J : Nat} (h0 : q 0 = false) : pn_gm (pn_ct q nm 1) J = 0 ∧ ∀ o, pn_ct q nm 1 o = 0 := by
  have hz : ∀ o, pn_ct q nm 1 o = 0 := by
    intro o
    rw [pn_ct_s, h0, Bool.false_and]
    rfl
  have := (pn_gm_le (pn_ct q nm 1) J 0).mpr (fun o _ => by rw [hz o]; exact Nat.le_refl _)
  exact ⟨by omega, hz⟩
theorem pu_gt {N J j : Nat} {a3 a4 al : Nat → Int32} {p : Int32} {q : Nat → Bool} {nm : Nat → Nat} (hN : 20 < N) (hJ : J ≤ 6) (h0 : q 0 = false) (hnm : ∀ v, 1 ≤ v → v ≤ 5 → f_X1_namedAs N (nI J) a3 a4 p (nI v) (nI j) = some (nI (nm v)) ∧ nm v < J) : ∃ al', f_X2_greatestPart N al (nI J) a3 a4 p (nI j) (nI (pn_bm q 6)) = some (nI (pn_gm (pn_ct q nm 6) J), al') := by
  unfold f_X2_greatestPart
  rw [pu_fill (by omega) (by omega), pu_cs]
  obtain ⟨z1, z2⟩ := pn_gm_z (q := q) (nm := nm) (J := J) h0
  have := pu_gt_loop (q := q) hJ hnm 5 1 N (pn_fl al 0 6) (by omega) (by omega) (by omega) (fun o ho => by rw [pn_fl_in ho, z2 o]; exact nI_0.symm)
  rw [z1] at this
  exact this
theorem pn_gm6_le {q : Nat → Bool} {nm : Nat → Nat} {J : Nat} : pn_gm (pn_ct q nm 6) J ≤ 6 := (pn_gm_le _ J _).mpr (fun o _ => pn_ct_le q nm 6 o)
theorem pu_jt_loop {N J : Nat} {a3 a4 : Nat → Int32} {p : Int32} {q : Nat → Bool} {nm : Nat → Nat → Nat} (hN : 20 < N) (hJ : J ≤ 6) (h0 : q 0 = false) (hq : pn_bm q 6 ≠ 0) (hnm : ∀ v, 1 ≤ v → v ≤ 5 → ∀ j, j < J → f_X1_namedAs N (nI J) a3 a4 p (nI v) (nI j) = some (nI (nm v j)) ∧ nm v j < J) : ∀ (d j m : Nat) (al : Nat → Int32), j + d = J → d < m → ∃ al', pq_w (fun _ _ _ _ => none) (f_X2_judgeToTry_L10 N (nI J) a3 a4 p (nI (pn_bm q 6))) m (pn_e (pn_mb (fun j => pn_gm (pn_ct q (fun v => nm v j) 6) J) j)) (pn_mv (fun j => pn_gm (pn_ct q (fun v => nm v j) 6) J) 0 (pn_mb (fun j => pn_gm (pn_ct q (fun v => nm v j) 6) J) j)) (nI j) al = some (pn_e (pn_mb (fun j => pn_gm (pn_ct q (fun v => nm v j) 6) J) J), al')
  | 0, j, m, al, h1, h2 => by
    obtain ⟨m, rfl⟩ : ∃ t, m = t + 1 := ⟨m - 1, by omega⟩
    rw [pu_w]
    unfold f_X2_judgeToTry_L10
    rw [if_pos (by rw [nI_leI (by omega) (by omega)]; omega), show j = J by omega]
    exact ⟨al, rfl⟩
  | d + 1, j, m, al, h1, h2 => by
    obtain ⟨m, rfl⟩ : ∃ t, m = t + 1 := ⟨m - 1, by omega⟩
    have hM := pn_bm_lt q 6
    obtain ⟨al1, eg⟩ := pu_gt (N := N) (al := al) (j := j) (q := q) (nm := fun v => nm v j) hN hJ h0 (fun v hv1 hv2 => hnm v hv1 hv2 j (by omega))
    have ih := pu_jt_loop hN hJ h0 hq hnm d (j + 1) m al1 (by omega) (by omega)
    rw [pu_w]
    generalize pq_w (fun _ _ _ _ => none) (f_X2_judgeToTry_L10 N (nI J) a3 a4 p (nI (pn_bm q 6))) m = kk at ih ⊢
    unfold f_X2_judgeToTry_L10
    rw [if_neg (by rw [nI_leI (by omega) (by omega)]; omega), if_neg (by rw [pu_lit 0, nI_eq (by omega) (by omega)]; exact hq), eg, pu_cs]
    simp only [pu_j, pu_l, nI_1]
    rw [pn_mb_s] at ih
    cases e : pn_mb (fun j => pn_gm (pn_ct q (fun v => nm v j) 6) J) j with
    | none =>
      rw [e] at ih
      rw [if_pos (show pn_e none = -4 from rfl)]
      exact ih
    | some b =>
      rw [e] at ih
      dsimp only at ih
      have hb := pn_mb_lt _ _ _ e
      rw [if_neg (show ¬ pn_e (some b) = -4 from pu_ne4 (by omega))]
      have w1 := pn_gm6_le (q := q) (nm := fun v => nm v j) (J := J)
      have w2 := pn_gm6_le (q := q) (nm := fun v => nm v b) (J := J)
      by_cases g : pn_gm (pn_ct q (fun v => nm v j) 6) J < pn_gm (pn_ct q (fun v => nm v b) 6) J
      · rw [if_pos g] at ih
        rw [if_neg (show ¬ pn_mv (fun j => pn_gm (pn_ct q (fun v => nm v j) 6) J) 0 (some b) ≤ nI (pn_gm (pn_ct q (fun v => nm v j) 6) J) from by unfold pn_mv; dsimp only; rw [nI_leI (by omega) (by omega)]; omega)]
        exact ih
      · rw [if_neg g] at ih
        rw [if_pos (show pn_mv (fun j => pn_gm (pn_ct q (fun v => nm v j) 6) J) 0 (some b) ≤ nI (pn_gm (pn_ct q (fun v => nm v j) 6) J) from by unfold pn_mv; dsimp only; rw [nI_leI (by omega) (by omega)]; omega)]
        exact ih
theorem pu_bj_in2 {N j o : Nat} {s : Nat → Int32} {p x6 : Int32} {q : Nat → Bool} {nm : Nat → Nat} {kL31 : Int32 → Int32 → Option Int32} (ho : o < 6) (hnm : ∀ v, 1 ≤ v → v ≤ 5 → f_X8_namedBy N s p (nI v) (nI j) = some (nI (nm v)) ∧ nm v < 6) : ∀ (d i m : Nat), i + d = 6 → 1 ≤ i → d < m → pq_w (fun _ _ => none) (f_X8_bestJudge_L48 N s p (nI (pn_bm q 6)) (nI j) x6 (nI o) kL31) m (nI (pn_ct q nm i o)) (nI i) = if nI (pn_ct q nm 6 o) ≤ x6 then kL31 x6 (nI (o + 1)) else kL31 (nI (pn_ct q nm 6 o)) (nI (o + 1))
  | 0, i, m, h1, h3, h2 => by
    obtain ⟨m, rfl⟩ : ∃ t, m = t + 1 := ⟨m - 1, by omega⟩
    rw [pu_w]
    unfold f_X8_bestJudge_L48
    rw [if_pos (by rw [pu_lit 5, nI_ltI (by omega) (by omega)]; omega), show i = 6 by omega]
    simp only [pu_j, pu_l, nI_1]
  | d + 1, i, m, h1, h3, h2 => by
    obtain ⟨m, rfl⟩ : ∃ t, m = t + 1 := ⟨m - 1, by omega⟩
    have ih := pu_bj_in2 (x6 := x6) (q := q) (kL31 := kL31) ho hnm d (i + 1) m (by omega) (by omega) (by omega)
    have hM := pn_bm_lt q 6
    obtain ⟨en, hm⟩ := hnm i h3 (by omega)
    rw [pu_w]
    generalize pq_w (fun _ _ => none) (f_X8_bestJudge_L48 N s p (nI (pn_bm q 6)) (nI j) x6 (nI o) kL31) m = kk at ih ⊢
    unfold f_X8_bestJudge_L48
    rw [if_neg (by rw [pu_lit 5, nI_ltI (by omega) (by omega)]; omega), pu_hasN (by omega) (by omega), pu_cs, pn_bm_bit q 6 i (by omega), en]
    simp only [pu_j, pu_l, pu_cs, nI_1]
    rw [pn_ct_s] at ih
    cases hq : q i
    · rw [hq, Bool.false_and] at ih
      rw [if_pos (by decide), Int32.add_zero]
      exact ih
    · rw [hq, Bool.true_and] at ih
      rw [if_neg (by decide)]
      by_cases hp : nm i = o
      · rw [decide_eq_true hp] at ih
        rw [if_pos (by rw [hp])]
        exact ih
      · rw [decide_eq_false hp] at ih
        rw [if_neg (by rw [nI_eq (by omega) (by omega)]; exact hp), Int32.add_zero]
        exact ih
theorem pu_bj_in {N j J : Nat} {s : Nat → Int32} {p x3 x4 : Int32} {q : Nat → Bool} {nm : Nat → Nat} {kL10 : Int32 → Int32 → Int32 → Option Int32} (hN : 20 < N) (hJ : J ≤ 6) (eJ : s 3 = nI J) (h0 : q 0 = false) (hnm : ∀ v, 1 ≤ v → v ≤ 5 → f_X8_namedBy N s p (nI v) (nI j) = some (nI (nm v)) ∧ nm v < 6) : ∀ (d o m : Nat), o + d = J → d < m → pq_w (fun _ _ => none) (f_X8_bestJudge_L31 N s p (nI (pn_bm q 6)) x3 x4 (nI j) kL10) m (nI (pn_gm (pn_ct q nm 6) o)) (nI o) = if x4 ≤ nI (pn_gm (pn_ct q nm 6) J) then kL10 x3 x4 (nI (j + 1)) else kL10 (nI j) (nI (pn_gm (pn_ct q nm 6) J)) (nI (j + 1))
  | 0, o, m, h1, h2 => by
    obtain ⟨m, rfl⟩ : ∃ t, m = t + 1 := ⟨m - 1, by omega⟩
    rw [pu_w]
    unfold f_X8_bestJudge_L31
    rw [pq_gd_i (by decide), show (3 : Int32).toNatClampNeg = 3 from rfl, eJ, if_pos (by rw [nI_leI (by omega) (by omega)]; omega), show o = J by omega]
    simp only [pu_j, pu_l, nI_1]
    by_cases g : x4 ≤ nI (pn_gm (pn_ct q nm 6) J)
    · simp only [g, if_true]
    · simp only [g, if_false]
  | d + 1, o, m, h1, h2 => by
    obtain ⟨m, rfl⟩ : ∃ t, m = t + 1 := ⟨m - 1, by omega⟩
    have ih := pu_bj_in (x3 := x3) (x4 := x4) (q := q) (kL10 := kL10) hN hJ eJ h0 hnm d (o + 1) m (by omega) (by omega)
    rw [pu_w]
    generalize pq_w (fun _ _ => none) (f_X8_bestJudge_L31 N s p (nI (pn_bm q 6)) x3 x4 (nI j) kL10) m = kk at ih ⊢
    unfold f_X8_bestJudge_L31
    rw [pq_gd_i (by decide), show (3 : Int32).toNatClampNeg = 3 from rfl, eJ, if_neg (by rw [nI_leI (by omega) (by omega)]; omega)]
    obtain ⟨-, z2⟩ := pn_gm_z (q := q) (nm := nm) (J := J) h0
    have e := pu_bj_in2 (N := N) (j := j) (x6 := nI (pn_gm (pn_ct q nm 6) o)) (q := q) (kL31 := kk) (show o < 6 by omega) hnm 5 1 N (by omega) (by omega) (by omega)
    rw [z2 o, nI_0] at e
    refine e.trans ?_
    rw [pn_gm_s] at ih
    have b1 := pn_ct_le q nm 6 o
    have b2 := pn_gm6_le (q := q) (nm := nm) (J := o)
    by_cases g : pn_ct q nm 6 o ≤ pn_gm (pn_ct q nm 6) o
    · rw [if_pos g] at ih
      rw [if_pos ((nI_leI (by omega) (by omega)).mpr g)]
      exact ih
    · rw [if_neg g] at ih
      rw [if_neg (by rw [nI_leI (by omega) (by omega)]; exact g)]
      exact ih
theorem pu_bj_loop {N J : Nat} {s : Nat → Int32} {p : Int32} {q : Nat → Bool} {nm : Nat → Nat → Nat} (hN : 20 < N) (hJ : J ≤ 6) (eJ : s 3 = nI J) (h0 : q 0 = false) (hq : pn_bm q 6 ≠ 0) (hnm : ∀ v, 1 ≤ v → v ≤ 5 → ∀ j, j < J → f_X8_namedBy N s p (nI v) (nI j) = some (nI (nm v j)) ∧ nm v j < 6) : ∀ (d j m : Nat), j + d = J → d < m → pq_w (fun _ _ _ => none) (f_X8_bestJudge_L10 N s p (nI (pn_bm q 6))) m (pn_e (pn_mb (fun j => pn_gm (pn_ct q (fun v => nm v j) 6) J) j)) (pn_mv (fun j => pn_gm (pn_ct q (fun v => nm v j) 6) J) 99 (pn_mb (fun j => pn_gm (pn_ct q (fun v => nm v j) 6) J) j)) (nI j) = some (pn_e (pn_mb (fun j => pn_gm (pn_ct q (fun v => nm v j) 6) J) J))
  | 0, j, m, h1, h2 => by
    obtain ⟨m, rfl⟩ : ∃ t, m = t + 1 := ⟨m - 1, by omega⟩
    rw [pu_w]
    unfold f_X8_bestJudge_L10
    rw [pq_gd_i (by decide), show (3 : Int32).toNatClampNeg = 3 from rfl, eJ, if_pos (by rw [nI_leI (by omega) (by omega)]; omega), show j = J by omega]
  | d + 1, j, m, h1, h2 => by
    obtain ⟨m, rfl⟩ : ∃ t, m = t + 1 := ⟨m - 1, by omega⟩
    have ih := pu_bj_loop hN hJ eJ h0 hq hnm d (j + 1) m (by omega) (by omega)
    have hM := pn_bm_lt q 6
    rw [pu_w]
    generalize pq_w (fun _ _ _ => none) (f_X8_bestJudge_L10 N s p (nI (pn_bm q 6))) m = kk at ih ⊢
    unfold f_X8_bestJudge_L10
    rw [pq_gd_i (by decide), show (3 : Int32).toNatClampNeg = 3 from rfl, eJ, if_neg (by rw [nI_leI (by omega) (by omega)]; omega), if_neg (by rw [pu_lit 0, nI_eq (by omega) (by omega)]; exact hq)]
    refine (pu_bj_in (q := q) (nm := fun v => nm v j) hN hJ eJ h0 (fun v hv1 hv2 => hnm v hv1 hv2 j (by omega)) J 0 N (by omega) (by omega)).trans ?_
    rw [pn_mb_s] at ih
    have w1 := pn_gm6_le (q := q) (nm := fun v => nm v j) (J := J)
    cases e : pn_mb (fun j => pn_gm (pn_ct q (fun v => nm v j) 6) J) j with
    | none =>
      rw [e] at ih
      rw [if_neg (show ¬ pn_mv (fun j => pn_gm (pn_ct q (fun v => nm v j) 6) J) 99 none ≤ nI (pn_gm (pn_ct q (fun v => nm v j) 6) J) from by unfold pn_mv; dsimp only; rw [nI_leI (by omega) (by omega)]; omega)]
      exact ih
    | some b =>
      rw [e] at ih
      dsimp only at ih
      have w2 := pn_gm6_le (q := q) (nm := fun v => nm v b) (J := J)
      by_cases g : pn_gm (pn_ct q (fun v => nm v j) 6) J < pn_gm (pn_ct q (fun v => nm v b) 6) J
      · rw [if_pos g] at ih
        rw [if_neg (show ¬ pn_mv (fun j => pn_gm (pn_ct q (fun v => nm v j) 6) J) 99 (some b) ≤ nI (pn_gm (pn_ct q (fun v => nm v j) 6) J) from by unfold pn_mv; dsimp only; rw [nI_leI (by omega) (by omega)]; omega)]
        exact ih
      · rw [if_neg g] at ih
        rw [if_pos (show pn_mv (fun j => pn_gm (pn_ct q (fun v => nm v j) 6) J) 99 (some b) ≤ nI (pn_gm (pn_ct q (fun v => nm v j) 6) J) from by unfold pn_mv; dsimp only; rw [nI_leI (by omega) (by omega)]; omega)]
        exact ih
theorem pu_tryj {N J : Nat} {s a3 a4 al : Nat → Int32} {p : Int32} {q : Nat → Bool} {nm : Nat → Nat → Nat} (hN : 20 < N) (hJ : 1 ≤ J ∧ J ≤ 6) (eJ : s 3 = nI J) (h0 : q 0 = false) (hnm : ∀ v, 1 ≤ v → v ≤ 5 → ∀ j, j < J → f_X1_namedAs N (nI J) a3 a4 p (nI v) (nI j) = some (nI (nm v j)) ∧ f_X8_namedBy N s p (nI v) (nI j) = some (nI (nm v j)) ∧ nm v j < J) : ∃ z al', f_X2_judgeToTry N al (nI J) a3 a4 p (nI (pn_bm q 6)) = some (z, al') ∧ f_X8_bestJudge N s p (nI (pn_bm q 6)) = some z := by
  unfold f_X2_judgeToTry f_X8_bestJudge
  by_cases hq : pn_bm q 6 = 0
  · obtain ⟨n, rfl⟩ : ∃ t, N = t + 1 := ⟨N - 1, by omega⟩
    rw [hq, pu_w, pu_w]
    unfold f_X2_judgeToTry_L10 f_X8_bestJudge_L10
    rw [pq_gd_i (by decide), show (3 : Int32).toNatClampNeg = 3 from rfl, eJ, if_neg (show ¬ nI J ≤ 0 by rw [pu_lit 0, nI_leI (by omega) (by omega)]; omega), if_neg (show ¬ nI J ≤ 0 by rw [pu_lit 0, nI_leI (by omega) (by omega)]; omega), if_pos (show nI 0 = 0 from rfl), if_pos (show nI 0 = 0 from rfl)]
    exact ⟨_, _, rfl, rfl⟩
  · obtain ⟨al', e⟩ := pu_jt_loop (q := q) (nm := nm) hN hJ.2 h0 hq (fun v h1 h2 j hj => ⟨(hnm v h1 h2 j hj).1, (hnm v h1 h2 j hj).2.2⟩) J 0 N al (by omega) (by omega)
    exact ⟨_, al', e, pu_bj_loop hN hJ.2 eJ h0 hq (fun v h1 h2 j hj => ⟨(hnm v h1 h2 j hj).2.1, by have := (hnm v h1 h2 j hj).2.2; omega⟩) J 0 N (by omega) (by omega)⟩
