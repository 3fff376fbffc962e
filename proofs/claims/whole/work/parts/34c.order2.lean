/-! the reference's side of the orders: the next order -/
def pz_A (X n : Nat) (o : Nat → Nat) (A : Nat → Int32) : Prop := ∀ k, k < n → A k = nI (X + o k)
theorem pz_sw {X n a b : Nat} {o : Nat → Nat} {A : Nat → Int32} (ha : a < n) (hb : b < n) (h : pz_A X n o A) : pz_A X n (px_s o a b) (pn_x2 A 0 a b) := by
  intro k hk
  unfold pn_x2 px_s
  rw [Nat.zero_add, Nat.zero_add]
  by_cases c : k = b
  · rw [c, pu_us, if_pos rfl, h a ha]
  · rw [pu_un c, if_neg c]
    by_cases c2 : k = a
    · rw [c2, pu_us, if_pos rfl, h b hb]
    · rw [pu_un c2, if_neg c2, h k hk]
theorem pz_rev {N X n : Nat} (hn : n ≤ 6) : ∀ (d a b m : Nat) (o : Nat → Nat) (A : Nat → Int32), b ≤ a + 2 * d → b < n → a ≤ n → d < m → pz_A X n o A → ∃ A', pq_w (fun _ _ _ => none) (f_X8_isNextOrder_L82 N) m (nI a) (nI b) A = some (1, A') ∧ pz_A X n (px_r d o a b) A'
  | 0, a, b, m, o, A, h1, h2, h3, h4, hA => by
    obtain ⟨m, rfl⟩ : ∃ t, m = t + 1 := ⟨m - 1, by omega⟩
    rw [pu_w]
    unfold f_X8_isNextOrder_L82
    rw [if_pos ((nI_leI (by omega) (by omega)).mpr (by omega)), pu_b1]
    exact ⟨A, rfl, hA⟩
  | d + 1, a, b, m, o, A, h1, h2, h3, h4, hA => by
    obtain ⟨m, rfl⟩ : ∃ t, m = t + 1 := ⟨m - 1, by omega⟩
    have ih := pz_rev (N := N) (X := X) hn d (a + 1) (b - 1) m
    have hr : px_r (d + 1) o a b = if b ≤ a then o else px_r d (px_s o a b) (a + 1) (b - 1) := rfl
    rw [hr, pu_w]
    generalize pq_w (fun _ _ _ => none) (f_X8_isNextOrder_L82 N) m = kk at ih ⊢
    unfold f_X8_isNextOrder_L82
    by_cases c : b ≤ a
    · rw [if_pos ((nI_leI (by omega) (by omega)).mpr c), pu_b1, if_pos c]
      exact ⟨A, rfl, hA⟩
    · have ec : f_X8_change N 6 A 0 (nI a) (nI b) = some (pn_x2 A 0 a b) := pu_change (o := 0) (by omega) (by omega) (by omega)
      obtain ⟨b, rfl⟩ : ∃ t, b = t + 1 := ⟨b - 1, by omega⟩
      rw [if_neg (fun e => c ((nI_leI (by omega) (by omega)).mp e)), if_neg c, ec, pu_cs, pu_l, pu_l, nI_1, pk_m1]
      exact ih _ _ (by omega) (by omega) (by omega) (by omega) (pz_sw (by omega) h2 hA)
theorem pz_nextj {N X n i : Nat} {o : Nat → Nat} {A : Nat → Int32} (hN : 20 < N) (hn : n ≤ 6) (hX : ∀ k, k < n → X + o k < 2 ^ 20) (hi : i + 1 < n) (hle : o i ≤ o (i + 1)) (hA : pz_A X n o A) : ∀ (d j m : Nat), j = i + 1 + d → j < n → d < m → ∃ A', pq_w (fun _ => none) (f_X8_isNextOrder_L41 N A (nI n) (nI i)) m (nI j) = some (1, A') ∧ pz_A X n (px_r 3 (px_s o i (px_j o (o i) j)) (i + 1) (n - 1)) A'
  | d, j, m, h1, h2, h3 => by
    obtain ⟨m, rfl⟩ : ∃ t, m = t + 1 := ⟨m - 1, by omega⟩
    obtain ⟨q, rfl⟩ : ∃ t, j = t + 1 := ⟨j - 1, by omega⟩
    have x1 := hX i (by omega)
    have x2 := hX (q + 1) h2
    have ih := fun (hd : 0 < d) => pz_nextj (N := N) hN hn hX hi hle hA (d - 1) q m (by omega) (by omega) (by omega)
    have hj : px_j o (o i) (q + 1) = if o i ≤ o (q + 1) then q + 1 else px_j o (o i) q := rfl
    rw [hj, pu_w]
    generalize pq_w (fun _ => none) (f_X8_isNextOrder_L41 N A (nI n) (nI i)) m = kk at ih ⊢
    unfold f_X8_isNextOrder_L41
    rw [pu_gd (by omega) (by omega), pu_gd (by omega) (by omega), nI_clamp (by omega), nI_clamp (by omega), hA i (by omega), hA (q + 1) h2]
    by_cases c : o i ≤ o (q + 1)
    · have ec : f_X8_change N 6 A 0 (nI i) (nI (q + 1)) = some (pn_x2 A 0 i (q + 1)) := pu_change (o := 0) (by omega) (by omega) (by omega)
      have en : nI n - 1 = nI (n - 1) := by rw [pu_lit 1, pk_sub (by omega)]
      rw [if_pos ((nI_leI (by omega) (by omega)).mpr (by omega)), if_pos c, ec, pu_cs, pu_l, nI_1, en, pu_l]
      exact pz_rev (N := N) hn 3 (i + 1) (n - 1) N _ _ (by omega) (by omega) (by omega) (by omega) (pz_sw (by omega) h2 hA)
    · have hd : 0 < d := by
        apply Classical.byContradiction
        intro hd
        have : q = i := by omega
        rw [this] at c
        exact c hle
      rw [if_neg (fun e => c (by rw [nI_leI (by omega) (by omega)] at e; omega)), if_neg c, pu_l, pk_m1]
      exact ih hd
termination_by d => d
theorem pz_nexti {N X n : Nat} {o : Nat → Nat} {A : Nat → Int32} (hN : 20 < N) (hn : n ≤ 6) (hX : ∀ k, k < n → X + o k < 2 ^ 20) (hA : pz_A X n o A) : ∀ (m q : Nat), m + 1 ≤ n → m < q → (px_i o m = none ∧ pq_w (fun _ => none) (f_X8_isNextOrder_L4 N A (nI n)) q (nI m - 1) = some (0, A)) ∨ ∃ i A', px_i o m = some i ∧ pq_w (fun _ => none) (f_X8_isNextOrder_L4 N A (nI n)) q (nI m - 1) = some (1, A') ∧ pz_A X n (px_r 3 (px_s o i (px_j o (o i) (n - 1))) (i + 1) (n - 1)) A'
  | 0, q, h1, h2 => by
    obtain ⟨q, rfl⟩ : ∃ t, q = t + 1 := ⟨q - 1, by omega⟩
    left
    refine ⟨rfl, ?_⟩
    rw [pu_w]
    unfold f_X8_isNextOrder_L4
    rw [pu_j, if_pos (show nI 0 - 1 < 0 by decide), if_neg (by decide), pu_b0]
  | m + 1, q, h1, h2 => by
    obtain ⟨q, rfl⟩ : ∃ t, q = t + 1 := ⟨q - 1, by omega⟩
    have ih := pz_nexti (N := N) hN hn hX hA m q (by omega) (by omega)
    have x1 := hX m (by omega)
    have x2 := hX (m + 1) (by omega)
    have hi : px_i o (m + 1) = if o m ≤ o (m + 1) then some m else px_i o m := rfl
    rw [hi, pu_w]
    generalize pq_w (fun _ => none) (f_X8_isNextOrder_L4 N A (nI n)) q = kk at ih ⊢
    unfold f_X8_isNextOrder_L4
    have en : nI n - 1 = nI (n - 1) := by rw [pu_lit 1, pk_sub (by omega)]
    rw [nI_pred, pu_j, if_neg (nI_pos (by omega)), if_pos (nI_pos' (by omega)), pu_gd (by omega) (by omega), nI_1, pu_gd (by omega) (by omega), nI_clamp (by omega), nI_clamp (by omega), hA m (by omega), hA (m + 1) (by omega), en, pu_l]
    by_cases c : o m ≤ o (m + 1)
    · rw [if_pos ((nI_leI (by omega) (by omega)).mpr (by omega)), if_pos c]
      right
      obtain ⟨A', e1, e2⟩ := pz_nextj (N := N) hN hn hX (show m + 1 < n by omega) c hA (n - 1 - (m + 1)) (n - 1) N (by omega) (by omega) (by omega)
      exact ⟨m, A', rfl, e1, e2⟩
    · rw [if_neg (show ¬ nI (X + o m) ≤ nI (X + o (m + 1)) from fun e => c (by rw [nI_leI (by omega) (by omega)] at e; omega)), if_neg c, pu_l, ← Int32.sub_eq_add_neg]
      exact ih
theorem pz_next {N X n : Nat} {o : Nat → Nat} {A : Nat → Int32} (hN : 20 < N) (hn : n ≤ 6) (hX : ∀ k, k < n → X + o k < 2 ^ 20) (hA : pz_A X n o A) : (px_n n o = none ∧ f_X8_isNextOrder N A (nI n) = some (0, A)) ∨ ∃ o' A', px_n n o = some o' ∧ f_X8_isNextOrder N A (nI n) = some (1, A') ∧ pz_A X n o' A' := by
  unfold f_X8_isNextOrder px_n
  rw [pu_l]
  cases n with
  | zero =>
    left
    refine ⟨rfl, ?_⟩
    obtain ⟨q, rfl⟩ : ∃ t, N = t + 1 := ⟨N - 1, by omega⟩
    rw [pu_w]
    unfold f_X8_isNextOrder_L4
    rw [pu_j, if_pos (show nI 0 - 2 < 0 by decide), if_neg (by decide), pu_b0]
  | succ n =>
    have e6 : nI (n + 1) - (2 : Int32) = nI n - 1 := po_m2 n
    rw [e6, Nat.add_sub_cancel]
    rcases pz_nexti (N := N) hN hn hX hA n N (by omega) (by omega) with ⟨e1, e2⟩ | ⟨i, A', e1, e2, e3⟩
    · left
      rw [e1]
      exact ⟨rfl, e2⟩
    · right
      rw [e1]
      rw [Nat.add_sub_cancel] at e3
      exact ⟨_, A', rfl, e2, e3⟩
/-! an order tried -/
/-- the row in which the first q of the next cases are as the order l has them -/
def pz_r (s : Nat → Int32) (X : Nat) (l : Nat → Nat) (q i : Nat) : Int32 :=
  if 35 + X ≤ i ∧ i < 35 + X + q then s (35 + (X + l (i - (35 + X)))) else if 47 + X ≤ i ∧ i < 47 + X + q then s (47 + (X + l (i - (47 + X)))) else if 59 + X ≤ i ∧ i < 59 + X + q then s (59 + (X + l (i - (59 + X)))) else s i
theorem pz_lay {N : Nat} {s A : Nat → Int32} {P J C X S n : Nat} {l : Nat → Nat} (hV : pn_V s P J C X S) (hn : n ≤ 6) (hnC : X + n ≤ C) (hl : ∀ k, k < n → l k < n) (hA : pz_A X n l A) : ∀ (d q m : Nat) (t : Nat → Int32), q + d = n → d < m → (∀ i, i < 83 → t i = pz_r s X l q i) → ∃ t', pq_w (fun _ _ => none) (f_X8_justBy_L6 N s A (nI n)) m (nI q) t = pq_w (fun _ _ _ => none) (f_X8_justBy_L111 N s (nI n)) N 0 0 t' ∧ ∀ i, i < 83 → t' i = pz_r s X l n i
  | 0, q, m, t, h1, h2, ht => by
    obtain ⟨m, rfl⟩ : ∃ t, m = t + 1 := ⟨m - 1, by omega⟩
    rw [pu_w]
    unfold f_X8_justBy_L6
    rw [if_pos ((nI_leI (by omega) (by omega)).mpr (by omega))]
    refine ⟨t, rfl, ?_⟩
    rw [show n = q by omega]
    exact ht
  | d + 1, q, m, t, h1, h2, ht => by
    obtain ⟨m, rfl⟩ : ∃ t, m = t + 1 := ⟨m - 1, by omega⟩
    obtain ⟨-, -, ⟨c1, c2⟩, x2, s2, ⟨eP, eJ, eC, eX, eS⟩, -⟩ := id hV
    have hlq := hl q (by omega)
    have ih := pz_lay (N := N) hV hn hnC hl hA d (q + 1) m (upd (upd (upd t (35 + X + q) (s (35 + (X + l q)))) (47 + X + q) (s (47 + (X + l q)))) (59 + X + q) (s (59 + (X + l q)))) (by omega) (by omega) (fun i hi => by
      have hti := ht i hi
      unfold pz_r at hti ⊢
      by_cases e1 : i = 59 + X + q
      · rw [e1, pu_us, if_neg (by omega), if_neg (by omega), if_pos (by omega), show 59 + X + q - (59 + X) = q by omega]
      · rw [pu_un e1]
        by_cases e2 : i = 47 + X + q
        · rw [e2, pu_us, if_neg (by omega), if_pos (by omega), show 47 + X + q - (47 + X) = q by omega]
        · rw [pu_un e2]
          by_cases e3 : i = 35 + X + q
          · rw [e3, pu_us, if_pos (by omega), show 35 + X + q - (35 + X) = q by omega]
          · rw [pu_un e3, hti]
            by_cases a1 : 35 + X ≤ i ∧ i < 35 + X + q
            · rw [if_pos a1, if_pos (by omega)]
            · rw [if_neg a1, if_neg (show ¬ (35 + X ≤ i ∧ i < 35 + X + (q + 1)) by omega)]
              by_cases a2 : 47 + X ≤ i ∧ i < 47 + X + q
              · rw [if_pos a2, if_pos (by omega)]
              · rw [if_neg a2, if_neg (show ¬ (47 + X ≤ i ∧ i < 47 + X + (q + 1)) by omega)]
                by_cases a3 : 59 + X ≤ i ∧ i < 59 + X + q
                · rw [if_pos a3, if_pos (by omega)]
                · rw [if_neg a3, if_neg (show ¬ (59 + X ≤ i ∧ i < 59 + X + (q + 1)) by omega)])
    rw [pu_w]
    generalize pq_w (fun _ _ => none) (f_X8_justBy_L6 N s A (nI n)) m = kk at ih ⊢
    unfold f_X8_justBy_L6
    rw [if_neg (fun e => by rw [nI_leI (by omega) (by omega)] at e; omega)]
    simp (disch := omega) only [pu_lit 0, pu_lit 35, pu_lit 47, pu_lit 59, pu_gd, nI_clamp, eX, hA q (by omega), nI_add, pu_l, nI_1]
    exact ih
theorem pz_rV {s : Nat → Int32} {P J C X S n : Nat} {l : Nat → Nat} (hV : pn_V s P J C X S) (hn : n ≤ 6) (hnC : X + n ≤ C) (hl : ∀ k, k < n → l k < n) : pn_V (pz_r s X l n) P J C X S := by
  obtain ⟨⟨p1, p2⟩, ⟨j1, j2⟩, ⟨c1, c2⟩, x2, s2, ⟨eP, eJ, eC, eX, eS⟩, hk, hg, hlj, hf, hab, hw⟩ := id hV
  have low : ∀ i, i < 35 → pz_r s X l n i = s i := fun i hi => by unfold pz_r; rw [if_neg (by omega), if_neg (by omega), if_neg (by omega)]
  refine ⟨⟨p1, p2⟩, ⟨j1, j2⟩, ⟨c1, c2⟩, x2, s2, ⟨by rw [low 2 (by omega)]; exact eP, by rw [low 3 (by omega)]; exact eJ, by rw [low 4 (by omega)]; exact eC, by rw [low 0 (by omega)]; exact eX, by rw [low 1 (by omega)]; exact eS⟩, ?_, ?_, ?_, ?_, ?_, ?_⟩
  · intro i hi; rw [low _ (by omega)]; exact hk i hi
  · intro i hi; rw [low _ (by omega)]; exact hg i hi
  · intro i hi; rw [low _ (by omega)]; exact hlj i hi
  · intro i hi; rw [low _ (by omega)]; exact hf i hi
  · intro i hi
    by_cases c : X ≤ i ∧ i < X + n
    · have hli := hl (i - X) (by omega)
      have e1 : pz_r s X l n (35 + i) = s (35 + (X + l (i - X))) := by unfold pz_r; rw [if_pos (by omega), show 35 + i - (35 + X) = i - X by omega]
      have e2 : pz_r s X l n (47 + i) = s (47 + (X + l (i - X))) := by unfold pz_r; rw [if_neg (by omega), if_pos (by omega), show 47 + i - (47 + X) = i - X by omega]
      rw [e1, e2]
      exact hab _ (by omega)
    · have e1 : pz_r s X l n (35 + i) = s (35 + i) := by unfold pz_r; rw [if_neg (by omega), if_neg (by omega), if_neg (by omega)]
      have e2 : pz_r s X l n (47 + i) = s (47 + i) := by unfold pz_r; rw [if_neg (by omega), if_neg (by omega), if_neg (by omega)]
      rw [e1, e2]
      exact hab i hi
  · intro i hi
    by_cases c : X ≤ i ∧ i < X + n
    · have hli := hl (i - X) (by omega)
      have e1 : pz_r s X l n (59 + i) = s (59 + (X + l (i - X))) := by unfold pz_r; rw [if_neg (by omega), if_neg (by omega), if_pos (by omega), show 59 + i - (59 + X) = i - X by omega]
      rw [e1]
      exact hw _ (by omega)
    · have e1 : pz_r s X l n (59 + i) = s (59 + i) := by unfold pz_r; rw [if_neg (by omega), if_neg (by omega), if_neg (by omega)]
      rw [e1]
      exact hw i hi
theorem pz_gd {l : List Nat} {k : Nat} (h : k < l.length) : l.getD k 0 = l[k] := by
  rw [List.getD_eq_getElem?_getD, List.getElem?_eq_getElem h]
  rfl
theorem pz_just {N : Nat} {s : Nat → Int32} {P J C X S n : Nat} {l : List Nat} (hN : 20 < N) (hV : pn_V s P J C X S) (hn : n ≤ 6) (hnC : X + n ≤ C) (hll : l.length = n) (hl : ∀ k, k < n → l.getD k 0 < n) : ∀ (d k m v j : Nat) (t : Nat → Int32), k + d = n → d < m → pn_V t P J C (X + k) j → pm_st (pz_r s X (fun k => l.getD k 0) n) t → ∃ T, pq_w (fun _ _ _ => none) (f_X8_justBy_L111 N s (nI n)) m (nI v) (nI k) t = some (nI (v + px_v (po_j s X) (po_n s X) (l.drop k) j), T)
  | 0, k, m, v, j, t, h1, h2, hVt, hst => by
    obtain ⟨m, rfl⟩ : ∃ t, m = t + 1 := ⟨m - 1, by omega⟩
    have c2 := hV.2.2.1.2
    rw [pu_w]
    unfold f_X8_justBy_L111
    rw [if_pos ((nI_leI (by omega) (by omega)).mpr (by omega)), List.drop_eq_nil_of_le (by omega)]
    exact ⟨t, rfl⟩
  | d + 1, k, m, v, j, t, h1, h2, hVt, hst => by
    obtain ⟨m, rfl⟩ : ∃ t, m = t + 1 := ⟨m - 1, by omega⟩
    have hlk := hl k (by omega)
    have hV' := pz_rV (n := n) (l := fun k => l.getD k 0) hV hn hnC hl
    obtain ⟨-, ⟨j1, j2⟩, ⟨c1, c2⟩, x2, s2, ⟨eP, eJ, eC, eX, eS⟩, -⟩ := id hV
    have hjJ : j < J := hVt.2.2.2.2.1
    obtain ⟨K, eK⟩ : ∃ K, l.getD k 0 = K := ⟨_, rfl⟩
    rw [eK] at hlk
    have low : ∀ i, i < 35 → pz_r s X (fun k => l.getD k 0) n i = s i := fun i hi => by unfold pz_r; rw [if_neg (by omega), if_neg (by omega), if_neg (by omega)]
    have e35 : pz_r s X (fun k => l.getD k 0) n (35 + (X + k)) = s (35 + (X + K)) := by unfold pz_r; rw [if_pos (by omega), show 35 + (X + k) - (35 + X) = k by omega, show (fun k => l.getD k 0) k = K from eK]
    have e47 : pz_r s X (fun k => l.getD k 0) n (47 + (X + k)) = s (47 + (X + K)) := by unfold pz_r; rw [if_neg (by omega), if_pos (by omega), show 47 + (X + k) - (47 + X) = k by omega, show (fun k => l.getD k 0) k = K from eK]
    have e59 : pz_r s X (fun k => l.getD k 0) n (59 + (X + k)) = s (59 + (X + K)) := by unfold pz_r; rw [if_neg (by omega), if_neg (by omega), if_pos (by omega), show 59 + (X + k) - (59 + X) = k by omega, show (fun k => l.getD k 0) k = K from eK]
    have ew : pn_wn (pz_r s X (fun k => l.getD k 0) n) (X + k) j (-4) = po_w s X K j := by
      rw [pm_wn_none hV' (by omega)]
      unfold po_w pn_f pn_plea
      rw [e35, e47, e59, low (29 + j) (by omega), low (23 + j) (by omega)]
    have eop : pn_op (pz_r s X (fun k => l.getD k 0) n) (X + k) (po_w s X K j) = pn_op s (X + K) (po_w s X K j) := by
      unfold pn_op
      rw [e35, e47]
    have en : pm_n (pz_r s X (fun k => l.getD k 0) n) j (X + k) (po_w s X K j) = po_n s X K j := by
      obtain ⟨lo, hlo, elo, -, -⟩ := pm_n_at hV hjJ (show X + K < C by omega) (po_w s X K j)
      have p2 := hV.1.2
      unfold po_n pm_n
      rw [eop, elo, nI_clamp (by omega), low (5 + lo) (by omega)]
      congr 1
      refine pn_nm_ag ⟨low 3 (by omega), fun i hi => low _ (by omega), fun i hi => low _ (by omega)⟩ ?_
      rw [low 3 (by omega), eJ, nI_clamp (by omega)]
      exact j2
    obtain ⟨h8, hV2, hst2⟩ := pm_hear (N := N) (show 10 < N by omega) hVt hst (show X + k < C by omega) (-4)
    obtain ⟨w, lo, S', hw, hlo, hne, ew2, elo, e1, eh, ef, -, e71, -⟩ := pu_h8 (N := N) (show 10 < N by omega) hVt (show X + k < C by omega) (-4)
    rw [ew] at h8 hV2
    rw [en] at hV2
    have ewin : nI w = po_w s X K j := by
      rw [ef] at h8
      exact congrArg Prod.fst (Option.some.inj h8)
    obtain ⟨T, ih⟩ := pz_just (N := N) hN hV hn hnC hll hl d (k + 1) m (v + po_j s X K j) (po_n s X K j) _ (by omega) (by omega) hV2 hst2
    have hju : f_X8_isJust N (pn_h t (-4)) (nI (X + k)) = some (if pn_ju (pn_h t (-4)) (X + k) = true then 1 else 0) := pu_isJust (by omega)
    have hpj : pn_ju (pn_h t (-4)) (X + k) = decide (po_j s X K j = 1) := by
      unfold pn_ju
      rw [e71, ewin, hst2 (59 + (X + k)) (by omega) (by omega), hst2 (47 + (X + k)) (by omega) (by omega), hst2 (35 + (X + k)) (by omega) (by omega), e35, e47, e59]
      unfold po_j
      by_cases c : po_w s X K j = (if s (59 + (X + K)) < 5 then s (47 + (X + K)) else s (35 + (X + K)))
      · rw [if_pos c]; simp [c]
      · rw [if_neg c]; simp [c]
    have hd : l.drop k = K :: l.drop (k + 1) := by
      rw [List.drop_eq_getElem_cons (by omega)]
      congr 1
      rw [← eK, pz_gd (by omega)]
    have hv : px_v (po_j s X) (po_n s X) (l.drop k) j = po_j s X K j + px_v (po_j s X) (po_n s X) (l.drop (k + 1)) (po_n s X K j) := by
      rw [hd]
      rfl
    refine ⟨T, ?_⟩
    rw [hv, ← Nat.add_assoc, pu_w]
    generalize pq_w (fun _ _ _ => none) (f_X8_justBy_L111 N s (nI n)) m = kk at ih ⊢
    unfold f_X8_justBy_L111
    rw [if_neg (fun e => by rw [nI_leI (by omega) (by omega)] at e; omega), h8, pu_cs, pq_gd_i (i := 0) (by decide), show (0 : Int32).toNatClampNeg = 0 from rfl, eX, nI_add]
    dsimp only
    rw [hju, pu_cs, pu_j, hpj]
    have hj1 := po_j1 s X K j
    by_cases c : po_j s X K j = 1
    · rw [c] at ih ⊢
      rw [pu_f1 (by decide)]
      dsimp only
      rw [pu_l, pu_l, nI_1, nI_1]
      exact ih
    · have c0 : po_j s X K j = 0 := by omega
      rw [c0] at ih ⊢
      rw [pu_f0 (by decide)]
      dsimp only
      rw [pu_l, pu_l, nI_1, pu_lit 0, nI_add]
      exact ih
theorem pz_by {N : Nat} {s t A : Nat → Int32} {P J C X S n : Nat} {l : List Nat} (hN : 2000 < N) (hV : pn_V s P J C X S) (hn : n ≤ 6) (hnC : X + n ≤ C) (hll : l.length = n) (hl : ∀ k, k < n → l.getD k 0 < n) (hA : pz_A X n (fun k => l.getD k 0) A) : ∃ T, f_X8_justBy N s t A (nI n) = some (nI (px_v (po_j s X) (po_n s X) l S), T) := by
  obtain ⟨b1, b2, b3⟩ := pm_try (N := N) (t := t) hN hV
  obtain ⟨t', e1, e2⟩ := pz_lay (N := N) hV hn hnC hl hA n 0 N (pn_br s t 0 0 83) (by omega) (by omega) (fun i hi => by
    rw [pn_br_83 i hi]
    unfold pz_r
    rw [if_neg (by omega), if_neg (by omega), if_neg (by omega)])
  have hVt : pn_V t' P J C (X + 0) S := pn_V_cg (fun i hi => e2 i (by omega)) (pz_rV (n := n) (l := fun k => l.getD k 0) hV hn hnC hl)
  obtain ⟨T, e3⟩ := pz_just (N := N) (show 20 < N by omega) hV hn hnC hll hl n 0 N 0 S t' (by omega) (by omega) hVt (fun i h1 h2 => e2 i (by omega))
  refine ⟨T, ?_⟩
  unfold f_X8_justBy
  rw [nI_0] at e1 e3
  rw [Nat.zero_add, List.drop_zero] at e3
  rw [b1, pu_cs, e1, e3]
/-! all orders -/
theorem pz_ok {n : Nat} {l : List Nat} (h : px_ok n l = true) : l.length = n ∧ ∀ k, k < n → l.getD k 0 < n := by
  unfold px_ok at h
  rw [Bool.and_eq_true, decide_eq_true_eq] at h
  refine ⟨h.1, fun k hk => ?_⟩
  have h2 := List.all_eq_true.mp h.2 (l[k]'(by omega)) (List.getElem_mem _)
  rw [pz_gd (by omega)]
  exact of_decide_eq_true h2
theorem pz_loop {N : Nat} {s : Nat → Int32} {P J C X S n : Nat} (hN : 2000 < N) (hV : pn_V s P J C X S) (hn : n ≤ 6) (hnC : X + n ≤ C) : ∀ (r : List (List Nat)) (l : List Nat) (m : Nat) (bm : Int32) (t A bo : Nat → Int32) (acc : Int × List Nat), px_ck n l r = true → px_ok n l = true → r.all (px_ok n) = true → r.length + 1 < m → pz_A X n (fun k => l.getD k 0) A → bm.toInt = acc.1 → (0 ≤ acc.1 → pz_A X n (fun k => acc.2.getD k 0) bo) →
    ∃ bm' t' A' bo', pq_w (fun _ _ _ _ _ => none) (f_X8_layOrder_L34 N s (nI n)) m 1 bm t A bo = some (bm', t', A', bo') ∧ bm'.toInt = (px_f (fun l => px_v (po_j s X) (po_n s X) l S) acc (l :: r)).1 ∧ (0 ≤ (px_f (fun l => px_v (po_j s X) (po_n s X) l S) acc (l :: r)).1 → pz_A X n (fun k => (px_f (fun l => px_v (po_j s X) (po_n s X) l S) acc (l :: r)).2.getD k 0) bo')
  | r, l, m, bm, t, A, bo, acc, hck, hok, hall, hm, hA, hbm, hbo => by
    obtain ⟨m, rfl⟩ : ∃ t, m = t + 2 := ⟨m - 2, by omega⟩
    obtain ⟨hll, hl⟩ := pz_ok hok
    have c2 := hV.2.2.1.2
    have x2 := hV.2.2.2.1
    obtain ⟨T, e1⟩ := pz_by (N := N) (t := t) hN hV hn hnC hll hl hA
    obtain ⟨v, ev⟩ : ∃ v, px_v (po_j s X) (po_n s X) l S = v := ⟨_, rfl⟩
    rw [ev] at e1
    have hvl : ∀ (l : List Nat) (j : Nat), px_v (po_j s X) (po_n s X) l j ≤ l.length := by
      intro l
      induction l with
      | nil => intro j; exact Nat.le_refl 0
      | cons a l ih =>
        intro j
        have h1 := po_j1 s X a j
        have h2 := ih (po_n s X a j)
        show po_j s X a j + px_v (po_j s X) (po_n s X) l (po_n s X a j) ≤ l.length + 1
        omega
    have hv6 : v ≤ 6 := by have := hvl l S; omega
    have hstep : px_f (fun l => px_v (po_j s X) (po_n s X) l S) acc (l :: r) = px_f (fun l => px_v (po_j s X) (po_n s X) l S) (if acc.1 < (v : Int) then ((v : Int), l) else acc) r := by
      rw [← ev]
      rfl
    rw [hstep]
    have eb : ∀ b, f_X8_bring N 6 6 A b 0 0 6 = some (pn_br A b 0 0 6) := fun b => pu_bring (i := 0) (j := 0) (n := 6) (by omega) (by omega) (by omega) (by omega) (by omega)
    have h10 : (1 : Int32) = 0 ↔ False := ⟨fun e => by revert e; decide, fun e => e.elim⟩
    -- the new best
    have best : ∃ bm2 bo2, f_X8_layOrder_L34 N s (nI n) (pq_w (fun _ _ _ _ _ => none) (f_X8_layOrder_L34 N s (nI n)) (m + 1)) 1 bm t A bo = pq_c (f_X8_isNextOrder N A (nI n)) (fun r_2 => pq_w (fun _ _ _ _ _ => none) (f_X8_layOrder_L34 N s (nI n)) (m + 1) r_2.1 bm2 T r_2.2 bo2) ∧ bm2.toInt = (if acc.1 < (v : Int) then ((v : Int), l) else acc).1 ∧ (0 ≤ (if acc.1 < (v : Int) then ((v : Int), l) else acc).1 → pz_A X n (fun k => (if acc.1 < (v : Int) then ((v : Int), l) else acc).2.getD k 0) bo2) := by
      generalize pq_w (fun _ _ _ _ _ => none) (f_X8_layOrder_L34 N s (nI n)) (m + 1) = kk
      unfold f_X8_layOrder_L34
      simp only [h10, if_false, e1, pu_cs, pu_j]
      by_cases c : acc.1 < (v : Int)
      · rw [if_neg (fun e => by rw [pu_lei, nI_toInt (by omega), hbm] at e; omega), eb, pu_cs]
        simp only [c, if_true]
        refine ⟨nI v, pn_br A bo 0 0 6, rfl, nI_toInt (by omega), fun _ k hk => ?_⟩
        have ek : pn_br A bo 0 0 6 k = A k := by
          unfold pn_br
          rw [if_pos (by omega), Nat.zero_add, Nat.sub_zero]
        rw [ek]
        exact hA k hk
      · rw [if_pos (by rw [pu_lei, nI_toInt (by omega), hbm]; omega)]
        simp only [c, if_false]
        exact ⟨bm, bo, rfl, hbm, hbo⟩
    obtain ⟨bm2, bo2, g1, g2, g3⟩ := best
    obtain ⟨acc2, eacc⟩ : ∃ acc2, (if acc.1 < (v : Int) then ((v : Int), l) else acc) = acc2 := ⟨_, rfl⟩
    rw [eacc] at g2 g3 ⊢
    have hX : ∀ k, k < n → X + (fun k => l.getD k 0) k < 2 ^ 20 := fun k hk => by have := hl k hk; show X + l.getD k 0 < _; omega
    rw [pu_w, g1]
    cases r with
    | nil =>
      have hck' : px_nl n l = none := of_decide_eq_true hck
      rcases pz_next (N := N) (show 20 < N by omega) hn hX hA with ⟨q1, q2⟩ | ⟨o', A', q1, q2, q3⟩
      · rw [q2, pu_cs]
        dsimp only
        rw [pu_w]
        unfold f_X8_layOrder_L34
        rw [if_pos rfl]
        exact ⟨_, _, _, _, rfl, g2, g3⟩
      · unfold px_nl at hck'
        rw [q1] at hck'
        cases hck'
    | cons l' r =>
      have hck' : px_nl n l = some l' ∧ px_ck n l' r = true := by
        have h1 : (decide (px_nl n l = some l') && px_ck n l' r) = true := hck
        rw [Bool.and_eq_true, decide_eq_true_eq] at h1
        exact h1
      have hall' : px_ok n l' = true ∧ r.all (px_ok n) = true := by
        rw [List.all_cons, Bool.and_eq_true] at hall
        exact hall
      rcases pz_next (N := N) (show 20 < N by omega) hn hX hA with ⟨q1, q2⟩ | ⟨o', A', q1, q2, q3⟩
      · have h1 := hck'.1
        unfold px_nl at h1
        rw [q1] at h1
        cases h1
      · have h1 := hck'.1
        unfold px_nl at h1
        rw [q1] at h1
        have h2 : (List.range n).map o' = l' := Option.some.inj h1
        have hA' : pz_A X n (fun k => l'.getD k 0) A' := by
          intro k hk
          rw [q3 k hk, ← h2]
          dsimp only
          rw [pz_gd (by rw [List.length_map, List.length_range]; exact hk), List.getElem_map, List.getElem_range]
        rw [q2, pu_cs]
        exact pz_loop hN hV hn hnC r l' (m + 1) bm2 T A' bo2 acc2 hck'.2 hall'.1 hall'.2 (by rw [List.length_cons] at hm; omega) hA' g2 g3
termination_by r => r.length
theorem pz_start {N : Nat} {s t bo : Nat → Int32} {X n : Nat} (hn : n ≤ 6) (hX : X ≤ 12) (eX : s 0 = nI X) : ∀ (d i m : Nat) (A : Nat → Int32), i + d = n → d < m → (∀ k, k < i → A k = nI (X + k)) → ∃ A', pq_w (fun _ _ => none) (f_X8_layOrder_L2 N s t bo (nI n)) m (nI i) A = pq_w (fun _ _ _ _ _ => none) (f_X8_layOrder_L34 N s (nI n)) N 1 (-1) t A' bo ∧ ∀ k, k < n → A' k = nI (X + k)
  | 0, i, m, A, h1, h2, hA => by
    obtain ⟨m, rfl⟩ : ∃ t, m = t + 1 := ⟨m - 1, by omega⟩
    rw [pu_w]
    unfold f_X8_layOrder_L2
    rw [if_pos ((nI_leI (by omega) (by omega)).mpr (by omega))]
    exact ⟨A, rfl, fun k hk => hA k (by omega)⟩
  | d + 1, i, m, A, h1, h2, hA => by
    obtain ⟨m, rfl⟩ : ∃ t, m = t + 1 := ⟨m - 1, by omega⟩
    have ih := pz_start (N := N) (t := t) (bo := bo) hn hX eX d (i + 1) m (upd A i (nI (X + i))) (by omega) (by omega) (fun k hk => by
      by_cases c : k = i
      · rw [c, pu_us]
      · rw [pu_un c]; exact hA k (by omega))
    rw [pu_w]
    generalize pq_w (fun _ _ => none) (f_X8_layOrder_L2 N s t bo (nI n)) m = kk at ih ⊢
    unfold f_X8_layOrder_L2
    rw [if_neg (fun e => by rw [nI_leI (by omega) (by omega)] at e; omega), pq_gd_i (i := 0) (by decide), show (0 : Int32).toNatClampNeg = 0 from rfl, eX, pu_gd (by omega) (by omega), nI_add, pu_l, pu_l, nI_1, nI_clamp (by omega)]
    exact ih
theorem pz_lay8 {N : Nat} {s t A bo : Nat → Int32} {P J C X S n : Nat} {b0 : Int32} (hN : 2000 < N) (hV : pn_V s P J C X S) (hn : n ≤ 6) (hnC : X + n ≤ C) : ∃ T A' bo', f_X8_layOrder N b0 s t A bo (nI n) = some (nI (px_b (po_j s X) (po_n s X) n n 0 S), T, A', bo') ∧ pz_A X n (fun k => (px_g (po_j s X) (po_n s X) n n 0 S).getD k 0) bo' := by
  have hall := px_all ⟨n, by omega⟩
  dsimp only at hall
  obtain ⟨⟨a1, a2⟩, a3, a4⟩ := hall
  obtain ⟨-, -, ⟨c1, c2⟩, x2, s2, ⟨eP, eJ, eC, eX, eS⟩, -⟩ := id hV
  have hfold := px_fold (jst := po_j s X) (nxt := po_n s X) (n := n) (val := fun l => px_v (po_j s X) (po_n s X) l S) n 0 S 0 (fun l => l) (-1, []) (px_c0 n) (fun l => by rw [Nat.zero_add])
  rw [List.map_id', Nat.zero_add, if_pos (show (-1 : Int) < ((px_b (po_j s X) (po_n s X) n n 0 S : Nat) : Int) by omega)] at hfold
  obtain ⟨p, hp⟩ : ∃ p, px_p n n 0 = p := ⟨_, rfl⟩
  rw [hp] at a1 a2 a3 a4 hfold
  cases p with
  | nil => cases a1
  | cons l r =>
    have el : l = List.range n := Option.some.inj a1
    rw [List.tail_cons] at a2
    rw [List.all_cons, Bool.and_eq_true] at a3
    rw [← el] at a2
    obtain ⟨A', e1, e2⟩ := pz_start (N := N) (t := t) (bo := bo) hn (by omega) eX n 0 N A (by omega) (by omega) (fun k hk => absurd hk (by omega))
    have hA' : pz_A X n (fun k => l.getD k 0) A' := by
      intro k hk
      rw [e2 k hk, el]
      dsimp only
      rw [pz_gd (by rw [List.length_range]; exact hk), List.getElem_range]
    obtain ⟨bm', t', A2, bo', e3, e4, e5⟩ := pz_loop (N := N) hN hV hn hnC r l N (-1) t A' bo (-1, []) a2 a3.1 a3.2 (by rw [List.length_cons] at a4; omega) hA' rfl (fun h => absurd h (by decide))
    rw [hfold] at e4 e5
    have hb6 := px_b_le (jst := po_j s X) (nxt := po_n s X) (n := n) (po_j1 s X) n 0 S
    have ebm : bm' = nI (px_b (po_j s X) (po_n s X) n n 0 S) := by
      apply Int32.toInt_inj.mp
      rw [e4, nI_toInt (by omega)]
    refine ⟨t', A2, bo', ?_, e5 (by omega)⟩
    unfold f_X8_layOrder
    rw [nI_0] at e1
    rw [e1, e3, ebm]
set_option maxHeartbeats 2000000 in
theorem sim_order {xI : Nat → Int32} {xA : Nat → Nat → Int32} {xL : Nat → Nat → Int64} {aw : Nat → Nat → Int32} {mI : Nat → Int32} {mA : Nat → Nat → Int32} {mL : Nat → Int64} (hR : pq_R xI xA xL aw mI mA mL) (p1 : Int32) (p2 : Int32) : ∃ (zc : Int32 × (Nat → Int32) × (Nat → Int32) × (Nat → Int32)) (zm : Int32 × Int32 × (Nat → Int32) × (Nat → Int32) × (Nat → Int32)), f_X7_order pq_N (xA 39) (xA 40) (xA 41) (xI 11) (xI 12) (xI 13) (xI 14) (xA 18) (xA 21) (xA 22) (xA 23) (xA 24) (xA 25) p1 p2 = some zc ∧ f_X8_order pq_N (mI 16) (mA 6) (mA 8) (mA 14) (mA 15) p1 p2 = some zm ∧ zc.1 = zm.1 ∧ pq_R xI (va_up (va_up (va_up xA 39 zc.2.1) 40 zc.2.2.1) 41 zc.2.2.2) xL aw (va_up mI 16 zm.2.1) (va_up (va_up (va_up mA 8 zm.2.2.1) 14 zm.2.2.2.1) 15 zm.2.2.2.2) mL := by
  obtain ⟨⟨r0, r1, r2, r3, r4⟩, k2, k3, k4⟩ := pu_now hR
  have hscr : ∀ (f g f' h h' h'' : Nat → Int32) (b : Int32), pq_R xI (va_up (va_up (va_up xA 39 f) 40 g) 41 f') xL aw (va_up mI 16 b) (va_up (va_up (va_up mA 8 h) 14 h') 15 h'') mL := by
    intro f g f' h h' h'' b
    refine pq_kF hR ?_ ?_ ?_ ?_
    · intro k hk; rfl
    · intro k hk; simp (disch := omega) only [pu_vo]
    · intro k hk; simp (disch := omega) only [pu_vo]
    · intro k hk; simp (disch := omega) only [pu_vo]
  unfold f_X7_order f_X8_order
  have z0 : (0 : Int32).toInt = 0 := rfl
  have z6 : (6 : Int32).toInt = 6 := rfl
  have zm : (-1 : Int32).toInt = -1 := rfl
  rw [pu_in, pu_cs, z0, z6]
  by_cases hv : 0 ≤ p1.toInt ∧ p1.toInt ≤ 6
  · rw [pu_f1 hv, if_neg (show ¬ p1 < 0 by rw [pu_lt, z0]; omega), if_neg (show ¬ 6 < p1 by rw [pu_lt, z6]; omega)]
    by_cases hq : (-1 : Int32) ≤ p2
    · rw [if_pos hq, if_pos hq]
      rcases pu_there1 (N := pq_N) hR.now.2 with ⟨-, e1, e2⟩ | ⟨hw, e1, e2⟩
      · rw [r2, e1, e2, pu_cs, pu_cs, if_pos rfl, if_pos rfl]
        exact ⟨_, _, rfl, rfl, rfl, hscr _ _ _ _ _ _ _⟩
      · obtain ⟨P, J, C, X, S, hW⟩ := pn_W.of hw
        have hC := pn_C.of hW hR.now.1
        have hV := hW.v
        obtain ⟨⟨p1', p2'⟩, ⟨j1, j2⟩, ⟨c1, c2⟩, x2, s2, ⟨eP, eJ, eC, eX, eS⟩, -⟩ := id hV
        obtain ⟨l1, l2⟩ := pu_left (N := pq_N) hV
        obtain ⟨n, hn, en⟩ := pu_le (n := 6) hv.1 (by omega)
        have hN := pu_N2
        have h01 : ¬ (1 : Int32) = 0 := by decide
        rw [r2, e1, e2, pu_cs, pu_cs, if_neg h01, if_neg h01, r3, l1, l2, pu_cs, pu_cs, en]
        rw [pu_lei, zm] at hq
        by_cases hle : n ≤ C - X
        · rw [if_neg (fun e => by rw [nI_ltI (by omega) (by omega)] at e; omega), if_pos ((nI_leI (by omega) (by omega)).mpr hle)]
          obtain ⟨T, A', bo', e3, e4⟩ := pz_lay8 (N := pq_N) (t := mA 8) (A := mA 14) (bo := mA 15) (b0 := mI 16) hN hV hn (by omega)
          rw [e3, pu_cs]
          dsimp only
          by_cases hk : p2 < nI n
          · rw [if_pos hk]
            have hk2 : p2.toInt < n := by rw [pu_lt, nI_toInt (by omega)] at hk; exact hk
            obtain ⟨st', ju', mo', e5, e6, e7⟩ := po_weigh (N := pq_N) (st := xA 39) (ju := xA 40) (mo := xA 41) (show 500 < pq_N by omega) hV hC hn (by omega)
            have e5' : f_X3_weighOrders pq_N (xA 39) (xA 40) (xA 41) (nI J) (nI X) (xA 18) (xA 21) (xA 22) (xA 23) (xA 24) (xA 25) (nI n) = some (st', ju', mo') := e5
            have hnx : ∀ k j, k < n → j < J → po_n (mA 6) X k j < J := fun k j hk hj => pm_n_lt hV hj (by omega) _
            have pp := Nat.two_pow_pos n
            rw [r1, eJ, eX, e5', pu_cs]
            dsimp only
            by_cases hm : p2 = -1
            · rw [if_pos hm, if_pos hm]
              have e8 := e7 0 (Nat.zero_le 0) pp S s2
              rw [Nat.zero_mul, Nat.zero_add, px_c0] at e8
              have e9 : f_X3_mostJust pq_N mo' (xI 14) = some (nI (px_b (po_j (mA 6) X) (po_n (mA 6) X) n n 0 S)) := by
                unfold f_X3_mostJust
                rw [r4, eS, pu_gd (by omega) (by omega), nI_clamp (by omega), e8]
              rw [e9, pu_cs]
              exact ⟨_, _, rfl, rfl, rfl, hscr _ _ _ _ _ _ _⟩
            · have hm2 : p2.toInt ≠ -1 := fun e => hm (Int32.toInt_inj.mp (by rw [e, zm]))
              obtain ⟨t, ht, et⟩ := pu_of (n := n) (show 0 ≤ p2.toInt by omega) hk2
              rw [if_neg hm, if_neg hm, et, if_neg (fun e => by rw [nI_leI (by omega) (by omega)] at e; omega), pu_gd (by omega) (by omega), nI_clamp (by omega), e4 t ht]
              have e8 := po_place (N := pq_N) (t := t) (show 20 < pq_N by omega) hn j2 hnx e6 e7 ht (t + 1) n 0 S pq_N 0 0 (by omega) (by omega) (px_c0 n) (by omega) pp s2
              rw [if_neg (by omega), Nat.add_sub_cancel, nI_0] at e8
              have e9 : f_X3_placedAt pq_N st' ju' mo' (xI 14) (nI n) (nI t) = some (nI ((px_g (po_j (mA 6) X) (po_n (mA 6) X) n n 0 S).getD t 0)) := by
                unfold f_X3_placedAt
                rw [r4, eS]
                exact e8
              rw [e9, pu_cs, nI_add]
              exact ⟨_, _, rfl, rfl, rfl, hscr _ _ _ _ _ _ _⟩
          · rw [if_neg hk]
            have hk2 : ¬ p2.toInt < n := fun e => hk (by rw [pu_lt, nI_toInt (by omega)]; exact e)
            rw [if_neg (show ¬ p2 = -1 from fun e => by rw [e, zm] at hk2; omega), if_pos (show nI n ≤ p2 by rw [pu_lei, nI_toInt (by omega)]; omega)]
            exact ⟨_, _, rfl, rfl, rfl, hscr _ _ _ _ _ _ _⟩
        · rw [if_pos ((nI_ltI (by omega) (by omega)).mpr (by omega)), if_neg (fun e => hle ((nI_leI (by omega) (by omega)).mp e))]
          exact ⟨_, _, rfl, rfl, rfl, hscr _ _ _ _ _ _ _⟩
    · rw [if_neg hq, if_neg hq]
      exact ⟨_, _, rfl, rfl, rfl, hscr _ _ _ _ _ _ _⟩
  · rw [pu_f0 hv]
    by_cases hl0 : p1 < 0
    · rw [if_pos hl0]
      exact ⟨_, _, rfl, rfl, rfl, hscr _ _ _ _ _ _ _⟩
    · rw [if_neg hl0, if_pos (show 6 < p1 by rw [pu_lt, z0] at hl0; rw [pu_lt, z6]; omega)]
      exact ⟨_, _, rfl, rfl, rfl, hscr _ _ _ _ _ _ _⟩
