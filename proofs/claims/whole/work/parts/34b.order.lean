/-! the class' side of the orders -/
def po_w (s : Nat → Int32) (X k j : Nat) : Int32 := pn_f s j (s (23 + j)) (X + k)
def po_j (s : Nat → Int32) (X k j : Nat) : Nat := if po_w s X k j = (if s (59 + (X + k)) < 5 then s (47 + (X + k)) else s (35 + (X + k))) then 1 else 0
def po_n (s : Nat → Int32) (X k j : Nat) : Nat := pm_n s j (X + k) (po_w s X k j)
theorem po_j1 (s : Nat → Int32) (X k j : Nat) : po_j s X k j ≤ 1 := by
  unfold po_j
  by_cases c : po_w s X k j = (if s (59 + (X + k)) < 5 then s (47 + (X + k)) else s (35 + (X + k)))
  · rw [if_pos c]; exact Nat.le_refl 1
  · rw [if_neg c]; exact Nat.zero_le 1
theorem po_jw {N : Nat} {x : Nat → Int32} {a : Nat → Nat → Int32} {s : Nat → Int32} {P J C X S c : Nat} (hV : pn_V s P J C X S) (hC : pn_C x a s P J C) (hc : c < C) : f_X1_justWinner N (a 5) (a 6) (a 7) (nI c) = some (if s (59 + c) < 5 then s (47 + c) else s (35 + c)) := by
  obtain ⟨-, -, ⟨c1, c2⟩, -⟩ := id hV
  obtain ⟨-, -, -, -, -, -, h5, h6, h7, -⟩ := id hC
  unfold f_X1_justWinner
  simp (disch := omega) only [pu_gd, nI_clamp, h5 c hc, h6 c hc, h7 c hc]
  split <;> rfl
/-- what the class knows of the cases ahead of k, and of k before the judges ahead of j -/
def po_A (s : Nat → Int32) (X J k j : Nat) (st ju : Nat → Int32) : Prop := ∀ q i, i < J → (q < k ∨ (q = k ∧ i < j)) → st (q * 6 + i) = nI (po_n s X q i) ∧ ju (q * 6 + i) = nI (po_j s X q i)
theorem po_in {N : Nat} {x : Nat → Int32} {a : Nat → Nat → Int32} {s : Nat → Int32} {P J C X S k : Nat} {kL : Int32 → (Nat → Int32) → (Nat → Int32) → Option ((Nat → Int32) × (Nat → Int32) × (Nat → Int32))} (hN : 10 < N) (hV : pn_V s P J C X S) (hC : pn_C x a s P J C) (hk : k < 6) (hkC : X + k < C) : ∀ (d j n : Nat) (st ju : Nat → Int32), j + d = J → d < n → po_A s X J k j st ju → ∃ st' ju', pq_w (fun _ _ _ => none) (f_X3_weighOrders_L10 N (nI J) (nI X) (a 0) (a 3) (a 4) (a 5) (a 6) (a 7) (nI k) kL) n (nI j) st ju = kL (nI (k + 1)) st' ju' ∧ po_A s X J (k + 1) 0 st' ju'
  | 0, j, n, st, ju, h1, h2, hA => by
    obtain ⟨n, rfl⟩ : ∃ t, n = t + 1 := ⟨n - 1, by omega⟩
    have j2 := hV.2.1.2
    rw [pu_w]
    unfold f_X3_weighOrders_L10
    rw [if_pos (by rw [nI_leI (by omega) (by omega)]; omega), pu_l, nI_1]
    exact ⟨st, ju, rfl, fun q i hi h => hA q i hi (by omega)⟩
  | d + 1, j, n, st, ju, h1, h2, hA => by
    obtain ⟨n, rfl⟩ : ∃ t, n = t + 1 := ⟨n - 1, by omega⟩
    have j2 := hV.2.1.2
    have c2 := hV.2.2.1.2
    have hj : j < J := by omega
    have hA' : po_A s X J k (j + 1) (upd st (k * 6 + j) (nI (po_n s X k j))) (upd ju (k * 6 + j) (nI (po_j s X k j))) := by
      intro q i hi h
      by_cases e : q * 6 + i = k * 6 + j
      · have e1 : q = k := by omega
        have e2 : i = j := by omega
        rw [e1, e2, pu_us, pu_us]
        exact ⟨rfl, rfl⟩
      · rw [pu_un e, pu_un e]
        exact hA q i hi (by omega)
    obtain ⟨st', ju', ih, ih2⟩ := po_in (kL := kL) hN hV hC hk hkC d (j + 1) n _ _ (by omega) (by omega) hA'
    rw [pu_w]
    generalize pq_w (fun _ _ _ => none) (f_X3_weighOrders_L10 N (nI J) (nI X) (a 0) (a 3) (a 4) (a 5) (a 6) (a 7) (nI k) kL) n = kk at ih ⊢
    refine ⟨st', ju', ?_, ih2⟩
    unfold f_X3_weighOrders_L10
    have e1 := pm_wb (N := N) hV hC hj hkC
    have e2 := po_jw (N := N) hV hC hkC
    have e3 := pm_sits (N := N) hN hV hC hj hkC (po_w s X k j)
    have e4 : pn_f s j (s (23 + j)) (X + k) = po_w s X k j := rfl
    rw [e4] at e1
    rw [if_neg (by rw [nI_leI (by omega) (by omega)]; omega), nI_add, e1, pu_cs, e2, pu_cs, pu_j]
    have key : ∀ y : Int32, y = nI (po_j s X k j) → (pq_gd ((nI k * (6 : Int32)) + nI j) 36 (pq_l (upd ju (((nI k * (6 : Int32)) + nI j) : Int32).toNatClampNeg y) (fun just_0_10 => pq_c (f_X1_sitsAfter N (nI J) (a 0) (a 3) (a 4) (a 5) (a 6) (nI j) (nI (X + k)) (po_w s X k j)) (fun r_11 => pq_gd ((nI k * (6 : Int32)) + nI j) 36 (pq_l (upd st (((nI k * (6 : Int32)) + nI j) : Int32).toNatClampNeg r_11) (fun sitsThen_0_12 => pq_l (nI j + 1) (fun x4_13 => kk x4_13 sitsThen_0_12 just_0_10)))))) : Option ((Nat → Int32) × (Nat → Int32) × (Nat → Int32))) = kL (nI (k + 1)) st' ju' := by
      intro y hy
      rw [hy, pu_lit 6, pk_mul, nI_add, pu_gd (by omega) (by omega), pu_l, e3, pu_cs, pu_gd (by omega) (by omega), pu_l, pu_l, nI_1, nI_clamp (by omega)]
      exact ih
    by_cases c : po_w s X k j = (if s (59 + (X + k)) < 5 then s (47 + (X + k)) else s (35 + (X + k)))
    · rw [if_pos c]
      exact key 1 (by unfold po_j; rw [if_pos c]; rfl)
    · rw [if_neg c]
      exact key 0 (by unfold po_j; rw [if_neg c]; rfl)
theorem po_out {N : Nat} {x : Nat → Int32} {a : Nat → Nat → Int32} {s mo : Nat → Int32} {P J C X S n : Nat} (hN : 10 < N) (hV : pn_V s P J C X S) (hC : pn_C x a s P J C) (hn : n ≤ 6) (hnC : X + n ≤ C) : ∀ (d k m : Nat) (st ju : Nat → Int32), k + d = n → d < m → po_A s X J k 0 st ju → ∃ st' ju', pq_w (fun _ _ _ => none) (f_X3_weighOrders_L2 N mo (nI J) (nI X) (a 0) (a 3) (a 4) (a 5) (a 6) (a 7) (nI n)) m (nI k) st ju = pq_c (f_J7_fill_53178 N 384 mo 0) (fun r_1 => pq_l ((((1 : Int32) <<< (nI n &&& 31)) - (2 : Int32))) (fun x3_2 => pq_w (fun _ _ => none) (f_X3_weighOrders_L117 N (nI J) (nI n) st' ju') N x3_2 r_1)) ∧ po_A s X J n 0 st' ju'
  | 0, k, m, st, ju, h1, h2, hA => by
    obtain ⟨m, rfl⟩ : ∃ t, m = t + 1 := ⟨m - 1, by omega⟩
    rw [pu_w]
    unfold f_X3_weighOrders_L2
    rw [if_pos (by rw [nI_leI (by omega) (by omega)]; omega)]
    refine ⟨st, ju, rfl, ?_⟩
    rw [show n = k by omega]
    exact hA
  | d + 1, k, m, st, ju, h1, h2, hA => by
    obtain ⟨m, rfl⟩ : ∃ t, m = t + 1 := ⟨m - 1, by omega⟩
    have j2 := hV.2.1.2
    have ih := po_out (mo := mo) hN hV hC hn hnC d (k + 1) m
    rw [pu_w]
    generalize pq_w (fun _ _ _ => none) (f_X3_weighOrders_L2 N mo (nI J) (nI X) (a 0) (a 3) (a 4) (a 5) (a 6) (a 7) (nI n)) m = kk at ih ⊢
    unfold f_X3_weighOrders_L2
    rw [if_neg (by rw [nI_leI (by omega) (by omega)]; omega)]
    obtain ⟨st', ju', e1, e2⟩ := po_in (N := N) (kL := kk) hN hV hC (show k < 6 by omega) (show X + k < C by omega) J 0 N st ju (by omega) (by omega) hA
    rw [nI_0] at e1
    rw [e1]
    exact ih st' ju' (by omega) (by omega) e2
section PO
variable {N : Nat} {s : Nat → Int32} {J X n : Nat} {st ju : Nat → Int32}
/-- what is best behind the set g, known for all sets from h on -/
def po_M (s : Nat → Int32) (X J n h : Nat) (mo : Nat → Int32) : Prop := ∀ g, h ≤ g → g < 2 ^ n → ∀ j, j < J → mo (g * 6 + j) = nI (px_b (po_j s X) (po_n s X) n (px_c n g) g j)
theorem po_or {h k : Nat} (hn : n ≤ 6) (hh : h < 2 ^ n) (hk : k < n) (hb : h.testBit k = false) : h < h ||| 2 ^ k ∧ h ||| 2 ^ k < 2 ^ n := by
  have h1 : h ≤ h ||| 2 ^ k := Nat.left_le_or
  have h2 : h ≠ h ||| 2 ^ k := by
    intro e
    have e2 : h.testBit k = (h ||| 2 ^ k).testBit k := by rw [← e]
    rw [Nat.testBit_or, Nat.testBit_two_pow, hb] at e2
    simp at e2
  exact ⟨by omega, Nat.or_lt_two_pow hh (Nat.pow_lt_pow_right (by omega) hk)⟩
theorem po_jb {mo : Nat → Int32} {h k j m : Nat} (hn : n ≤ 6) (hJ : J ≤ 6) (hnx : ∀ k j, k < n → j < J → po_n s X k j < J) (hA : po_A s X J n 0 st ju) (hM : po_M s X J n (h + 1) mo) (hh : h < 2 ^ n) (hk : k < n) (hj : j < J) (hb : h.testBit k = false) (hc : px_c n h = m + 1) : f_X3_justBy N st ju mo (nI h) (nI j) (nI k) = some (nI (po_j s X k j + px_b (po_j s X) (po_n s X) n m (h ||| 2 ^ k) (po_n s X k j))) := by
  obtain ⟨o1, o2⟩ := po_or hn hh hk hb
  have p6 : 2 ^ n ≤ 2 ^ 6 := Nat.pow_le_pow_right (by omega) hn
  have pk : 2 ^ k ≤ 2 ^ 6 := Nat.pow_le_pow_right (by omega) (by omega)
  obtain ⟨a1, a2⟩ := hA k j hj (by omega)
  have hx := hnx k j hk hj
  have e1 : (1 : Int32) <<< (nI k &&& 31) = nI (2 ^ k) := pu_shl1 ⟨k, by omega⟩
  have e2 := hM (h ||| 2 ^ k) (by omega) o2 (po_n s X k j) hx
  have e3 : px_c n (h ||| 2 ^ k) = m := by have := px_c_or (n := n) (h := h) (k := k) hk hb; omega
  rw [e3] at e2
  unfold f_X3_justBy
  rw [pu_lit 6, pk_mul, nI_add, pu_l, pu_gd (by omega) (by omega), pu_gd (by omega) (by omega), nI_clamp (by omega), a1, a2, e1, pu_or (by omega) (by omega), pk_mul, nI_add, pu_gd (by omega) (by omega), nI_clamp (by omega), e2, nI_add]
theorem po_bit {h i : Nat} (hh : h < 2 ^ 31) (hi : i < 31) : (nI h >>> (nI i &&& 31)) &&& 1 = if h.testBit i = true then (1 : Int32) else 0 := by
  rw [pu_bitN hh hi, pu_tb01]
  split <;> rfl
def po_u (s : Nat → Int32) (X n m h j k : Nat) : Nat := if h.testBit k = true then 0 else po_j s X k j + px_b (po_j s X) (po_n s X) n m (h ||| 2 ^ k) (po_n s X k j)
theorem po_mb {mo : Nat → Int32} {h j m : Nat} (hn : n ≤ 6) (hJ : J ≤ 6) (hnx : ∀ k j, k < n → j < J → po_n s X k j < J) (hA : po_A s X J n 0 st ju) (hM : po_M s X J n (h + 1) mo) (hh : h < 2 ^ n) (hj : j < J) (hc : px_c n h = m + 1) : ∀ (d i q : Nat), i + d = n → d < q → pq_w (fun _ _ => none) (f_X3_mostBehind_L6 N st ju mo (nI h) (nI j) (nI n)) q (nI (pn_gm (po_u s X n m h j) i)) (nI i) = some (nI (px_b (po_j s X) (po_n s X) n (m + 1) h j))
  | 0, i, q, h1, h2 => by
    obtain ⟨q, rfl⟩ : ∃ t, q = t + 1 := ⟨q - 1, by omega⟩
    rw [pu_w]
    unfold f_X3_mostBehind_L6
    rw [if_pos (by rw [nI_leI (by omega) (by omega)]; omega), show i = n by omega]
    rfl
  | d + 1, i, q, h1, h2 => by
    obtain ⟨q, rfl⟩ : ∃ t, q = t + 1 := ⟨q - 1, by omega⟩
    have ih := po_mb hn hJ hnx hA hM hh hj hc d (i + 1) q (by omega) (by omega)
    have p6 : 2 ^ n ≤ 2 ^ 6 := Nat.pow_le_pow_right (by omega) hn
    have hmx : m + 1 ≤ n := by rw [← hc]; exact pn_cn_le _ n
    have hul : ∀ k, po_u s X n m h j k ≤ 7 := by
      intro k
      have a1 := po_j1 s X k j
      have a2 := px_b_le (jst := po_j s X) (nxt := po_n s X) (n := n) (po_j1 s X) m (h ||| 2 ^ k) (po_n s X k j)
      unfold po_u
      split <;> omega
    have hgl : ∀ i, pn_gm (po_u s X n m h j) i ≤ 7 := fun i => (pn_gm_le _ i _).mpr (fun k _ => hul k)
    have hg := hgl i
    rw [pn_gm_s] at ih
    rw [pu_w]
    generalize pq_w (fun _ _ => none) (f_X3_mostBehind_L6 N st ju mo (nI h) (nI j) (nI n)) q = kk at ih ⊢
    unfold f_X3_mostBehind_L6
    rw [if_neg (by rw [nI_leI (by omega) (by omega)]; omega), pu_j, po_bit (by omega) (by omega)]
    by_cases hb : h.testBit i = true
    · have u1 : po_u s X n m h j i = 0 := if_pos hb
      rw [u1, if_pos (Nat.zero_le _)] at ih
      rw [pu_f1 hb]
      dsimp only
      rw [pu_l, nI_1]
      exact ih
    · have hb' : h.testBit i = false := Bool.eq_false_iff.mpr hb
      have u0 : po_u s X n m h j i = po_j s X i j + px_b (po_j s X) (po_n s X) n m (h ||| 2 ^ i) (po_n s X i j) := if_neg hb
      have hv := hul i
      rw [pu_f0 hb, po_jb hn hJ hnx hA hM hh (by omega) hj hb' hc, pu_cs, pu_l, ← u0]
      generalize po_u s X n m h j i = V at *
      generalize pn_gm (po_u s X n m h j) i = G at *
      dsimp only
      by_cases c : V ≤ G
      · rw [if_pos c] at ih
        rw [if_neg (fun e => by rw [nI_ltI (by omega) (by omega)] at e; omega), pu_l, nI_1]
        exact ih
      · rw [if_neg c] at ih
        rw [if_pos ((nI_ltI (by omega) (by omega)).mpr (by omega)), pu_l, nI_1]
        exact ih
theorem po_row {h m : Nat} {kL : Int32 → (Nat → Int32) → Option ((Nat → Int32) × (Nat → Int32) × (Nat → Int32))} (hN : 20 < N) (hn : n ≤ 6) (hJ : J ≤ 6) (hnx : ∀ k j, k < n → j < J → po_n s X k j < J) (hA : po_A s X J n 0 st ju) (hh : h < 2 ^ n) (hc : px_c n h = m + 1) : ∀ (d j q : Nat) (mo : Nat → Int32), j + d = J → d < q → po_M s X J n (h + 1) mo → (∀ i, i < j → mo (h * 6 + i) = nI (px_b (po_j s X) (po_n s X) n (px_c n h) h i)) → ∃ mo', pq_w (fun _ _ => none) (f_X3_weighOrders_L124 N (nI J) (nI n) st ju (nI h) kL) q (nI j) mo = kL (nI h + (-1)) mo' ∧ po_M s X J n h mo'
  | 0, j, q, mo, h1, h2, hM, hr => by
    obtain ⟨q, rfl⟩ : ∃ t, q = t + 1 := ⟨q - 1, by omega⟩
    rw [pu_w]
    unfold f_X3_weighOrders_L124
    rw [if_pos (by rw [nI_leI (by omega) (by omega)]; omega), pu_l]
    refine ⟨mo, rfl, fun g h3 h4 i hi => ?_⟩
    by_cases e : g = h
    · rw [e]; exact hr i (by omega)
    · exact hM g (by omega) h4 i hi
  | d + 1, j, q, mo, h1, h2, hM, hr => by
    obtain ⟨q, rfl⟩ : ∃ t, q = t + 1 := ⟨q - 1, by omega⟩
    have p6 : 2 ^ n ≤ 2 ^ 6 := Nat.pow_le_pow_right (by omega) hn
    obtain ⟨mo', e1, e2⟩ := po_row (kL := kL) hN hn hJ hnx hA hh hc d (j + 1) q (upd mo (h * 6 + j) (nI (px_b (po_j s X) (po_n s X) n (m + 1) h j))) (by omega) (by omega) (fun g h3 h4 i hi => by rw [pu_un (by omega)]; exact hM g h3 h4 i hi) (fun i hi => by
      by_cases e : i = j
      · rw [e, pu_us, hc]
      · rw [pu_un (by omega)]; exact hr i (by omega))
    have e3 := po_mb (N := N) hn hJ hnx hA hM hh (show j < J by omega) hc n 0 N (by omega) (by omega)
    have e4 : f_X3_mostBehind N st ju mo (nI h) (nI j) (nI n) = some (nI (px_b (po_j s X) (po_n s X) n (m + 1) h j)) := e3
    rw [pu_w]
    generalize pq_w (fun _ _ => none) (f_X3_weighOrders_L124 N (nI J) (nI n) st ju (nI h) kL) q = kk at e1 ⊢
    refine ⟨mo', ?_, e2⟩
    unfold f_X3_weighOrders_L124
    rw [if_neg (by rw [nI_leI (by omega) (by omega)]; omega), e4, pu_cs, pu_lit 6, pk_mul, nI_add, pu_gd (by omega) (by omega), pu_l, pu_l, nI_1, nI_clamp (by omega)]
    exact e1
theorem po_c_pos {h : Nat} (hh : h + 1 < 2 ^ n) : ∃ m, px_c n h = m + 1 := by
  cases e : px_c n h with
  | succ m => exact ⟨m, rfl⟩
  | zero =>
    exfalso
    have hall : ∀ i, i < n → h.testBit i = true := by
      intro i hi
      cases hb : h.testBit i with
      | true => rfl
      | false =>
        have := px_c_or (n := n) (h := h) (k := i) hi hb
        omega
    have h2 : h = 2 ^ n - 1 := by
      apply Nat.eq_of_testBit_eq
      intro i
      rw [Nat.testBit_two_pow_sub_one]
      by_cases c : i < n
      · rw [hall i c]; simp [c]
      · have : h < 2 ^ i := Nat.lt_of_lt_of_le (show h < 2 ^ n by omega) (Nat.pow_le_pow_right (by omega) (by omega))
        rw [Nat.testBit_lt_two_pow this]; simp [c]
    omega
theorem po_dn (hN : 20 < N) (hn : n ≤ 6) (hJ : J ≤ 6) (hnx : ∀ k j, k < n → j < J → po_n s X k j < J) (hA : po_A s X J n 0 st ju) : ∀ (h q : Nat) (mo : Nat → Int32), h + 1 ≤ 2 ^ n → h < q → po_M s X J n h mo → ∃ mo', pq_w (fun _ _ => none) (f_X3_weighOrders_L117 N (nI J) (nI n) st ju) q (nI h - 1) mo = some (st, ju, mo') ∧ po_M s X J n 0 mo'
  | 0, q, mo, h1, h2, hM => by
    obtain ⟨q, rfl⟩ : ∃ t, q = t + 1 := ⟨q - 1, by omega⟩
    rw [pu_w]
    unfold f_X3_weighOrders_L117
    rw [if_pos (by decide)]
    exact ⟨mo, rfl, hM⟩
  | h + 1, q, mo, h1, h2, hM => by
    obtain ⟨q, rfl⟩ : ∃ t, q = t + 1 := ⟨q - 1, by omega⟩
    have p6 : 2 ^ n ≤ 2 ^ 6 := Nat.pow_le_pow_right (by omega) hn
    obtain ⟨m, hc⟩ := po_c_pos (n := n) (h := h) (by omega)
    have ih := po_dn hN hn hJ hnx hA h q
    rw [pu_w]
    generalize pq_w (fun _ _ => none) (f_X3_weighOrders_L117 N (nI J) (nI n) st ju) q = kk at ih ⊢
    obtain ⟨mo', e1, e2⟩ := po_row (N := N) (kL := kk) hN hn hJ hnx hA (show h < 2 ^ n by omega) hc J 0 N mo (by omega) (by omega) hM (fun i hi => absurd hi (by omega))
    unfold f_X3_weighOrders_L117
    rw [nI_pred, if_neg (nI_pos (by omega))]
    rw [nI_0] at e1
    rw [e1, ← Int32.sub_eq_add_neg]
    exact ih mo' (by omega) (by omega) e2
theorem po_first {mo : Nat → Int32} {h j m : Nat} (hn : n ≤ 6) (hJ : J ≤ 6) (hnx : ∀ k j, k < n → j < J → po_n s X k j < J) (hA : po_A s X J n 0 st ju) (hM : po_M s X J n 0 mo) (hh : h < 2 ^ n) (hj : j < J) (hc : px_c n h = m + 1) : ∀ (d i q : Nat), i + d = n → d < q → pq_w (fun _ => none) (f_X3_firstOfBest_L16 N st ju mo (nI h) (nI j) (nI n) (nI (px_b (po_j s X) (po_n s X) n (m + 1) h j))) q (nI i) = some (nI (px_ff (px_t (po_j s X) (po_n s X) n m h j) i d))
  | 0, i, q, h1, h2 => by
    obtain ⟨q, rfl⟩ : ∃ t, q = t + 1 := ⟨q - 1, by omega⟩
    rw [pu_w]
    unfold f_X3_firstOfBest_L16
    rw [if_pos (by rw [nI_leI (by omega) (by omega)]; omega)]
    rfl
  | d + 1, i, q, h1, h2 => by
    obtain ⟨q, rfl⟩ : ∃ t, q = t + 1 := ⟨q - 1, by omega⟩
    have ih := po_first (mo := mo) hn hJ hnx hA hM hh hj hc d (i + 1) q (by omega) (by omega)
    have p6 : 2 ^ n ≤ 2 ^ 6 := Nat.pow_le_pow_right (by omega) hn
    have hmx : m + 1 ≤ n := by rw [← hc]; exact pn_cn_le _ n
    have hM' : po_M s X J n (h + 1) mo := fun g h3 h4 => hM g (by omega) h4
    rw [pu_w]
    generalize pq_w (fun _ => none) (f_X3_firstOfBest_L16 N st ju mo (nI h) (nI j) (nI n) (nI (px_b (po_j s X) (po_n s X) n (m + 1) h j))) q = kk at ih ⊢
    unfold f_X3_firstOfBest_L16
    rw [if_neg (by rw [nI_leI (by omega) (by omega)]; omega), pu_j, po_bit (by omega) (by omega)]
    have hff : px_ff (px_t (po_j s X) (po_n s X) n m h j) i (d + 1) = if px_t (po_j s X) (po_n s X) n m h j i = true then i else px_ff (px_t (po_j s X) (po_n s X) n m h j) (i + 1) d := rfl
    rw [hff]
    by_cases hb : h.testBit i = true
    · have ht : ¬ px_t (po_j s X) (po_n s X) n m h j i = true := by unfold px_t; rw [hb]; simp
      rw [pu_f1 hb, if_neg ht, pu_l, nI_1]
      exact ih
    · have hb' : h.testBit i = false := Bool.eq_false_iff.mpr hb
      have hv1 := po_j1 s X i j
      have hv2 := px_b_le (jst := po_j s X) (nxt := po_n s X) (n := n) (po_j1 s X) m (h ||| 2 ^ i) (po_n s X i j)
      have hv3 := px_b_le (jst := po_j s X) (nxt := po_n s X) (n := n) (po_j1 s X) (m + 1) h j
      rw [pu_f0 hb, po_jb hn hJ hnx hA hM' hh (by omega) hj hb' hc, pu_cs]
      by_cases c : po_j s X i j + px_b (po_j s X) (po_n s X) n m (h ||| 2 ^ i) (po_n s X i j) = px_b (po_j s X) (po_n s X) n (m + 1) h j
      · have ht : px_t (po_j s X) (po_n s X) n m h j i = true := by unfold px_t; rw [hb', c]; simp
        rw [if_pos (show nI (po_j s X i j + px_b (po_j s X) (po_n s X) n m (h ||| 2 ^ i) (po_n s X i j)) = nI (px_b (po_j s X) (po_n s X) n (m + 1) h j) by rw [c]), if_pos ht]
      · have ht : ¬ px_t (po_j s X) (po_n s X) n m h j i = true := by unfold px_t; rw [hb']; simp [c]
        rw [if_neg (show ¬ nI (po_j s X i j + px_b (po_j s X) (po_n s X) n m (h ||| 2 ^ i) (po_n s X i j)) = nI (px_b (po_j s X) (po_n s X) n (m + 1) h j) from fun e => c ((nI_eq (by omega) (by omega)).mp e)), if_neg ht, pu_l, nI_1]
        exact ih
theorem po_ffl {h j m : Nat} (hc : px_c n h = m + 1) : px_ff (px_t (po_j s X) (po_n s X) n m h j) 0 n < n ∧ h.testBit (px_ff (px_t (po_j s X) (po_n s X) n m h j) 0 n) = false := by
  obtain ⟨k0, hk0, hb0⟩ := px_c_ex hc
  -- the greatest is had by one that isn't in h
  have hex : ∃ k, k < n ∧ px_t (po_j s X) (po_n s X) n m h j k = true := by
    apply Classical.byContradiction
    intro hn
    have hle : ∀ k, k < n → h.testBit k = false → po_j s X k j + px_b (po_j s X) (po_n s X) n m (h ||| 2 ^ k) (po_n s X k j) ≤ px_b (po_j s X) (po_n s X) n (m + 1) h j := by
      intro k hk hb
      have := (pn_gm_le (fun k => if h.testBit k = true then 0 else po_j s X k j + px_b (po_j s X) (po_n s X) n m (h ||| 2 ^ k) (po_n s X k j)) n _).mp (Nat.le_refl _) k hk
      rw [hb, if_neg (by decide)] at this
      exact this
    have hlt : ∀ k, k < n → h.testBit k = false → po_j s X k j + px_b (po_j s X) (po_n s X) n m (h ||| 2 ^ k) (po_n s X k j) < px_b (po_j s X) (po_n s X) n (m + 1) h j := by
      intro k hk hb
      have h1 := hle k hk hb
      have h2 : ¬ po_j s X k j + px_b (po_j s X) (po_n s X) n m (h ||| 2 ^ k) (po_n s X k j) = px_b (po_j s X) (po_n s X) n (m + 1) h j := fun e => hn ⟨k, hk, by unfold px_t; rw [hb, e]; simp⟩
      omega
    have h0 := hlt k0 hk0 hb0
    have hb : px_b (po_j s X) (po_n s X) n (m + 1) h j ≤ px_b (po_j s X) (po_n s X) n (m + 1) h j - 1 := by
      refine (pn_gm_le _ n _).mpr (fun k hk => ?_)
      cases hb : h.testBit k with
      | true => rw [if_pos rfl]; exact Nat.zero_le _
      | false =>
        have := hlt k hk hb
        rw [if_neg (by decide)]
        omega
    omega
  obtain ⟨k1, hk1⟩ := hex
  obtain ⟨k, ⟨hk, hkt⟩, hmin⟩ := pk_least (fun k => k < n ∧ px_t (po_j s X) (po_n s X) n m h j k = true) ⟨k1, hk1⟩
  have e := px_ff_at hkt n 0 (Nat.zero_le k) (by omega) (fun q _ hq => by
    cases hb : px_t (po_j s X) (po_n s X) n m h j q with
    | false => rfl
    | true => exact absurd ⟨by omega, hb⟩ (hmin q hq))
  rw [e]
  refine ⟨hk, ?_⟩
  unfold px_t at hkt
  cases hb : h.testBit k with
  | false => rfl
  | true => rw [hb] at hkt; cases hkt
theorem po_place {mo : Nat → Int32} {t : Nat} (hN : 20 < N) (hn : n ≤ 6) (hJ : J ≤ 6) (hnx : ∀ k j, k < n → j < J → po_n s X k j < J) (hA : po_A s X J n 0 st ju) (hM : po_M s X J n 0 mo) (ht : t < n) : ∀ (d m h j q p : Nat) (ch : Int32), p + d = t + 1 → d ≤ m → px_c n h = m → d < q → h < 2 ^ n → j < J → pq_w (fun _ _ _ _ => none) (f_X3_placedAt_L15 N st ju mo (nI n) (nI t)) q (nI h) (nI j) ch (nI p) = some (if d = 0 then ch else nI ((px_g (po_j s X) (po_n s X) n m h j).getD (d - 1) 0))
  | 0, m, h, j, q, p, ch, h1, h2, hc, h3, hh, hj => by
    obtain ⟨q, rfl⟩ : ∃ t, q = t + 1 := ⟨q - 1, by omega⟩
    rw [pu_w]
    unfold f_X3_placedAt_L15
    rw [if_pos ((nI_ltI (by omega) (by omega)).mpr (by omega)), if_pos rfl]
  | d + 1, m, h, j, q, p, ch, h1, h2, hc, h3, hh, hj => by
    obtain ⟨q, rfl⟩ : ∃ t, q = t + 1 := ⟨q - 1, by omega⟩
    obtain ⟨m, rfl⟩ : ∃ t, m = t + 1 := ⟨m - 1, by omega⟩
    have p6 : 2 ^ n ≤ 2 ^ 6 := Nat.pow_le_pow_right (by omega) hn
    obtain ⟨f1, f2⟩ := po_ffl (s := s) (X := X) (j := j) hc
    have e1 := po_first (N := N) hn hJ hnx hA hM hh hj hc n 0 N (by omega) (by omega)
    obtain ⟨k, ek⟩ : ∃ k, px_ff (px_t (po_j s X) (po_n s X) n m h j) 0 n = k := ⟨_, rfl⟩
    rw [ek] at f1 f2 e1
    have e0 := hM h (by omega) hh j hj
    rw [hc] at e0
    have e2 : f_X3_firstOfBest N st ju mo (nI h) (nI j) (nI n) = some (nI k) := by
      unfold f_X3_firstOfBest
      rw [pu_lit 6, pk_mul, nI_add, pu_gd (by omega) (by omega), nI_clamp (by omega), e0, pu_l]
      exact e1
    obtain ⟨o1, o2⟩ := po_or hn hh f1 f2
    have hx := hnx k j f1 hj
    have hcm : px_c n (h ||| 2 ^ k) = m := by have := px_c_or (n := n) (h := h) (k := k) f1 f2; omega
    have ih := po_place (mo := mo) hN hn hJ hnx hA hM ht d m (h ||| 2 ^ k) (po_n s X k j) q (p + 1) (nI k) (by omega) (by omega) hcm (by omega) o2 hx
    have pk : 2 ^ k ≤ 2 ^ 6 := Nat.pow_le_pow_right (by omega) (by omega)
    have e3 : (1 : Int32) <<< (nI k &&& 31) = nI (2 ^ k) := pu_shl1 ⟨k, by omega⟩
    obtain ⟨a1, -⟩ := hA k j hj (by omega)
    rw [pu_w]
    generalize pq_w (fun _ _ _ _ => none) (f_X3_placedAt_L15 N st ju mo (nI n) (nI t)) q = kk at ih ⊢
    unfold f_X3_placedAt_L15
    rw [if_neg (fun e => by rw [nI_ltI (by omega) (by omega)] at e; omega), e2, pu_cs, e3, pu_or (by omega) (by omega), pu_l, pu_lit 6, pk_mul, nI_add, pu_gd (by omega) (by omega), nI_clamp (by omega), a1, pu_l, pu_l, nI_1, ih, if_neg (show ¬ d + 1 = 0 by omega)]
    have eg : px_g (po_j s X) (po_n s X) n (m + 1) h j = k :: px_g (po_j s X) (po_n s X) n m (h ||| 2 ^ k) (po_n s X k j) := by
      show px_ff (px_t (po_j s X) (po_n s X) n m h j) 0 n :: px_g (po_j s X) (po_n s X) n m (h ||| 2 ^ px_ff (px_t (po_j s X) (po_n s X) n m h j) 0 n) (po_n s X (px_ff (px_t (po_j s X) (po_n s X) n m h j) 0 n) j) = _
      rw [ek]
    rw [eg]
    cases d with
    | zero => rfl
    | succ d => rfl
end PO
theorem po_m2 (z : Nat) : nI (z + 1) - (2 : Int32) = nI z - 1 := by
  cases z with
  | zero => rfl
  | succ y => rw [pu_lit 2, pk_sub (by omega), nI_pred]; rfl
theorem po_weigh {N : Nat} {x : Nat → Int32} {a : Nat → Nat → Int32} {s st ju mo : Nat → Int32} {P J C X S n : Nat} (hN : 500 < N) (hV : pn_V s P J C X S) (hC : pn_C x a s P J C) (hn : n ≤ 6) (hnC : X + n ≤ C) : ∃ st' ju' mo', f_X3_weighOrders N st ju mo (nI J) (nI X) (a 0) (a 3) (a 4) (a 5) (a 6) (a 7) (nI n) = some (st', ju', mo') ∧ po_A s X J n 0 st' ju' ∧ po_M s X J n 0 mo' := by
  have j2 := hV.2.1.2
  have p6 : 2 ^ n ≤ 2 ^ 6 := Nat.pow_le_pow_right (by omega) hn
  have pp := Nat.two_pow_pos n
  obtain ⟨st', ju', e1, e2⟩ := po_out (N := N) (mo := mo) (show 10 < N by omega) hV hC hn hnC n 0 N st ju (by omega) (by omega) (fun q i _ h => absurd h (by omega))
  have hnx : ∀ k j, k < n → j < J → po_n s X k j < J := fun k j hk hj => pm_n_lt hV hj (by omega) _
  have hM0 : po_M s X J n (2 ^ n - 1) (pn_fl mo 0 384) := by
    intro g h1 h2 j hj
    have eg : g = 2 ^ n - 1 := by omega
    have e0 : px_c n g = 0 := by
      have hz : pn_cn (fun k => !g.testBit k) n = pn_cn (fun k => !g.testBit k) 0 := pn_cn_end (i := 0) (Nat.zero_le n) (fun k _ hk => by
        rw [eg, Nat.testBit_two_pow_sub_one]
        simp [hk])
      exact hz
    rw [pn_fl_in (by omega), e0]
    rfl
  obtain ⟨mo', e3, e4⟩ := po_dn (N := N) (show 20 < N by omega) hn j2 hnx e2 (2 ^ n - 1) N (pn_fl mo 0 384) (by omega) (by omega) hM0
  refine ⟨st', ju', mo', ?_, e2, e4⟩
  have e5 : (1 : Int32) <<< (nI n &&& 31) = nI (2 ^ n) := pu_shl1 ⟨n, by omega⟩
  have e6 : nI (2 ^ n) - (2 : Int32) = nI (2 ^ n - 1) - 1 := by
    obtain ⟨z, hz⟩ : ∃ z, 2 ^ n = z + 1 := ⟨2 ^ n - 1, by omega⟩
    rw [hz, Nat.add_sub_cancel]
    exact po_m2 z
  unfold f_X3_weighOrders
  rw [nI_0] at e1
  rw [e1, pu_fill (by omega) (by omega), pu_cs, pu_l, e5, e6]
  exact e3
