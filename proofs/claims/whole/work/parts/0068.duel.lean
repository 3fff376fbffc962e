/-! ===== duel ===== -/
theorem pu_3s (d : Nat) : 3 ^ (d + 1) = 3 * 3 ^ d := by rw [Nat.pow_succ, Nat.mul_comm]
theorem pu_3p (d : Nat) : 0 < 3 ^ d := Nat.pow_pos (by omega)
theorem pu_3l {d : Nat} (h : d ≤ 8) : 3 ^ d ≤ 6561 := Nat.le_trans (Nat.pow_le_pow_right (by omega) h) (by decide)
def pm_ch (p q : Int32) (i : Nat) : Int32 := if i = 0 then -4 else if i = 1 then p else q
/-- d cases with the throws that a code tells, then e cases in which both do their best -/
def pm_Q (s : Nat → Int32) (p q : Int32) (e : Nat) : Nat → Nat → Nat → Nat → Int
  | 0, c, j, _ => pm_V s p q e c j
  | d + 1, c, j, code => pm_g p q (pn_wn s c j (pm_ch p q (code / 3 ^ d))) + pm_Q s p q e d (c + 1) (pm_n s j c (pn_wn s c j (pm_ch p q (code / 3 ^ d)))) (code % 3 ^ d)
theorem pm_Q_s (s : Nat → Int32) (p q : Int32) (e d c j code : Nat) : pm_Q s p q e (d + 1) c j code = pm_g p q (pn_wn s c j (pm_ch p q (code / 3 ^ d))) + pm_Q s p q e d (c + 1) (pm_n s j c (pn_wn s c j (pm_ch p q (code / 3 ^ d)))) (code % 3 ^ d) := rfl
theorem pm_Q_le (s : Nat → Int32) (p q : Int32) (e : Nat) : ∀ (d c j code : Nat), -((d + e : Nat) : Int) ≤ pm_Q s p q e d c j code ∧ pm_Q s p q e d c j code ≤ ((d + e : Nat) : Int)
  | 0, c, j, code => by
    have := pm_V_le s p q e c j
    show -((0 + e : Nat) : Int) ≤ pm_V s p q e c j ∧ pm_V s p q e c j ≤ ((0 + e : Nat) : Int)
    omega
  | d + 1, c, j, code => by
    have := pm_Q_le s p q e d (c + 1) (pm_n s j c (pn_wn s c j (pm_ch p q (code / 3 ^ d)))) (code % 3 ^ d)
    have := pm_g_le p q (pn_wn s c j (pm_ch p q (code / 3 ^ d)))
    rw [pm_Q_s]
    omega
def pm_cm (o1 o2 : Bool) (A0 A1 A2 : Int) : Int := if o1 = true then (if A1 ≤ (if o2 = true then (if A0 ≤ A2 then A0 else A2) else A0) then (if o2 = true then (if A0 ≤ A2 then A0 else A2) else A0) else A1) else (if o2 = true then (if A0 ≤ A2 then A0 else A2) else A0)
theorem pm_cm_add (o1 o2 : Bool) (g A0 A1 A2 : Int) : pm_cm o1 o2 (g + A0) (g + A1) (g + A2) = g + pm_cm o1 o2 A0 A1 A2 := by
  unfold pm_cm
  cases o1 <;> cases o2 <;> simp only [if_true, if_false, Bool.false_eq_true] <;> (repeat' split) <;> omega
theorem pm_cm_v (o1 o2 : Bool) (F G1 G2 A0 A1 A2 : Int) (h0 : A0 = F) (h1 : o1 = true → A1 = G1) (h2 : o2 = true → A2 = G2) : (if o1 = true then (if (if o2 = true then (if G2 < F then G2 else F) else F) < G1 then G1 else (if o2 = true then (if G2 < F then G2 else F) else F)) else (if o2 = true then (if G2 < F then G2 else F) else F)) = pm_cm o1 o2 A0 A1 A2 := by
  subst h0
  unfold pm_cm
  cases o1
  · cases o2
    · simp only [if_false, Bool.false_eq_true]
    · have e2 := h2 rfl
      subst e2
      simp only [if_true, if_false, Bool.false_eq_true]
      (repeat' split) <;> omega
  · have e1 := h1 rfl
    subst e1
    cases o2
    · simp only [if_true, if_false, Bool.false_eq_true]
      (repeat' split) <;> omega
    · have e2 := h2 rfl
      subst e2
      simp only [if_true]
      (repeat' split) <;> omega
theorem pm_Q_fold {s : Nat → Int32} {P J C X S : Nat} {p q : Int32} {e : Nat} (hV : pn_V s P J C X S) : ∀ (m c j code : Nat), c + m < C → code < 3 ^ m → pm_Q s p q (e + 1) m c j code = pm_cm (pm_ow s (c + m) p) (pm_ow s (c + m) q) (pm_Q s p q e (m + 1) c j (3 * code)) (pm_Q s p q e (m + 1) c j (3 * code + 1)) (pm_Q s p q e (m + 1) c j (3 * code + 2))
  | 0, c, j, code, hc, hk => by
    have h0 : code = 0 := by rw [Nat.pow_zero] at hk; omega
    subst h0
    have hA : ∀ i, pm_Q s p q e 1 c j i = pm_ga s p q c j (pm_V s p q e (c + 1)) (pn_wn s c j (pm_ch p q i)) := by
      intro i
      rw [pm_Q_s, Nat.pow_zero, Nat.div_one]
      rfl
    show pm_v s p q c j (pm_V s p q e (c + 1)) = pm_cm (pm_ow s c p) (pm_ow s c q) (pm_Q s p q e 1 c j 0) (pm_Q s p q e 1 c j 1) (pm_Q s p q e 1 c j 2)
    rw [hA, hA, hA]
    have e0 : pn_wn s c j (pm_ch p q 0) = pn_f s j (s (23 + j)) c := pm_wn_none hV hc j
    have e1 : pm_ow s c p = true → pn_wn s c j (pm_ch p q 1) = pn_op s c p := fun h => pm_wn_own h
    have e2 : pm_ow s c q = true → pn_wn s c j (pm_ch p q 2) = pn_op s c q := fun h => pm_wn_own h
    unfold pm_v pm_v1
    exact pm_cm_v _ _ _ _ _ _ _ _ (by rw [e0]) (fun h => by rw [e1 h]) (fun h => by rw [e2 h])
  | m + 1, c, j, code, hc, hk => by
    have h3 := pu_3p m
    have hd : ∀ i, i < 3 → (3 * code + i) / 3 ^ (m + 1) = code / 3 ^ m := by
      intro i hi
      rw [pu_3s, ← Nat.div_div_eq_div_mul, show (3 * code + i) / 3 = code by omega]
    have hr : ∀ i, i < 3 → (3 * code + i) % 3 ^ (m + 1) = 3 * (code % 3 ^ m) + i := by
      intro i hi
      rw [pu_3s, Nat.mod_mul, show (3 * code + i) / 3 = code by omega, show (3 * code + i) % 3 = i by omega]
      omega
    have ih := pm_Q_fold (p := p) (q := q) (e := e) hV m (c + 1) (pm_n s j c (pn_wn s c j (pm_ch p q (code / 3 ^ m)))) (code % 3 ^ m) (by omega) (Nat.mod_lt _ h3)
    rw [pm_Q_s, ih, pm_Q_s s p q e (m + 1), pm_Q_s s p q e (m + 1), pm_Q_s s p q e (m + 1)]
    have d0 := hd 0 (by omega)
    have r0 := hr 0 (by omega)
    rw [Nat.add_zero] at d0 r0
    rw [Nat.add_zero] at r0
    rw [d0, r0, hd 1 (by omega), hr 1 (by omega), hd 2 (by omega), hr 2 (by omega), pm_cm_add, show c + (m + 1) = c + 1 + m by omega]
    rfl
theorem pm_du_loop {N : Nat} {s : Nat → Int32} {P J C X K : Nat} {p q : Int32} (hN : 10 < N) (hK : X + K ≤ C) (hK8 : K ≤ 8) : ∀ (d k n : Nat) (t : Nat → Int32) (S rest : Nat) (x8 : Int32), k + d = K → d < n → rest < 3 ^ d → pn_V t P J C (X + k) S → pm_st s t → (-(k : Int) ≤ x8.toInt ∧ x8.toInt ≤ (k : Int)) → ∃ z T, pq_w (fun _ _ _ _ _ => none) (f_X8_dueled_L18 N p q (nI K)) n (nI rest) (nI (3 ^ d)) x8 (nI k) t = some (z, T) ∧ z.toInt = x8.toInt + pm_Q s p q 0 d (X + k) S rest
  | 0, k, n, t, S, rest, x8, h1, h2, h3, hV, hst, hx => by
    obtain ⟨n, rfl⟩ : ∃ t, n = t + 1 := ⟨n - 1, by omega⟩
    rw [pu_w]
    unfold f_X8_dueled_L18
    rw [if_pos (by rw [nI_leI (by omega) (by omega)]; omega)]
    refine ⟨_, _, rfl, ?_⟩
    show x8.toInt = x8.toInt + 0
    omega
  | d + 1, k, n, t, S, rest, x8, h1, h2, h3, hV, hst, hx => by
    obtain ⟨n, rfl⟩ : ∃ t, n = t + 1 := ⟨n - 1, by omega⟩
    have ih := pm_du_loop (s := s) (P := P) (J := J) (p := p) (q := q) hN hK hK8 d (k + 1) n
    rw [pu_w]
    generalize pq_w (fun _ _ _ _ _ => none) (f_X8_dueled_L18 N p q (nI K)) n = kk at ih ⊢
    have hp := pu_3p d
    have hl := pu_3l (d := d + 1) (by omega)
    have hs := pu_3s d
    have ed : nI (3 ^ (d + 1)) / 3 = nI (3 ^ d) := by
      have := pk_div (a := 3 ^ (d + 1)) (d := 3) (by omega) (by omega) (by omega)
      rw [hs, Nat.mul_div_cancel_left _ (by omega : 0 < 3)] at this
      rw [hs]
      exact this
    unfold f_X8_dueled_L18
    rw [if_neg (by rw [nI_leI (by omega) (by omega)]; omega), pu_l, ed, pu_z (nI_ne0 hp (by omega)), pu_l, pk_rem (by omega) hp (by omega), pk_div (by omega) hp (by omega), pu_z (nI_ne0 hp (by omega)), pu_l, pu_j]
    have hi : rest / 3 ^ d < 3 := by
      rw [Nat.div_lt_iff_lt_mul hp]
      omega
    have key : ∀ y : Int32, y = pm_ch p q (rest / 3 ^ d) → ∃ z T, (pq_c (f_X8_hears N t y) (fun r_5 => pq_j (fun (y0_J97 : Int32) => (pq_l ((x8 + y0_J97)) (fun x8_6 => pq_l (nI k + 1) (fun x9_7 => kk (nI (rest % 3 ^ d)) (nI (3 ^ d)) x8_6 x9_7 r_5.2)) : Option (Int32 × (Nat → Int32)))) (fun kJ97 => (if r_5.1 = p then kJ97 1 else (if r_5.1 = q then kJ97 (-1) else kJ97 0)))) : Option (Int32 × (Nat → Int32))) = some (z, T) ∧ z.toInt = x8.toInt + pm_Q s p q 0 (d + 1) (X + k) S rest := by
      intro y hy
      rw [hy]
      obtain ⟨eh, hV', hst'⟩ := pm_hear hN hV hst (by omega) (pm_ch p q (rest / 3 ^ d))
      rw [eh, pu_cs, pu_j, pm_Q_s]
      dsimp only
      have fin : ∀ v : Int32, v.toInt = pm_g p q (pn_wn s (X + k) S (pm_ch p q (rest / 3 ^ d))) → ∃ z T, (pq_l ((x8 + v)) (fun x8_6 => pq_l (nI k + 1) (fun x9_7 => kk (nI (rest % 3 ^ d)) (nI (3 ^ d)) x8_6 x9_7 (pn_h t (pm_ch p q (rest / 3 ^ d))))) : Option (Int32 × (Nat → Int32))) = some (z, T) ∧ z.toInt = x8.toInt + (pm_g p q (pn_wn s (X + k) S (pm_ch p q (rest / 3 ^ d))) + pm_Q s p q 0 d (X + k + 1) (pm_n s S (X + k) (pn_wn s (X + k) S (pm_ch p q (rest / 3 ^ d)))) (rest % 3 ^ d)) := by
        intro v hv
        have hg := pm_g_le p q (pn_wn s (X + k) S (pm_ch p q (rest / 3 ^ d)))
        have ea : (x8 + v).toInt = x8.toInt + v.toInt := pu_addi (by omega) (by omega) (by omega) (by omega)
        rw [pu_l, pu_l, nI_1]
        obtain ⟨z, T, e1, e2⟩ := ih _ _ (rest % 3 ^ d) (x8 + v) (by omega) (by omega) (Nat.mod_lt _ hp) hV' hst' (by omega)
        refine ⟨z, T, e1, ?_⟩
        rw [e2, ea, hv]
        rw [Int.add_assoc]
        rfl
      by_cases w1 : pn_wn s (X + k) S (pm_ch p q (rest / 3 ^ d)) = p
      · rw [if_pos w1]
        exact fin 1 (by unfold pm_g; rw [if_pos w1]; rfl)
      · rw [if_neg w1]
        by_cases w2 : pn_wn s (X + k) S (pm_ch p q (rest / 3 ^ d)) = q
        · rw [if_pos w2]
          exact fin (-1) (by unfold pm_g; rw [if_neg w1, if_pos w2]; rfl)
        · rw [if_neg w2]
          exact fin 0 (by unfold pm_g; rw [if_neg w1, if_neg w2]; rfl)
    by_cases i0 : rest / 3 ^ d = 0
    · rw [if_pos (by rw [i0]; rfl)]
      exact key _ (by unfold pm_ch; rw [if_pos i0])
    · rw [if_neg (by rw [pu_lit 0, nI_eq (by omega) (by omega)]; exact i0)]
      by_cases i1 : rest / 3 ^ d = 1
      · rw [if_pos (by rw [i1]; rfl)]
        exact key _ (by unfold pm_ch; rw [if_neg i0, if_pos i1])
      · rw [if_neg (by rw [pu_lit 1, nI_eq (by omega) (by omega)]; exact i1)]
        exact key _ (by unfold pm_ch; rw [if_neg i0, if_neg i1])
theorem pm_dueled {N : Nat} {s t : Nat → Int32} {P J C X S K code : Nat} {p q : Int32} (hN : 2000 < N) (hV : pn_V s P J C X S) (hK : X + K ≤ C) (hK8 : K ≤ 8) (hc : code < 3 ^ K) : ∃ z T, f_X8_dueled N s t p q (nI K) (nI (3 ^ K)) (nI code) = some (z, T) ∧ z.toInt = pm_Q s p q 0 K X S code := by
  obtain ⟨b1, b2, b3⟩ := pm_try (N := N) (t := t) hN hV
  unfold f_X8_dueled
  rw [b1, pu_cs]
  obtain ⟨z, T, e1, e2⟩ := pm_du_loop (s := s) (p := p) (q := q) (show 10 < N by omega) hK hK8 K 0 N _ S code 0 (by omega) (by omega) hc b2 b3 (by decide)
  refine ⟨z, T, e1, ?_⟩
  rw [e2]
  show (0 : Int) + pm_Q s p q 0 K (X + 0) S code = _
  rw [Int.zero_add, Nat.add_zero]
theorem pm_du_in {N : Nat} {s : Nat → Int32} {P J C X S m e : Nat} {p q x7 : Int32} {kL : Int32 → Int32 → (Nat → Int32) → Option (Int32 × (Nat → Int32) × (Nat → Int32))} (hV : pn_V s P J C X S) (hm : X + m < C) (hm8 : m + 1 ≤ 8) : ∀ (d i n : Nat) (val : Nat → Int32), i + d = 3 ^ m → d < n → (∀ o, o < i → (val o).toInt = pm_Q s p q (e + 1) m X S o) → (∀ o, i ≤ o → o < 3 ^ (m + 1) → (val o).toInt = pm_Q s p q e (m + 1) X S o) → ∃ val', pq_w (fun _ _ => none) (f_X8_duel_L146 N s p q x7 kL (nI (X + m)) (nI (3 ^ m))) n (nI i) val = kL (nI (3 ^ m)) (x7 + (-1)) val' ∧ ∀ o, o < 3 ^ m → (val' o).toInt = pm_Q s p q (e + 1) m X S o
  | 0, i, n, val, h1, h2, hlo, hhi => by
    obtain ⟨n, rfl⟩ : ∃ t, n = t + 1 := ⟨n - 1, by omega⟩
    have hl := pu_3l (d := m) (by omega)
    rw [pu_w]
    unfold f_X8_duel_L146
    rw [if_pos (by rw [nI_leI (by omega) (by omega)]; omega), pu_l]
    exact ⟨val, rfl, fun o ho => hlo o (by omega)⟩
  | d + 1, i, n, val, h1, h2, hlo, hhi => by
    obtain ⟨n, rfl⟩ : ∃ t, n = t + 1 := ⟨n - 1, by omega⟩
    have hl := pu_3l (d := m + 1) hm8
    have hs := pu_3s m
    have hC12 := hV.2.2.1
    have ih := pm_du_in (kL := kL) (p := p) (q := q) (x7 := x7) (e := e) (N := N) hV hm hm8 d (i + 1) n
    rw [pu_w]
    generalize pq_w (fun _ _ => none) (f_X8_duel_L146 N s p q x7 kL (nI (X + m)) (nI (3 ^ m))) n = kk at ih ⊢
    have v0 := hhi (3 * i) (by omega) (by omega)
    have v1 := hhi (3 * i + 1) (by omega) (by omega)
    have v2 := hhi (3 * i + 2) (by omega) (by omega)
    have fo := pm_Q_fold (p := p) (q := q) (e := e) hV m X S i hm (by omega)
    rw [← v0, ← v1, ← v2] at fo
    unfold f_X8_duel_L146
    rw [if_neg (by rw [nI_leI (by omega) (by omega)]; omega)]
    simp (disch := omega) only [pu_lit 3, pu_lit 1, pu_lit 2, pk_mul, nI_add, pu_gd, nI_clamp, pu_l, pm_isOf (show X + m < 12 by omega), pu_cs, pu_j]
    simp only [show nI 1 = (1 : Int32) from rfl]
    generalize val (3 * i) = A0 at fo ⊢
    generalize val (3 * i + 1) = A1 at fo ⊢
    generalize val (3 * i + 2) = A2 at fo ⊢
    have fin : ∀ v : Int32, v.toInt = pm_Q s p q (e + 1) m X S i → ∃ val', kk (nI (i + 1)) (upd val i v) = kL (nI (3 ^ m)) (x7 + (-1)) val' ∧ ∀ o, o < 3 ^ m → (val' o).toInt = pm_Q s p q (e + 1) m X S o := by
      intro v hv
      refine ih (upd val i v) (by omega) (by omega) (fun o ho => ?_) (fun o ho1 ho2 => ?_)
      · by_cases eo : o = i
        · subst eo; rw [pu_us]; exact hv
        · rw [pu_un eo]; exact hlo o (by omega)
      · rw [pu_un (by omega)]; exact hhi o (by omega) ho2
    unfold pm_cm at fo
    by_cases o2 : pm_ow s (X + m) q = true
    · rw [pu_f1 o2]
      simp only [o2, if_true] at fo
      by_cases l2 : A0 ≤ A2
      · rw [if_pos l2]
        rw [if_pos (pu_lei.mp l2)] at fo
        by_cases o1 : pm_ow s (X + m) p = true
        · rw [pu_f1 o1]
          simp only [o1, if_true] at fo
          by_cases l1 : A1 ≤ A0
          · rw [if_pos l1]
            rw [if_pos (pu_lei.mp l1)] at fo
            exact fin _ fo.symm
          · rw [if_neg l1]
            rw [if_neg (fun h => l1 (pu_lei.mpr h))] at fo
            exact fin _ fo.symm
        · rw [pu_f0 o1]
          simp only [o1, if_false, Bool.false_eq_true] at fo
          exact fin _ fo.symm
      · rw [if_neg l2]
        rw [if_neg (fun h => l2 (pu_lei.mpr h))] at fo
        by_cases o1 : pm_ow s (X + m) p = true
        · rw [pu_f1 o1]
          simp only [o1, if_true] at fo
          by_cases l1 : A1 ≤ A2
          · rw [if_pos l1]
            rw [if_pos (pu_lei.mp l1)] at fo
            exact fin _ fo.symm
          · rw [if_neg l1]
            rw [if_neg (fun h => l1 (pu_lei.mpr h))] at fo
            exact fin _ fo.symm
        · rw [pu_f0 o1]
          simp only [o1, if_false, Bool.false_eq_true] at fo
          exact fin _ fo.symm
    · rw [pu_f0 o2]
      simp only [o2, if_false, Bool.false_eq_true] at fo
      by_cases o1 : pm_ow s (X + m) p = true
      · rw [pu_f1 o1]
        simp only [o1, if_true] at fo
        by_cases l1 : A1 ≤ A0
        · rw [if_pos l1]
          rw [if_pos (pu_lei.mp l1)] at fo
          exact fin _ fo.symm
        · rw [if_neg l1]
          rw [if_neg (fun h => l1 (pu_lei.mpr h))] at fo
          exact fin _ fo.symm
      · rw [pu_f0 o1]
        simp only [o1, if_false, Bool.false_eq_true] at fo
        exact fin _ fo.symm
theorem pm_du_lv {N : Nat} {s T : Nat → Int32} {P J C X S K : Nat} {p q : Int32} (hN : 10000 < N) (hV : pn_V s P J C X S) (hK : X + K ≤ C) (hK8 : K ≤ 8) : ∀ (m n : Nat) (val : Nat → Int32), m ≤ K → m < n → (∀ o, o < 3 ^ m → (val o).toInt = pm_Q s p q (K - m) m X S o) → ∃ z val', pq_w (fun _ _ _ => none) (f_X8_duel_L121 N s p q T) n (nI (3 ^ m)) (nI m - 1) val = some (z, T, val') ∧ z.toInt = 100 + pm_V s p q K X S
  | 0, n, val, h1, h2, hv => by
    obtain ⟨n, rfl⟩ : ∃ t, n = t + 1 := ⟨n - 1, by omega⟩
    rw [pu_w]
    unfold f_X8_duel_L121
    rw [if_pos (by rw [nI_0]; decide), pq_gd_i (i := 0) (by decide), show (0 : Int32).toNatClampNeg = 0 from rfl]
    have h0 : (val 0).toInt = pm_V s p q K X S := hv 0 (by decide)
    have hb := pm_V_le s p q K X S
    refine ⟨_, _, rfl, ?_⟩
    have z100 : (100 : Int32).toInt = 100 := rfl
    rw [pu_addi (by omega) (by omega) (by omega) (by omega), h0, z100]
  | m + 1, n, val, h1, h2, hv => by
    obtain ⟨n, rfl⟩ : ∃ t, n = t + 1 := ⟨n - 1, by omega⟩
    obtain ⟨-, -, ⟨c1, c2⟩, x2, s2, ⟨eP, eJ, eC, eX, eS⟩, -⟩ := id hV
    have ih := pm_du_lv (T := T) (p := p) (q := q) hN hV hK hK8 m n
    rw [pu_w]
    generalize pq_w (fun _ _ _ => none) (f_X8_duel_L121 N s p q T) n = kk at ih ⊢
    have hl := pu_3l (d := m + 1) (by omega)
    have hs := pu_3s m
    have ed : nI (3 ^ (m + 1)) / 3 = nI (3 ^ m) := by
      have := pk_div (a := 3 ^ (m + 1)) (d := 3) (by omega) (by omega) (by omega)
      rw [hs, Nat.mul_div_cancel_left _ (by omega : 0 < 3)] at this
      rw [hs]
      exact this
    have e1 : nI (m + 1) - 1 = nI m := nI_pred m
    unfold f_X8_duel_L121
    rw [e1, if_neg (nI_pos (by omega)), pq_gd_i (i := 0) (by decide), show (0 : Int32).toNatClampNeg = 0 from rfl, eX, nI_add, pu_l, ed, pu_l]
    obtain ⟨val', e2, hv'⟩ := pm_du_in (N := N) (kL := kk) (p := p) (q := q) (x7 := nI m) (e := K - (m + 1)) (m := m) hV (by omega) (by omega) (3 ^ m) 0 N val (by omega) (by omega) (fun o ho => absurd ho (by omega)) (fun o _ ho => hv o ho)
    rw [nI_0] at e2
    rw [e2, ← Int32.sub_eq_add_neg]
    refine ih val' (by omega) (by omega) (fun o ho => ?_)
    rw [hv' o ho, show K - (m + 1) + 1 = K - m by omega]
theorem pm_du_all {N : Nat} {s : Nat → Int32} {P J C X S K : Nat} {p q : Int32} (hN : 10000 < N) (hV : pn_V s P J C X S) (hK : X + K ≤ C) (hK8 : K ≤ 8) : ∀ (d m n : Nat) (t val : Nat → Int32), m + d = 3 ^ K → d < n → (∀ o, o < m → (val o).toInt = pm_Q s p q 0 K X S o) → ∃ z T val', pq_w (fun _ _ _ => none) (f_X8_duel_L79 N s p q (nI K) (nI (3 ^ K))) n (nI m) t val = some (z, T, val') ∧ z.toInt = 100 + pm_V s p q K X S
  | 0, m, n, t, val, h1, h2, hv => by
    obtain ⟨n, rfl⟩ : ∃ t, n = t + 1 := ⟨n - 1, by omega⟩
    have hl := pu_3l hK8
    rw [pu_w]
    unfold f_X8_duel_L79
    rw [if_pos (by rw [nI_leI (by omega) (by omega)]; omega), pu_l]
    obtain ⟨z, val', e1, e2⟩ := pm_du_lv (T := t) (p := p) (q := q) hN hV hK hK8 K N val (by omega) (by omega) (fun o ho => by rw [show K - K = 0 by omega]; exact hv o (by omega))
    exact ⟨z, t, val', e1, e2⟩
  | d + 1, m, n, t, val, h1, h2, hv => by
    obtain ⟨n, rfl⟩ : ∃ t, n = t + 1 := ⟨n - 1, by omega⟩
    have hl := pu_3l hK8
    have ih := pm_du_all (p := p) (q := q) hN hV hK hK8 d (m + 1) n
    rw [pu_w]
    generalize pq_w (fun _ _ _ => none) (f_X8_duel_L79 N s p q (nI K) (nI (3 ^ K))) n = kk at ih ⊢
    obtain ⟨z, T, e1, e2⟩ := pm_dueled (N := N) (t := t) (p := p) (q := q) (code := m) (show 2000 < N by omega) hV hK hK8 (by omega)
    unfold f_X8_duel_L79
    rw [if_neg (by rw [nI_leI (by omega) (by omega)]; omega), e1, pu_cs, pu_gd (by omega) (by omega), pu_l, pu_l, nI_1, nI_clamp (by omega)]
    refine ih T (upd val m z) (by omega) (by omega) (fun o ho => ?_)
    by_cases eo : o = m
    · subst eo; rw [pu_us]; exact e2
    · rw [pu_un eo]; exact hv o (by omega)
theorem pm_du_codes {N : Nat} {s t val : Nat → Int32} {K : Nat} {p q : Int32} (hK8 : K ≤ 8) : ∀ (d i n : Nat), i + d = K → d < n → pq_w (fun _ _ => none) (f_X8_duel_L57 N s t val p q (nI K)) n (nI (3 ^ i)) (nI i) = pq_w (fun _ _ _ => none) (f_X8_duel_L79 N s p q (nI K) (nI (3 ^ K))) N 0 t val
  | 0, i, n, h1, h2 => by
    obtain ⟨n, rfl⟩ : ∃ t, n = t + 1 := ⟨n - 1, by omega⟩
    rw [pu_w]
    unfold f_X8_duel_L57
    rw [if_pos (by rw [nI_leI (by omega) (by omega)]; omega), show i = K by omega]
  | d + 1, i, n, h1, h2 => by
    obtain ⟨n, rfl⟩ : ∃ t, n = t + 1 := ⟨n - 1, by omega⟩
    have ih := pm_du_codes (N := N) (s := s) (t := t) (val := val) (p := p) (q := q) hK8 d (i + 1) n (by omega) (by omega)
    rw [pu_w]
    generalize pq_w (fun _ _ => none) (f_X8_duel_L57 N s t val p q (nI K)) n = kk at ih ⊢
    unfold f_X8_duel_L57
    rw [if_neg (by rw [nI_leI (by omega) (by omega)]; omega), pu_l, pu_l, nI_1, pu_lit 3, pk_mul, ← Nat.pow_succ]
    exact ih
set_option maxHeartbeats 2000000 in
theorem sim_duel {xI : Nat → Int32} {xA : Nat → Nat → Int32} {xL : Nat → Nat → Int64} {aw : Nat → Nat → Int32} {mI : Nat → Int32} {mA : Nat → Nat → Int32} {mL : Nat → Int64} (hR : pq_R xI xA xL aw mI mA mL) (p1 : Int32) (p2 : Int32) (p3 : Int32) : ∃ (zc : Int32 × (Nat → Int32) × (Nat → Int32)) (zm : Int32 × (Nat → Int32) × (Nat → Int32)), f_X7_duel pq_N (xA 37) (xA 38) (xI 10) (xI 11) (xI 12) (xI 13) (xI 14) (xA 18) (xA 21) (xA 22) (xA 23) (xA 24) (xA 25) p1 p2 p3 = some zc ∧ f_X8_duel pq_N (mA 6) (mA 8) (mA 13) p1 p2 p3 = some zm ∧ zc.1 = zm.1 ∧ pq_R xI (va_up (va_up xA 37 zc.2.1) 38 zc.2.2) xL aw mI (va_up (va_up mA 8 zm.2.1) 13 zm.2.2) mL := by
  obtain ⟨⟨r0, r1, r2, r3, r4⟩, k2, k3, k4⟩ := pu_now hR
  have hscr : ∀ (f g h i : Nat → Int32), pq_R xI (va_up (va_up xA 37 f) 38 g) xL aw mI (va_up (va_up mA 8 h) 13 i) mL := by
    intro f g h i
    refine pq_kF hR ?_ ?_ ?_ ?_
    · intro k hk; rfl
    · intro k hk; simp (disch := omega) only [pu_vo]
    · intro k hk; rfl
    · intro k hk; simp (disch := omega) only [pu_vo]
  have z0 : (0 : Int32).toInt = 0 := rfl
  have z8 : (8 : Int32).toInt = 8 := rfl
  unfold f_X7_duel f_X8_duel
  rw [r0, pu_hasParty, pu_cs, pu_isParty k2, pu_cs, pu_hasParty, pu_cs, pu_isParty k2, pu_cs, pu_in, pu_cs, z0, z8]
  by_cases hv : 0 ≤ p1.toInt ∧ p1.toInt < (mA 6 2).toInt
  · rw [pu_f1 hv, pu_f1 hv]
    by_cases hv2 : 0 ≤ p2.toInt ∧ p2.toInt < (mA 6 2).toInt
    · rw [pu_f1 hv2, pu_f1 hv2]
      by_cases he : p1 = p2
      · rw [if_pos he, if_pos he]
        exact ⟨_, _, rfl, rfl, rfl, hscr _ _ _ _⟩
      · rw [if_neg he, if_neg he]
        by_cases hv3 : 0 ≤ p3.toInt ∧ p3.toInt ≤ 8
        · rw [pu_f1 hv3, if_neg (show ¬ p3 < 0 by rw [pu_lt, z0]; omega), if_pos (show p3 ≤ 8 by rw [pu_lei, z8]; omega)]
          obtain ⟨P, J, C, X, S, hW, hC⟩ := pu_there hR (k := 2) (by omega) hv
          have hV := hW.v
          obtain ⟨⟨p1', p2'⟩, ⟨j1, j2⟩, ⟨c1, c2⟩, x2, s2, ⟨eP, eJ, eC, eX, eS⟩, -⟩ := id hV
          obtain ⟨l1, l2⟩ := pu_left (N := pq_N) hV
          obtain ⟨n, hn, en⟩ := pu_le (n := 8) hv3.1 (by omega)
          obtain ⟨nd, hN⟩ := pu_ND
          rw [r2, r3, l1, pu_cs, l2, pu_cs, r1, r4, eJ, eX, eS, en, pu_j, pu_cs]
          have fin : ∀ K, K ≤ 8 → X + K ≤ C → ∃ (zc : Int32 × (Nat → Int32) × (Nat → Int32)) (zm : Int32 × (Nat → Int32) × (Nat → Int32)), (pq_c (f_X3_contest pq_N (xA 37) (xA 38) (nI J) (nI X) (nI S) (xA 18) (xA 21) (xA 22) (xA 23) (xA 24) (xA 25) p1 p2 (nI K)) (fun r_4 => some (((100 : Int32) + r_4.1), r_4.2.1, r_4.2.2)) : Option (Int32 × (Nat → Int32) × (Nat → Int32))) = some zc ∧ pq_w (fun _ _ => none) (f_X8_duel_L57 pq_N (mA 6) (mA 8) (mA 13) p1 p2 (nI K)) pq_N 1 0 = some zm ∧ zc.1 = zm.1 ∧ pq_R xI (va_up (va_up xA 37 zc.2.1) 38 zc.2.2) xL aw mI (va_up (va_up mA 8 zm.2.1) 13 zm.2.2) mL := by
            intro K hK8 hK
            obtain ⟨z, h', t', ez, hz⟩ := pm_contest (N := pq_N) (p := p1) (q := p2) (K := K) (here := xA 37) (th := xA 38) (show 20 < pq_N by omega) hV hC hK
            have ez' : f_X3_contest pq_N (xA 37) (xA 38) (nI J) (nI X) (nI S) (xA 18) (xA 21) (xA 22) (xA 23) (xA 24) (xA 25) p1 p2 (nI K) = some (z, h', t') := ez
            obtain ⟨z2, T, val', e1, e2⟩ := pm_du_all (N := pq_N) (p := p1) (q := p2) (show 10000 < pq_N by omega) hV hK hK8 (3 ^ K) 0 pq_N (mA 8) (mA 13) (by omega) (by have := pu_3l hK8; omega) (fun o ho => absurd ho (by omega))
            have e3 := pm_du_codes (N := pq_N) (s := mA 6) (t := mA 8) (val := mA 13) (p := p1) (q := p2) hK8 K 0 pq_N (by omega) (by omega)
            have e3' : pq_w (fun _ _ => none) (f_X8_duel_L57 pq_N (mA 6) (mA 8) (mA 13) p1 p2 (nI K)) pq_N 1 0 = pq_w (fun _ _ _ => none) (f_X8_duel_L79 pq_N (mA 6) p1 p2 (nI K) (nI (3 ^ K))) pq_N 0 (mA 8) (mA 13) := e3
            have e1' : pq_w (fun _ _ _ => none) (f_X8_duel_L79 pq_N (mA 6) p1 p2 (nI K) (nI (3 ^ K))) pq_N 0 (mA 8) (mA 13) = some (z2, T, val') := e1
            rw [ez', pu_cs, e3', e1']
            refine ⟨_, _, rfl, rfl, ?_, hscr _ _ _ _⟩
            show (100 : Int32) + z = z2
            apply Int32.toInt_inj.mp
            have hb := pm_V_le (mA 6) p1 p2 K X S
            have z100 : (100 : Int32).toInt = 100 := rfl
            rw [e2, pu_addi (by omega) (by omega) (by omega) (by omega), hz, z100]
          by_cases hle : C - X ≤ n
          · rw [if_pos (show nI (C - X) ≤ nI n by rw [nI_leI (by omega) (by omega)]; exact hle)]
            have ek : (if nI (C - X) < nI n then nI (C - X) else nI n) = nI (C - X) := by
              by_cases hlt : C - X < n
              · rw [if_pos (by rw [nI_ltI (by omega) (by omega)]; exact hlt)]
              · rw [if_neg (by rw [nI_ltI (by omega) (by omega)]; exact hlt), show n = C - X by omega]
            rw [ek]
            exact fin (C - X) (by omega) (by omega)
          · rw [if_neg (show ¬ nI (C - X) ≤ nI n by rw [nI_leI (by omega) (by omega)]; exact hle), if_neg (show ¬ nI (C - X) < nI n by rw [nI_ltI (by omega) (by omega)]; omega)]
            exact fin n hn (by omega)
        · rw [pu_f0 hv3]
          by_cases hl0 : p3 < 0
          · rw [if_pos hl0]
            exact ⟨_, _, rfl, rfl, rfl, hscr _ _ _ _⟩
          · rw [if_neg hl0, if_neg (show ¬ p3 ≤ 8 by rw [pu_lt, z0] at hl0; rw [pu_lei, z8]; omega)]
            exact ⟨_, _, rfl, rfl, rfl, hscr _ _ _ _⟩
    · rw [pu_f0 hv2, pu_f0 hv2]
      exact ⟨_, _, rfl, rfl, rfl, hscr _ _ _ _⟩
  · rw [pu_f0 hv, pu_f0 hv]
    exact ⟨_, _, rfl, rfl, rfl, hscr _ _ _ _⟩
