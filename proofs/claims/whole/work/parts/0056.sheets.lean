/-! ===== sheets ===== -/
theorem pu_ul {f : Nat → Int64} {k : Nat} {x : Int64} : vp_updL f k x k = x := if_pos rfl
theorem pu_ulo {f : Nat → Int64} {k j : Nat} {x : Int64} (h : j ≠ k) : vp_updL f k x j = f j := if_neg h
theorem pu_sheet7 {N : Nat} {v : Int32} : f_X7_isSheet N v = some (if 0 ≤ v.toInt ∧ v.toInt < 4 then 1 else 0) := pu_has (N := N) (n := 4)
theorem pu_lane7 {N : Nat} {v : Int32} : f_X7_isLane N v = some (if 0 ≤ v.toInt ∧ v.toInt < 4 then 1 else 0) := pu_has (N := N) (n := 4)
theorem pu_in3 {N : Nat} {v : Int32} : f_X8_in N v 0 3 = some (if 0 ≤ v.toInt ∧ v.toInt < 4 then 1 else 0) := by
  rw [pu_in]
  have z0 : (0 : Int32).toInt = 0 := rfl
  have z3 : (3 : Int32).toInt = 3 := rfl
  rw [z0, z3]
  by_cases h : 0 ≤ v.toInt ∧ v.toInt < 4
  · rw [if_pos h, if_pos (by omega)]
  · rw [if_neg h, if_neg (by omega)]
theorem pu_sheet8 {N : Nat} {v : Int32} : f_X8_isSheet N v = some (if 0 ≤ v.toInt ∧ v.toInt < 4 then 1 else 0) := by
  unfold f_X8_isSheet
  rw [pu_in3, pu_cs, pu_bi]
theorem pu_subi {x y : Int32} (hx : 0 ≤ x.toInt) (hy : 0 ≤ y.toInt) : (x - y).toInt = x.toInt - y.toInt := by
  have h1 : x.toInt < 2147483648 := Int32.toInt_lt x
  have h2 : y.toInt < 2147483648 := Int32.toInt_lt y
  rw [Int32.toInt_sub, Int.bmod_eq_of_le (by omega) (by omega)]
theorem pu_reaches {N : Nat} {z i n : Int32} (hz : 0 ≤ z.toInt) : f_X5_reaches N z i n = some (if 0 ≤ i.toInt ∧ 0 ≤ n.toInt ∧ i.toInt + n.toInt ≤ z.toInt then 1 else 0) := by
  unfold f_X5_reaches
  have z0 : (0 : Int32).toInt = 0 := rfl
  by_cases h1 : i < 0
  · rw [if_pos h1, pu_b0, if_neg (by rw [pu_lt, z0] at h1; omega)]
  · rw [if_neg h1]
    rw [pu_lt, z0] at h1
    by_cases h2 : n < 0
    · rw [if_pos h2, pu_b0, if_neg (by rw [pu_lt, z0] at h2; omega)]
    · rw [if_neg h2]
      rw [pu_lt, z0] at h2
      have hs := pu_subi (x := z) (y := n) hz (by omega)
      by_cases h3 : z - n < i
      · rw [if_pos h3, pu_b0, if_neg (by rw [pu_lt, hs] at h3; omega)]
      · rw [if_neg h3, pu_b1, if_pos (by rw [pu_lt, hs] at h3; omega)]
theorem pu_isPart {N : Nat} {z i n : Int32} (hz : 0 ≤ z.toInt) : f_X8_isPart N i n z = some (if 0 ≤ i.toInt ∧ 0 ≤ n.toInt ∧ i.toInt + n.toInt ≤ z.toInt then 1 else 0) := by
  unfold f_X8_isPart
  have z0 : (0 : Int32).toInt = 0 := rfl
  by_cases h2 : n < 0
  · rw [if_pos h2, pu_b0, if_neg (by rw [pu_lt, z0] at h2; omega)]
  · rw [if_neg h2]
    rw [pu_lt, z0] at h2
    by_cases h1 : i < 0
    · rw [if_pos h1, pu_b0, if_neg (by rw [pu_lt, z0] at h1; omega)]
    · rw [if_neg h1]
      rw [pu_lt, z0] at h1
      have hs := pu_subi (x := z) (y := n) hz (by omega)
      by_cases h4 : z < n
      · rw [if_pos h4, pu_b0, if_neg (by rw [pu_lt] at h4; omega)]
      · rw [if_neg h4]
        by_cases h3 : z - n < i
        · rw [if_pos h3, pu_b0, if_neg (by rw [pu_lt, hs] at h3; omega)]
        · rw [if_neg h3, pu_b1, if_pos (by rw [pu_lt, hs] at h3; omega)]
/-- a sheet's lane on both sides -/
theorem pu_lanes {h l z ml ms : Int32} {it mi : Nat → Int64} (hs : pq_sh h l z it ml ms mi) : (h = 0 ∧ ml.toInt = -1) ∨ (h = 1 ∧ ml = l ∧ ms = z ∧ 0 ≤ ml.toInt ∧ ml.toInt ≤ 3 ∧ ∃ Z, Z ≤ 24 ∧ z = nI Z) := by
  rcases hs with ⟨h1, h2⟩ | ⟨h1, h2, ⟨h3, h4⟩, h5, ⟨h6, h7⟩, h8⟩
  · exact Or.inl ⟨h1, by rw [h2]; rfl⟩
  · exact Or.inr ⟨h1, h2, h5, by rw [h2]; exact h3, by rw [h2]; exact h4, pu_le (n := 24) h6 (by omega)⟩
theorem pu_refuse {N k : Nat} {h l z p2 p3 p4 : Int32} {it mi : Nat → Int64} {ln sz : Nat → Int32} (hk : k < 4) (hs : pq_sh h l z it (ln k) (sz k) mi) : ∃ r, f_X5_refusal N h l z p2 p3 p4 = some r ∧ f_X8_wrong N ln sz (nI k) p2 p3 p4 = some r ∧ (r = 0 → h = 1 ∧ l = p2 ∧ ln k = p2 ∧ ∃ i n Z, p3 = nI i ∧ p4 = nI n ∧ i + n ≤ Z ∧ Z ≤ 24 ∧ z = nI Z ∧ sz k = nI Z) := by
  have z0 : (0 : Int32).toInt = 0 := rfl
  unfold f_X5_refusal f_X8_wrong
  simp (disch := omega) only [pu_gd, nI_clamp]
  rcases pu_lanes hs with ⟨h1, h2⟩ | ⟨h1, h2, h3, h4, h5, Z, hZ, eZ⟩
  · rw [if_pos h1, if_neg (by rw [pu_lei, z0]; omega)]
    exact ⟨_, rfl, rfl, fun e => absurd e (by decide)⟩
  · rw [if_neg (by rw [h1]; decide), if_pos (show 0 ≤ ln k by rw [pu_lei, z0]; exact h4), h2]
    by_cases q : l = p2
    · have tz : z.toInt = Z := by rw [eZ]; exact nI_toInt (by omega)
      rw [if_pos q, if_pos q, h3, pu_reaches (by omega), pu_isPart (by omega), pu_cs]
      by_cases g : 0 ≤ p3.toInt ∧ 0 ≤ p4.toInt ∧ p3.toInt + p4.toInt ≤ z.toInt
      · rw [pu_f1 g]
        refine ⟨_, rfl, rfl, fun _ => ⟨h1, q, q, ?_⟩⟩
        obtain ⟨i, hi, ei⟩ := pu_le (n := 24) (x := p3) g.1 (by omega)
        obtain ⟨n, hn, en⟩ := pu_le (n := 24) (x := p4) g.2.1 (by omega)
        refine ⟨i, n, Z, ei, en, ?_, hZ, eZ, eZ⟩
        rw [ei, en, tz, nI_toInt (by omega), nI_toInt (by omega)] at g
        omega
      · rw [pu_f0 g]
        exact ⟨_, rfl, rfl, fun e => absurd e (by decide)⟩
    · rw [if_neg q, if_neg q]
      exact ⟨_, rfl, rfl, fun e => absurd e (by decide)⟩
def pn_flL (f : Nat → Int64) (o q : Nat) : Nat → Int64 := fun k => if o ≤ k ∧ k < o + q then 0 else f k
theorem pn_flL_0 (f : Nat → Int64) (o : Nat) : pn_flL f o 0 = f := by
  funext k
  unfold pn_flL
  rw [if_neg (by omega)]
theorem pn_flL_s (f : Nat → Int64) (o q : Nat) : vp_updL (pn_flL f o q) (o + q) 0 = pn_flL f o (q + 1) := by
  funext k
  by_cases h : k = o + q
  · subst h
    rw [pu_ul]
    unfold pn_flL
    rw [if_pos (by omega)]
  · rw [pu_ulo h]
    unfold pn_flL
    by_cases h2 : o ≤ k ∧ k < o + q
    · rw [if_pos h2, if_pos (by omega)]
    · rw [if_neg h2, if_neg (by omega)]
theorem pu_fillL_loop {N n0 : Nat} {f : Nat → Int64} (hn : n0 < 2 ^ 20) : ∀ (d q m : Nat), q + d = n0 → d < m → pq_w (fun _ _ => none) (f_J7_fill_d0a16_L6 N n0 0 (nI n0)) m (nI q) (pn_flL f 0 q) = some (pn_flL f 0 n0)
  | 0, q, m, e1, e2 => by
    obtain ⟨m, rfl⟩ : ∃ t, m = t + 1 := ⟨m - 1, by omega⟩
    rw [pu_w]
    unfold f_J7_fill_d0a16_L6
    rw [if_pos (by rw [nI_leI (by omega) (by omega)]; omega), show q = n0 by omega]
  | d + 1, q, m, e1, e2 => by
    obtain ⟨m, rfl⟩ : ∃ t, m = t + 1 := ⟨m - 1, by omega⟩
    have ih := pu_fillL_loop (N := N) (f := f) hn d (q + 1) m (by omega) (by omega)
    rw [pu_w]
    generalize pq_w (fun _ _ => none) (f_J7_fill_d0a16_L6 N n0 0 (nI n0)) m = kk at ih ⊢
    unfold f_J7_fill_d0a16_L6
    rw [if_neg (by rw [nI_leI (by omega) (by omega)]; omega)]
    simp (disch := omega) only [pu_gd, nI_clamp, pu_l, nI_1]
    have e := pn_flL_s f 0 q
    rw [Nat.zero_add] at e
    rw [e]
    exact ih
theorem pu_fillL {N n0 : Nat} {f : Nat → Int64} (hn : n0 < 2 ^ 20) (hN : n0 < N) : f_J7_fill_d0a16 N n0 f 0 = some (pn_flL f 0 n0) := by
  unfold f_J7_fill_d0a16
  rw [pu_l]
  have e := pu_fillL_loop (N := N) (f := f) hn n0 0 N (by omega) hN
  rw [pn_flL_0, nI_0] at e
  exact e
theorem pu_sheet8_loop {N k : Nat} {p3 : Int32} {ln sz : Nat → Int32} {f : Nat → Int64} (hk : k < 4) : ∀ (d q m : Nat), q + d = 24 → d < m → pq_w (fun _ _ => none) (f_X8_sheet_L48 N (nI k) p3 ln sz) m (nI q) (pn_flL f (24 * k) q) = some (p3, ln, sz, pn_flL f (24 * k) 24)
  | 0, q, m, e1, e2 => by
    obtain ⟨m, rfl⟩ : ∃ t, m = t + 1 := ⟨m - 1, by omega⟩
    rw [pu_w]
    unfold f_X8_sheet_L48
    rw [if_pos (by rw [pu_lit 24, nI_leI (by omega) (by omega)]; omega), show q = 24 by omega]
  | d + 1, q, m, e1, e2 => by
    obtain ⟨m, rfl⟩ : ∃ t, m = t + 1 := ⟨m - 1, by omega⟩
    have ih := pu_sheet8_loop (N := N) (p3 := p3) (ln := ln) (sz := sz) (f := f) hk d (q + 1) m (by omega) (by omega)
    rw [pu_w]
    generalize pq_w (fun _ _ => none) (f_X8_sheet_L48 N (nI k) p3 ln sz) m = kk at ih ⊢
    unfold f_X8_sheet_L48
    rw [if_neg (by rw [pu_lit 24, nI_leI (by omega) (by omega)]; omega)]
    simp (disch := omega) only [pu_lit 24, pk_mul, nI_add, pu_gd, nI_clamp, pu_l, nI_1]
    rw [pn_flL_s]
    exact ih
theorem pu_k4 {v : Int32} (h : 0 ≤ v.toInt ∧ v.toInt < 4) : ∃ k, k < 4 ∧ v = nI k := pu_of (n := 4) h.1 h.2
set_option maxHeartbeats 2000000 in
theorem sim_sheet {xI : Nat → Int32} {xA : Nat → Nat → Int32} {xL : Nat → Nat → Int64} {aw : Nat → Nat → Int32} {mI : Nat → Int32} {mA : Nat → Nat → Int32} {mL : Nat → Int64} (hR : pq_R xI xA xL aw mI mA mL) (p1 : Int32) (p2 : Int32) (p3 : Int32) : ∃ (zc : Int32 × Int32 × Int32 × Int32 × (Nat → Int64) × Int32 × Int32 × Int32 × (Nat → Int64) × Int32 × Int32 × Int32 × (Nat → Int64) × Int32 × Int32 × Int32 × (Nat → Int64)) (zm : Int32 × (Nat → Int32) × (Nat → Int32) × (Nat → Int64)), f_X7_sheet pq_N (xI 25) (xI 26) (xI 27) (xL 0) (xI 28) (xI 29) (xI 30) (xL 1) (xI 31) (xI 32) (xI 33) (xL 2) (xI 34) (xI 35) (xI 36) (xL 3) p1 p2 p3 = some zc ∧ f_X8_sheet pq_N (mA 0) (mA 1) mL p1 p2 p3 = some zm ∧ zc.1 = zm.1 ∧ pq_R (va_up (va_up (va_up (va_up (va_up (va_up (va_up (va_up (va_up (va_up (va_up (va_up xI 25 zc.2.1) 26 zc.2.2.1) 27 zc.2.2.2.1) 28 zc.2.2.2.2.2.1) 29 zc.2.2.2.2.2.2.1) 30 zc.2.2.2.2.2.2.2.1) 31 zc.2.2.2.2.2.2.2.2.2.1) 32 zc.2.2.2.2.2.2.2.2.2.2.1) 33 zc.2.2.2.2.2.2.2.2.2.2.2.1) 34 zc.2.2.2.2.2.2.2.2.2.2.2.2.2.1) 35 zc.2.2.2.2.2.2.2.2.2.2.2.2.2.2.1) 36 zc.2.2.2.2.2.2.2.2.2.2.2.2.2.2.2.1) xA (va_up (va_up (va_up (va_up xL 0 zc.2.2.2.2.1) 1 zc.2.2.2.2.2.2.2.2.1) 2 zc.2.2.2.2.2.2.2.2.2.2.2.2.1) 3 zc.2.2.2.2.2.2.2.2.2.2.2.2.2.2.2.2) aw mI (va_up (va_up mA 0 zm.2.1) 1 zm.2.2.1) zm.2.2.2 := by
  have same : pq_R (va_up (va_up (va_up (va_up (va_up (va_up (va_up (va_up (va_up (va_up (va_up (va_up xI 25 (xI 25)) 26 (xI 26)) 27 (xI 27)) 28 (xI 28)) 29 (xI 29)) 30 (xI 30)) 31 (xI 31)) 32 (xI 32)) 33 (xI 33)) 34 (xI 34)) 35 (xI 35)) 36 (xI 36)) xA (va_up (va_up (va_up (va_up xL 0 (xL 0)) 1 (xL 1)) 2 (xL 2)) 3 (xL 3)) aw mI (va_up (va_up mA 0 (mA 0)) 1 (mA 1)) mL := by
    simp only [pu_vid]; exact hR
  unfold f_X7_sheet f_X8_sheet
  rw [pu_sheet7, pu_cs, pu_sheet8, pu_cs, pu_lane7, pu_cs, pu_in3, pu_cs]
  by_cases hv : 0 ≤ p1.toInt ∧ p1.toInt < 4
  · rw [pu_f1 hv, pu_f1 hv]
    by_cases hl : 0 ≤ p2.toInt ∧ p2.toInt < 4
    · rw [pu_f1 hl, pu_f1 hl]
      by_cases h24 : p3 ≤ 24
      · rw [if_pos h24, if_pos h24]
        by_cases h0 : 0 ≤ p3
        · rw [if_pos h0, if_pos h0]
          obtain ⟨k, hk, ek⟩ := pu_k4 hv
          have fill : ∀ f, f_J7_fill_d0a16 pq_N 24 f 0 = some (pn_flL f 0 24) := fun f => pu_fillL (by omega) (by have := pu_N2; omega)
          have hlay : ∀ (a b c : Int32) (f : Nat → Int64), f_X5_lay pq_N a b c f p2 p3 = some (1, p2, p3, pn_flL f 0 24) := by
            intro a b c f
            unfold f_X5_lay
            rw [fill, pu_cs]
          have em := pu_sheet8_loop (N := pq_N) (p3 := p3) (ln := upd (mA 0) k p2) (sz := upd (mA 1) k p3) (f := mL) hk 24 0 pq_N (by omega) (by have := pu_N2; omega)
          rw [pn_flL_0, nI_0] at em
          rw [ek, pu_gd hk (by omega), pu_gd hk (by omega), pu_l, pu_gd hk (by omega), pu_l, nI_clamp (by omega), em, hlay, hlay, hlay, hlay, pu_cs, pu_cs, pu_cs, pu_cs]
          have fin : ∀ zc : Int32 × Int32 × Int32 × Int32 × (Nat → Int64) × Int32 × Int32 × Int32 × (Nat → Int64) × Int32 × Int32 × Int32 × (Nat → Int64) × Int32 × Int32 × Int32 × (Nat → Int64), zc.1 = p3 → (∀ j, j < 4 → (va_up (va_up (va_up (va_up (va_up (va_up (va_up (va_up (va_up (va_up (va_up (va_up xI 25 zc.2.1) 26 zc.2.2.1) 27 zc.2.2.2.1) 28 zc.2.2.2.2.2.1) 29 zc.2.2.2.2.2.2.1) 30 zc.2.2.2.2.2.2.2.1) 31 zc.2.2.2.2.2.2.2.2.2.1) 32 zc.2.2.2.2.2.2.2.2.2.2.1) 33 zc.2.2.2.2.2.2.2.2.2.2.2.1) 34 zc.2.2.2.2.2.2.2.2.2.2.2.2.2.1) 35 zc.2.2.2.2.2.2.2.2.2.2.2.2.2.2.1) 36 zc.2.2.2.2.2.2.2.2.2.2.2.2.2.2.2.1 (25 + 3 * j) = (if j = k then 1 else xI (25 + 3 * j)) ∧ va_up (va_up (va_up (va_up (va_up (va_up (va_up (va_up (va_up (va_up (va_up (va_up xI 25 zc.2.1) 26 zc.2.2.1) 27 zc.2.2.2.1) 28 zc.2.2.2.2.2.1) 29 zc.2.2.2.2.2.2.1) 30 zc.2.2.2.2.2.2.2.1) 31 zc.2.2.2.2.2.2.2.2.2.1) 32 zc.2.2.2.2.2.2.2.2.2.2.1) 33 zc.2.2.2.2.2.2.2.2.2.2.2.1) 34 zc.2.2.2.2.2.2.2.2.2.2.2.2.2.1) 35 zc.2.2.2.2.2.2.2.2.2.2.2.2.2.2.1) 36 zc.2.2.2.2.2.2.2.2.2.2.2.2.2.2.2.1 (26 + 3 * j) = (if j = k then p2 else xI (26 + 3 * j)) ∧ va_up (va_up (va_up (va_up (va_up (va_up (va_up (va_up (va_up (va_up (va_up (va_up xI 25 zc.2.1) 26 zc.2.2.1) 27 zc.2.2.2.1) 28 zc.2.2.2.2.2.1) 29 zc.2.2.2.2.2.2.1) 30 zc.2.2.2.2.2.2.2.1) 31 zc.2.2.2.2.2.2.2.2.2.1) 32 zc.2.2.2.2.2.2.2.2.2.2.1) 33 zc.2.2.2.2.2.2.2.2.2.2.2.1) 34 zc.2.2.2.2.2.2.2.2.2.2.2.2.2.1) 35 zc.2.2.2.2.2.2.2.2.2.2.2.2.2.2.1) 36 zc.2.2.2.2.2.2.2.2.2.2.2.2.2.2.2.1 (27 + 3 * j) = (if j = k then p3 else xI (27 + 3 * j)) ∧ va_up (va_up (va_up (va_up xL 0 zc.2.2.2.2.1) 1 zc.2.2.2.2.2.2.2.2.1) 2 zc.2.2.2.2.2.2.2.2.2.2.2.2.1) 3 zc.2.2.2.2.2.2.2.2.2.2.2.2.2.2.2.2 j = (if j = k then pn_flL (xL k) 0 24 else xL j))) → ∃ zc' zm, some zc = some zc' ∧ some (p3, upd (mA 0) k p2, upd (mA 1) k p3, pn_flL mL (24 * k) 24) = some zm ∧ zc'.1 = zm.1 ∧ pq_R (va_up (va_up (va_up (va_up (va_up (va_up (va_up (va_up (va_up (va_up (va_up (va_up xI 25 zc'.2.1) 26 zc'.2.2.1) 27 zc'.2.2.2.1) 28 zc'.2.2.2.2.2.1) 29 zc'.2.2.2.2.2.2.1) 30 zc'.2.2.2.2.2.2.2.1) 31 zc'.2.2.2.2.2.2.2.2.2.1) 32 zc'.2.2.2.2.2.2.2.2.2.2.1) 33 zc'.2.2.2.2.2.2.2.2.2.2.2.1) 34 zc'.2.2.2.2.2.2.2.2.2.2.2.2.2.1) 35 zc'.2.2.2.2.2.2.2.2.2.2.2.2.2.2.1) 36 zc'.2.2.2.2.2.2.2.2.2.2.2.2.2.2.2.1) xA (va_up (va_up (va_up (va_up xL 0 zc'.2.2.2.2.1) 1 zc'.2.2.2.2.2.2.2.2.1) 2 zc'.2.2.2.2.2.2.2.2.2.2.2.2.1) 3 zc'.2.2.2.2.2.2.2.2.2.2.2.2.2.2.2.2) aw mI (va_up (va_up mA 0 zm.2.1) 1 zm.2.2.1) zm.2.2.2 := by
            intro zc e1 hz
            refine ⟨_, _, rfl, rfl, e1, ?_⟩
            refine ⟨pq_kT hR ?_ rfl rfl ?_, pq_kN hR ?_ (fun f hf => rfl) ?_, pq_kI hR ?_ (fun f hf => rfl) ?_ ?_, pq_kH hR ?_ ?_ rfl rfl ?_ ?_, ?_⟩
            · simp (disch := omega) only [pu_vo]
            · simp (disch := omega) only [pu_vo]
            · intro f hf; simp (disch := omega) only [pu_vo]
            · simp (disch := omega) only [pu_vo]
            · intro f hf; simp (disch := omega) only [pu_vo]
            · simp (disch := omega) only [pu_vo]
            · simp (disch := omega) only [pu_vo]
            · simp (disch := omega) only [pu_vo]
            · simp (disch := omega) only [pu_vo]
            · simp (disch := omega) only [pu_vo]
            · simp (disch := omega) only [pu_vo]
            · intro j hj
              obtain ⟨g1, g2, g3, g4⟩ := hz j hj
              rw [g1, g2, g3, g4]
              rw [pu_vo (show 0 ≠ 1 by omega), pu_vs, pu_vs]
              have z0 : (0 : Int32).toInt = 0 := rfl
              have z24 : (24 : Int32).toInt = 24 := rfl
              rw [pu_lei, z0] at h0
              rw [pu_lei, z24] at h24
              by_cases q : j = k
              · subst q
                rw [if_pos rfl, if_pos rfl, if_pos rfl, if_pos rfl]
                dsimp only
                rw [pu_us, pu_us]
                refine Or.inr ⟨rfl, rfl, by omega, rfl, by omega, fun i hi => ?_⟩
                show pn_flL (xL j) 0 24 i = pn_flL mL (24 * j) 24 (24 * j + i)
                unfold pn_flL
                rw [if_pos (by omega), if_pos (by omega)]
              · rw [if_neg q, if_neg q, if_neg q, if_neg q]
                dsimp only
                rw [pu_un q, pu_un q]
                rcases hR.shs j hj with h | ⟨a1, a2, a3, a4, a5, a6⟩
                · exact Or.inl h
                · refine Or.inr ⟨a1, a2, a3, a4, a5, fun i hi => ?_⟩
                  show xL j i = pn_flL mL (24 * k) 24 (24 * j + i)
                  unfold pn_flL
                  rw [if_neg (by omega)]
                  exact a6 i hi
          rcases (show k = 0 ∨ k = 1 ∨ k = 2 ∨ k = 3 by omega) with rfl | rfl | rfl | rfl
          · rw [if_pos (show nI 0 = 0 from rfl)]
            refine fin _ rfl ?_
            intro j hj
            rcases (show j = 0 ∨ j = 1 ∨ j = 2 ∨ j = 3 by omega) with rfl | rfl | rfl | rfl <;> exact ⟨rfl, rfl, rfl, rfl⟩
          · rw [if_neg (show ¬ nI 1 = 0 by decide), if_pos (show nI 1 = 1 from rfl)]
            refine fin _ rfl ?_
            intro j hj
            rcases (show j = 0 ∨ j = 1 ∨ j = 2 ∨ j = 3 by omega) with rfl | rfl | rfl | rfl <;> exact ⟨rfl, rfl, rfl, rfl⟩
          · rw [if_neg (show ¬ nI 2 = 0 by decide), if_neg (show ¬ nI 2 = 1 by decide), if_pos (show nI 2 = 2 from rfl)]
            refine fin _ rfl ?_
            intro j hj
            rcases (show j = 0 ∨ j = 1 ∨ j = 2 ∨ j = 3 by omega) with rfl | rfl | rfl | rfl <;> exact ⟨rfl, rfl, rfl, rfl⟩
          · rw [if_neg (show ¬ nI 3 = 0 by decide), if_neg (show ¬ nI 3 = 1 by decide), if_neg (show ¬ nI 3 = 2 by decide), if_pos (show nI 3 = 3 from rfl)]
            refine fin _ rfl ?_
            intro j hj
            rcases (show j = 0 ∨ j = 1 ∨ j = 2 ∨ j = 3 by omega) with rfl | rfl | rfl | rfl <;> exact ⟨rfl, rfl, rfl, rfl⟩
        · rw [if_neg h0, if_neg h0]
          exact ⟨_, _, rfl, rfl, rfl, same⟩
      · rw [if_neg h24, if_neg h24]
        exact ⟨_, _, rfl, rfl, rfl, same⟩
    · rw [pu_f0 hl, pu_f0 hl]
      exact ⟨_, _, rfl, rfl, rfl, same⟩
  · rw [pu_f0 hv, pu_f0 hv]
    exact ⟨_, _, rfl, rfl, rfl, same⟩
set_option maxHeartbeats 2000000 in
theorem sim_drop {xI : Nat → Int32} {xA : Nat → Nat → Int32} {xL : Nat → Nat → Int64} {aw : Nat → Nat → Int32} {mI : Nat → Int32} {mA : Nat → Nat → Int32} {mL : Nat → Int64} (hR : pq_R xI xA xL aw mI mA mL) (p1 : Int32) : ∃ (zc : Int32 × Int32 × Int32 × Int32 × Int32) (zm : Int32 × (Nat → Int32)), f_X7_drop pq_N (xI 25) (xI 27) (xI 28) (xI 30) (xI 31) (xI 33) (xI 34) (xI 36) p1 = some zc ∧ f_X8_drop pq_N (mA 0) (mA 1) p1 = some zm ∧ zc.1 = zm.1 ∧ pq_R (va_up (va_up (va_up (va_up xI 25 zc.2.1) 28 zc.2.2.1) 31 zc.2.2.2.1) 34 zc.2.2.2.2) xA xL aw mI (va_up mA 0 zm.2) mL := by
  have same : pq_R (va_up (va_up (va_up (va_up xI 25 (xI 25)) 28 (xI 28)) 31 (xI 31)) 34 (xI 34)) xA xL aw mI (va_up mA 0 (mA 0)) mL := by
    simp only [pu_vid]; exact hR
  unfold f_X7_drop f_X8_drop
  rw [pu_sheet7, pu_cs, pu_sheet8, pu_cs]
  by_cases hv : 0 ≤ p1.toInt ∧ p1.toInt < 4
  · rw [pu_f1 hv, pu_f1 hv]
    obtain ⟨k, hk, ek⟩ := pu_k4 hv
    rw [ek, pu_gd hk (by omega), pu_gd hk (by omega), pu_gd hk (by omega), pu_l, pu_gd hk (by omega), nI_clamp (by omega)]
    have z0 : (0 : Int32).toInt = 0 := rfl
    have key : ∀ zc : Int32 × Int32 × Int32 × Int32 × Int32, zc.1 = xI (27 + 3 * k) → (∀ j, j < 4 → va_up (va_up (va_up (va_up xI 25 zc.2.1) 28 zc.2.2.1) 31 zc.2.2.2.1) 34 zc.2.2.2.2 (25 + 3 * j) = if j = k then 0 else xI (25 + 3 * j)) → ∃ zc' zm, (if xI (25 + 3 * k) = 0 then some ((-11 : Int32), xI 25, xI 28, xI 31, xI 34) else some zc) = some zc' ∧ (if 0 ≤ mA 0 k then some (mA 1 k, upd (mA 0) k (-1)) else some ((-11 : Int32), mA 0)) = some zm ∧ zc'.1 = zm.1 ∧ pq_R (va_up (va_up (va_up (va_up xI 25 zc'.2.1) 28 zc'.2.2.1) 31 zc'.2.2.2.1) 34 zc'.2.2.2.2) xA xL aw mI (va_up mA 0 zm.2) mL := by
      intro zc e1 hz
      rcases pu_lanes (hR.shs k hk) with ⟨h1, h2⟩ | ⟨h1, h2, h3, h4, h5, -⟩
      · rw [if_pos h1, if_neg (by rw [pu_lei, z0]; omega)]
        exact ⟨_, _, rfl, rfl, rfl, same⟩
      · rw [if_neg (by rw [h1]; decide), if_pos (by rw [pu_lei, z0]; exact h4)]
        refine ⟨_, _, rfl, rfl, by rw [e1, h3], ?_⟩
        refine ⟨pq_kT hR ?_ rfl rfl ?_, pq_kN hR ?_ (fun f hf => rfl) ?_, pq_kI hR ?_ (fun f hf => rfl) ?_ ?_, pq_kH hR ?_ ?_ rfl rfl ?_ ?_, ?_⟩
        · simp (disch := omega) only [pu_vo]
        · simp (disch := omega) only [pu_vo]
        · intro f hf; simp (disch := omega) only [pu_vo]
        · simp (disch := omega) only [pu_vo]
        · intro f hf; simp (disch := omega) only [pu_vo]
        · simp (disch := omega) only [pu_vo]
        · simp (disch := omega) only [pu_vo]
        · simp (disch := omega) only [pu_vo]
        · simp (disch := omega) only [pu_vo]
        · simp (disch := omega) only [pu_vo]
        · simp (disch := omega) only [pu_vo]
        · intro j hj
          rw [hz j hj]
          have g2 : va_up (va_up (va_up (va_up xI 25 zc.2.1) 28 zc.2.2.1) 31 zc.2.2.2.1) 34 zc.2.2.2.2 (26 + 3 * j) = xI (26 + 3 * j) := by simp (disch := omega) only [pu_vo]
          have g3 : va_up (va_up (va_up (va_up xI 25 zc.2.1) 28 zc.2.2.1) 31 zc.2.2.2.1) 34 zc.2.2.2.2 (27 + 3 * j) = xI (27 + 3 * j) := by simp (disch := omega) only [pu_vo]
          rw [g2, g3, pu_vs, pu_vo (show 1 ≠ 0 by omega)]
          by_cases q : j = k
          · subst q
            dsimp only
            rw [if_pos rfl, pu_us]
            exact Or.inl ⟨rfl, rfl⟩
          · dsimp only
            rw [if_neg q, pu_un q]
            exact hR.shs j hj
    rcases (show k = 0 ∨ k = 1 ∨ k = 2 ∨ k = 3 by omega) with rfl | rfl | rfl | rfl
    · rw [if_pos (show nI 0 = 0 from rfl)]
      refine key _ rfl ?_
      intro j hj
      rcases (show j = 0 ∨ j = 1 ∨ j = 2 ∨ j = 3 by omega) with rfl | rfl | rfl | rfl <;> rfl
    · rw [if_neg (show ¬ nI 1 = 0 by decide), if_pos (show nI 1 = 1 from rfl)]
      refine key _ rfl ?_
      intro j hj
      rcases (show j = 0 ∨ j = 1 ∨ j = 2 ∨ j = 3 by omega) with rfl | rfl | rfl | rfl <;> rfl
    · rw [if_neg (show ¬ nI 2 = 0 by decide), if_neg (show ¬ nI 2 = 1 by decide), if_pos (show nI 2 = 2 from rfl)]
      refine key _ rfl ?_
      intro j hj
      rcases (show j = 0 ∨ j = 1 ∨ j = 2 ∨ j = 3 by omega) with rfl | rfl | rfl | rfl <;> rfl
    · rw [if_neg (show ¬ nI 3 = 0 by decide), if_neg (show ¬ nI 3 = 1 by decide), if_neg (show ¬ nI 3 = 2 by decide), if_pos (show nI 3 = 3 from rfl)]
      refine key _ rfl ?_
      intro j hj
      rcases (show j = 0 ∨ j = 1 ∨ j = 2 ∨ j = 3 by omega) with rfl | rfl | rfl | rfl <;> rfl
  · rw [pu_f0 hv, pu_f0 hv]
    exact ⟨_, _, rfl, rfl, rfl, same⟩
/-- one sheet's items changed, on both sides -/
theorem pq_kX {xI : Nat → Int32} {xA : Nat → Nat → Int32} {xL xL' : Nat → Nat → Int64} {aw : Nat → Nat → Int32} {mI : Nat → Int32} {mA : Nat → Nat → Int32} {mL mL' : Nat → Int64} {k : Nat} {g : Nat → Int64} (hR : pq_R xI xA xL aw mI mA mL) (hL : ∀ j, j < 4 → xL' j = va_up xL k g j) (hin : ∀ i, i < 24 → g i = mL' (24 * k + i)) (hout : ∀ j, j < 4 → j ≠ k → ∀ i, i < 24 → mL' (24 * j + i) = mL (24 * j + i)) (hh : xI (25 + 3 * k) = 1) : ∀ j, j < 4 → pq_sh (xI (25 + 3 * j)) (xI (26 + 3 * j)) (xI (27 + 3 * j)) (xL' j) (mA 0 j) (mA 1 j) (fun i => mL' (24 * j + i)) := by
  intro j hj
  rw [hL j hj]
  by_cases q : j = k
  · subst q
    rw [pu_vs]
    rcases hR.shs j hj with ⟨h1, -⟩ | ⟨a1, a2, a3, a4, a5, -⟩
    · rw [h1] at hh
      exact absurd hh (by decide)
    · exact Or.inr ⟨a1, a2, a3, a4, a5, hin⟩
  · rw [pu_vo q]
    rcases hR.shs j hj with h | ⟨a1, a2, a3, a4, a5, a6⟩
    · exact Or.inl h
    · exact Or.inr ⟨a1, a2, a3, a4, a5, fun i hi => by rw [a6 i hi]; exact (hout j hj q i hi).symm⟩
def pn_cut (l : Int32) (v : Int64) : Int64 := if l = 0 then v.toInt32.toInt8.toInt32.toInt64 else if l = 1 then v.toInt32.toInt16.toInt32.toInt64 else if l = 2 then v.toInt32.toInt64 else v
theorem pu_cut {N : Nat} {l : Int32} {v : Int64} : f_X5_cut N l v = some (pn_cut l v) := by
  unfold f_X5_cut pn_cut
  split
  · rfl
  split
  · rfl
  split <;> rfl
theorem pu_cutTo {N : Nat} {l : Int32} {v : Int64} : f_X8_cutTo N l v = some (pn_cut l v) := by
  unfold f_X8_cutTo pn_cut
  split
  · rfl
  split
  · rfl
  split <;> rfl
theorem pu_put {N i : Nat} {l : Int32} {f : Nat → Int64} {v : Int64} (hi : i < 24) : f_X5_put N l f (nI i) v = some (pn_cut l v, vp_updL f i (pn_cut l v)) := by
  unfold f_X5_put
  rw [pu_cut, pu_cs, pu_gd hi (by omega), pu_l, pu_gd hi (by omega), nI_clamp (by omega), pu_ul]
set_option maxHeartbeats 2000000 in
theorem sim_item {xI : Nat → Int32} {xA : Nat → Nat → Int32} {xL : Nat → Nat → Int64} {aw : Nat → Nat → Int32} {mI : Nat → Int32} {mA : Nat → Nat → Int32} {mL : Nat → Int64} (hR : pq_R xI xA xL aw mI mA mL) (p1 : Int32) (p2 : Int32) (p3 : Int32) (p4 : Int64) : ∃ (zc : Int64 × (Nat → Int64) × (Nat → Int64) × (Nat → Int64) × (Nat → Int64)) (zm : Int64 × (Nat → Int64)), f_X7_item pq_N (xI 25) (xI 26) (xI 27) (xL 0) (xI 28) (xI 29) (xI 30) (xL 1) (xI 31) (xI 32) (xI 33) (xL 2) (xI 34) (xI 35) (xI 36) (xL 3) p1 p2 p3 p4 = some zc ∧ f_X8_item pq_N (mA 0) (mA 1) mL p1 p2 p3 p4 = some zm ∧ zc.1 = zm.1 ∧ pq_R xI xA (va_up (va_up (va_up (va_up xL 0 zc.2.1) 1 zc.2.2.1) 2 zc.2.2.2.1) 3 zc.2.2.2.2) aw mI mA zm.2 := by
  have same : pq_R xI xA (va_up (va_up (va_up (va_up xL 0 (xL 0)) 1 (xL 1)) 2 (xL 2)) 3 (xL 3)) aw mI mA mL := by
    simp only [pu_vid]; exact hR
  unfold f_X7_item f_X8_item
  rw [pu_sheet7, pu_cs, pu_sheet8, pu_cs, pu_lane7, pu_cs, pu_in3, pu_cs]
  by_cases hv : 0 ≤ p1.toInt ∧ p1.toInt < 4
  · rw [pu_f1 hv, pu_f1 hv]
    by_cases hl : 0 ≤ p2.toInt ∧ p2.toInt < 4
    · rw [pu_f1 hl, pu_f1 hl]
      obtain ⟨k, hk, ek⟩ := pu_k4 hv
      obtain ⟨r, e1, e2, hr⟩ := pu_refuse (N := pq_N) (p2 := p2) (p3 := p3) (p4 := 1) hk (hR.shs k hk)
      rw [ek, e2, pu_cs, pu_gd hk (by omega)]
      have key : ∀ (G : Int64 × (Nat → Int64) → Int64 × (Nat → Int64) × (Nat → Int64) × (Nat → Int64) × (Nat → Int64)), (∀ q, (G q).1 = q.1 ∧ ∀ j, j < 4 → va_up (va_up (va_up (va_up xL 0 (G q).2.1) 1 (G q).2.2.1) 2 (G q).2.2.2.1) 3 (G q).2.2.2.2 j = va_up xL k q.2 j) → ∃ zc zm, (pq_c (f_X5_refusal pq_N (xI (25 + 3 * k)) (xI (26 + 3 * k)) (xI (27 + 3 * k)) p2 p3 1) fun r_4 => if r_4 = 0 then pq_c (f_X5_put pq_N (xI (26 + 3 * k)) (xL k) p3 p4) (fun r_5 => some (G r_5)) else some (r_4.toInt64, xL 0, xL 1, xL 2, xL 3)) = some zc ∧ (if r = 0 then pq_j (fun (y0_J88 : Int64) => (pq_gd (((24 : Int32) * nI k) + p3) 96 (pq_l (vp_updL mL ((((24 : Int32) * nI k) + p3) : Int32).toNatClampNeg y0_J88) (fun item_0_4 => pq_gd (((24 : Int32) * nI k) + p3) 96 (some ((item_0_4 ((((24 : Int32) * nI k) + p3) : Int32).toNatClampNeg), item_0_4)))) : Option (Int64 × (Nat → Int64)))) (fun kJ88 => (if p2 = 0 then kJ88 ((((((p4 : Int64).toInt32) : Int32).toInt8.toInt32) : Int32).toInt64) else (if p2 = 1 then kJ88 ((((((p4 : Int64).toInt32) : Int32).toInt16.toInt32) : Int32).toInt64) else (if p2 = 2 then kJ88 ((((p4 : Int64).toInt32) : Int32).toInt64) else kJ88 p4)))) else some (r.toInt64, mL)) = some zm ∧ zc.1 = zm.1 ∧ pq_R xI xA (va_up (va_up (va_up (va_up xL 0 zc.2.1) 1 zc.2.2.1) 2 zc.2.2.2.1) 3 zc.2.2.2.2) aw mI mA zm.2 := by
        intro G hG
        rw [e1, pu_cs]
        by_cases h0 : r = 0
        · obtain ⟨a1, a2, a3, i, n, Z, ei, en, hin, hZ, eZ, -⟩ := hr h0
          have hn1 : n = 1 := ((nI_eq (a := 1) (b := n) (by omega) (by omega)).mp en).symm
          rw [if_pos h0, if_pos h0, ei, pu_put (by omega), pu_cs, a2]
          have em : (pq_j (fun (y0_J88 : Int64) => (pq_gd (((24 : Int32) * nI k) + nI i) 96 (pq_l (vp_updL mL ((((24 : Int32) * nI k) + nI i) : Int32).toNatClampNeg y0_J88) (fun item_0_4 => pq_gd (((24 : Int32) * nI k) + nI i) 96 (some ((item_0_4 ((((24 : Int32) * nI k) + nI i) : Int32).toNatClampNeg), item_0_4)))) : Option (Int64 × (Nat → Int64)))) (fun kJ88 => (if p2 = 0 then kJ88 ((((((p4 : Int64).toInt32) : Int32).toInt8.toInt32) : Int32).toInt64) else (if p2 = 1 then kJ88 ((((((p4 : Int64).toInt32) : Int32).toInt16.toInt32) : Int32).toInt64) else (if p2 = 2 then kJ88 ((((p4 : Int64).toInt32) : Int32).toInt64) else kJ88 p4))))) = some (pn_cut p2 p4, vp_updL mL (24 * k + i) (pn_cut p2 p4)) := by
            have hy : ∀ y, y = pn_cut p2 p4 → (pq_gd (((24 : Int32) * nI k) + nI i) 96 (pq_l (vp_updL mL ((((24 : Int32) * nI k) + nI i) : Int32).toNatClampNeg y) (fun item_0_4 => pq_gd (((24 : Int32) * nI k) + nI i) 96 (some ((item_0_4 ((((24 : Int32) * nI k) + nI i) : Int32).toNatClampNeg), item_0_4)))) : Option (Int64 × (Nat → Int64))) = some (pn_cut p2 p4, vp_updL mL (24 * k + i) (pn_cut p2 p4)) := by
              intro y hy
              simp (disch := omega) only [pu_lit 24, pk_mul, nI_add, pu_gd, nI_clamp, pu_l]
              rw [pu_ul, hy]
            rw [pu_j]
            by_cases g0 : p2 = 0
            · rw [if_pos g0]
              exact hy _ (by unfold pn_cut; rw [if_pos g0])
            · rw [if_neg g0]
              by_cases g1 : p2 = 1
              · rw [if_pos g1]
                exact hy _ (by unfold pn_cut; rw [if_neg g0, if_pos g1])
              · rw [if_neg g1]
                by_cases g2 : p2 = 2
                · rw [if_pos g2]
                  exact hy _ (by unfold pn_cut; rw [if_neg g0, if_neg g1, if_pos g2])
                · rw [if_neg g2]
                  exact hy _ (by unfold pn_cut; rw [if_neg g0, if_neg g1, if_neg g2])
          rw [em]
          obtain ⟨g1, g2⟩ := hG (pn_cut p2 p4, vp_updL (xL k) i (pn_cut p2 p4))
          refine ⟨_, _, rfl, rfl, g1, hR.1, hR.2.1, hR.2.2.1, hR.2.2.2.1, ?_⟩
          refine pq_kX hR g2 ?_ ?_ a1
          · intro q hq
            show vp_updL (xL k) i (pn_cut p2 p4) q = vp_updL mL (24 * k + i) (pn_cut p2 p4) (24 * k + q)
            rcases hR.shs k hk with ⟨b1, -⟩ | ⟨-, -, -, -, -, b6⟩
            · rw [b1] at a1
              exact absurd a1 (by decide)
            · by_cases e : q = i
              · rw [e, pu_ul, pu_ul]
              · rw [pu_ulo e, pu_ulo (by omega)]
                exact b6 q hq
          · intro j hj hne q hq
            exact pu_ulo (by omega)
        · rw [if_neg h0, if_neg h0]
          exact ⟨_, _, rfl, rfl, rfl, same⟩
      rcases (show k = 0 ∨ k = 1 ∨ k = 2 ∨ k = 3 by omega) with rfl | rfl | rfl | rfl
      · rw [if_pos (show nI 0 = 0 from rfl)]
        refine key (fun q => _) ?_
        intro q
        refine ⟨rfl, fun j hj => ?_⟩
        rcases (show j = 0 ∨ j = 1 ∨ j = 2 ∨ j = 3 by omega) with rfl | rfl | rfl | rfl <;> rfl
      · rw [if_neg (show ¬ nI 1 = 0 by decide), if_pos (show nI 1 = 1 from rfl)]
        refine key (fun q => _) ?_
        intro q
        refine ⟨rfl, fun j hj => ?_⟩
        rcases (show j = 0 ∨ j = 1 ∨ j = 2 ∨ j = 3 by omega) with rfl | rfl | rfl | rfl <;> rfl
      · rw [if_neg (show ¬ nI 2 = 0 by decide), if_neg (show ¬ nI 2 = 1 by decide), if_pos (show nI 2 = 2 from rfl)]
        refine key (fun q => _) ?_
        intro q
        refine ⟨rfl, fun j hj => ?_⟩
        rcases (show j = 0 ∨ j = 1 ∨ j = 2 ∨ j = 3 by omega) with rfl | rfl | rfl | rfl <;> rfl
      · rw [if_neg (show ¬ nI 3 = 0 by decide), if_neg (show ¬ nI 3 = 1 by decide), if_neg (show ¬ nI 3 = 2 by decide), if_pos (show nI 3 = 3 from rfl)]
        refine key (fun q => _) ?_
        intro q
        refine ⟨rfl, fun j hj => ?_⟩
        rcases (show j = 0 ∨ j = 1 ∨ j = 2 ∨ j = 3 by omega) with rfl | rfl | rfl | rfl <;> rfl
    · rw [pu_f0 hl, pu_f0 hl]
      exact ⟨_, _, rfl, rfl, rfl, same⟩
  · rw [pu_f0 hv, pu_f0 hv]
    exact ⟨_, _, rfl, rfl, rfl, same⟩
