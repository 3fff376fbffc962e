/-! ===== log ===== -/
/-- q items from o on written: what w tells from X on, cut -/
def pn_lg (f : Nat → Int64) (l : Int32) (w : Nat → Int32) (X o q : Nat) : Nat → Int64 := fun k => if o ≤ k ∧ k < o + q then pn_cut l (w (X + (k - o))).toInt64 else f k
theorem pn_lg_0 {f : Nat → Int64} {l : Int32} {w : Nat → Int32} {X o : Nat} : pn_lg f l w X o 0 = f := by
  funext k
  unfold pn_lg
  rw [if_neg (by omega)]
theorem pn_lg_s {f : Nat → Int64} {l : Int32} {w : Nat → Int32} {X o q : Nat} : vp_updL (pn_lg f l w X o q) (o + q) (pn_cut l (w (X + q)).toInt64) = pn_lg f l w X o (q + 1) := by
  funext k
  by_cases g : k = o + q
  · subst g
    rw [pu_ul]
    unfold pn_lg
    rw [if_pos (by omega), show X + (o + q - o) = X + q by omega]
  · rw [pu_ulo g]
    unfold pn_lg
    by_cases g2 : o ≤ k ∧ k < o + q
    · rw [if_pos g2, if_pos (by omega)]
    · rw [if_neg g2, if_neg (by omega)]
theorem pu_log8_loop {N k i K : Nat} {p2 : Int32} {f : Nat → Int64} {P J C X : Nat} {T : Nat → Int32} (hN : 10 < N) (hk : k < 4) (hi : i + K ≤ 24) (hK : X + K ≤ C) : ∀ (d q n : Nat) (s : Nat → Int32) (S : Nat), q + d = K → d < n → pn_V s P J C (X + q) S → pn_it s d = T → pq_w (fun _ _ _ => none) (f_X8_log_L67 N (nI k) p2 (nI i) (nI K)) n (nI q) (pn_lg f p2 (fun c => T (71 + c)) X (24 * k + i) q) s = some (nI K, pn_lg f p2 (fun c => T (71 + c)) X (24 * k + i) K, T)
  | 0, q, n, s, S, h1, h2, hV, hT => by
    obtain ⟨n, rfl⟩ : ∃ t, n = t + 1 := ⟨n - 1, by omega⟩
    rw [pu_w]
    unfold f_X8_log_L67
    rw [if_pos (by rw [nI_leI (by omega) (by omega)]; omega), show q = K by omega, ← hT]
    rfl
  | d + 1, q, n, s, S, h1, h2, hV, hT => by
    obtain ⟨n, rfl⟩ : ∃ t, n = t + 1 := ⟨n - 1, by omega⟩
    obtain ⟨w0, lo, S', -, -, -, -, -, -, -, eh, hV', hw, -⟩ := pu_h8 (N := N) hN hV (by omega) (-4)
    have ih := pu_log8_loop (p2 := p2) (f := f) hN hk hi hK d (q + 1) n (pn_h s (-4)) S' (by omega) (by omega) hV' hT
    have hTw : T (71 + (X + q)) = nI w0 := by
      rw [← hT, ← hw]
      exact pn_it_won d hV' (by omega) (X + q) (by omega)
    rw [pu_w]
    generalize pq_w (fun _ _ _ => none) (f_X8_log_L67 N (nI k) p2 (nI i) (nI K)) n = kk at ih ⊢
    unfold f_X8_log_L67
    rw [if_neg (by rw [nI_leI (by omega) (by omega)]; omega), eh, pu_cs, pu_cutTo, pu_cs]
    dsimp only
    simp (disch := omega) only [pu_lit 24, pk_mul, nI_add, pu_gd, nI_clamp, pu_l, nI_1]
    have e := pn_lg_s (f := f) (l := p2) (w := fun c => T (71 + c)) (X := X) (o := 24 * k + i) (q := q)
    rw [hTw] at e
    rw [e]
    exact ih
theorem pu_log7_0 {N i K X C : Nat} {l : Int32} {a0 a1 a2 a3 a4 : Int32} {b0 b1 b2 b3 b4 b5 b6 b7 b8 : Nat → Int32} {f g0 g1 g2 g3 : Nat → Int64} (hi : i + K ≤ 24) (hK : X + K ≤ C) (hC : C ≤ 12) : ∀ (d q n : Nat), q + d = K → d < n → pq_w (fun _ _ _ _ _ => none) (f_X7_log_L76 N l (nI X) (nI i) (nI K) (a0, a1, a2, a3, a4, b0, b1, b2, b3, b4, b5, b6, b7, b8)) n (nI q) (pn_lg f l b8 X i q) g1 g2 g3 = some (nI K, pn_lg f l b8 X i K, g1, g2, g3, a0, a1, a2, a3, a4, b0, b1, b2, b3, b4, b5, b6, b7, b8)
  | 0, q, n, h1, h2 => by
    obtain ⟨n, rfl⟩ : ∃ t, n = t + 1 := ⟨n - 1, by omega⟩
    rw [pu_w]
    unfold f_X7_log_L76
    rw [if_pos (by rw [nI_leI (by omega) (by omega)]; omega), show q = K by omega]
  | d + 1, q, n, h1, h2 => by
    obtain ⟨n, rfl⟩ : ∃ t, n = t + 1 := ⟨n - 1, by omega⟩
    have ih := pu_log7_0 (N := N) (l := l) (a0 := a0) (a1 := a1) (a2 := a2) (a3 := a3) (a4 := a4) (b0 := b0) (b1 := b1) (b2 := b2) (b3 := b3) (b4 := b4) (b5 := b5) (b6 := b6) (b7 := b7) (b8 := b8) (f := f) (g0 := g0) (g1 := g1) (g2 := g2) (g3 := g3) hi hK hC d (q + 1) n (by omega) (by omega)
    rw [pu_w]
    generalize pq_w (fun _ _ _ _ _ => none) (f_X7_log_L76 N l (nI X) (nI i) (nI K) (a0, a1, a2, a3, a4, b0, b1, b2, b3, b4, b5, b6, b7, b8)) n = kk at ih ⊢
    unfold f_X7_log_L76
    rw [if_neg (by rw [nI_leI (by omega) (by omega)]; omega)]
    dsimp only
    rw [nI_add, nI_add, pu_gd (show X + q < 12 by omega) (by omega), nI_clamp (by omega), pu_put (by omega), pu_cs, pu_l, nI_1]
    dsimp only
    rw [pn_lg_s]
    exact ih
theorem pu_log7_1 {N i K X C : Nat} {l : Int32} {a0 a1 a2 a3 a4 : Int32} {b0 b1 b2 b3 b4 b5 b6 b7 b8 : Nat → Int32} {f g0 g1 g2 g3 : Nat → Int64} (hi : i + K ≤ 24) (hK : X + K ≤ C) (hC : C ≤ 12) : ∀ (d q n : Nat), q + d = K → d < n → pq_w (fun _ _ _ _ _ => none) (f_X7_log_L76v1 N l (nI X) (nI i) (nI K) (a0, a1, a2, a3, a4, b0, b1, b2, b3, b4, b5, b6, b7, b8)) n (nI q) g0 (pn_lg f l b8 X i q) g2 g3 = some (nI K, g0, pn_lg f l b8 X i K, g2, g3, a0, a1, a2, a3, a4, b0, b1, b2, b3, b4, b5, b6, b7, b8)
  | 0, q, n, h1, h2 => by
    obtain ⟨n, rfl⟩ : ∃ t, n = t + 1 := ⟨n - 1, by omega⟩
    rw [pu_w]
    unfold f_X7_log_L76v1
    rw [if_pos (by rw [nI_leI (by omega) (by omega)]; omega), show q = K by omega]
  | d + 1, q, n, h1, h2 => by
    obtain ⟨n, rfl⟩ : ∃ t, n = t + 1 := ⟨n - 1, by omega⟩
    have ih := pu_log7_1 (N := N) (l := l) (a0 := a0) (a1 := a1) (a2 := a2) (a3 := a3) (a4 := a4) (b0 := b0) (b1 := b1) (b2 := b2) (b3 := b3) (b4 := b4) (b5 := b5) (b6 := b6) (b7 := b7) (b8 := b8) (f := f) (g0 := g0) (g1 := g1) (g2 := g2) (g3 := g3) hi hK hC d (q + 1) n (by omega) (by omega)
    rw [pu_w]
    generalize pq_w (fun _ _ _ _ _ => none) (f_X7_log_L76v1 N l (nI X) (nI i) (nI K) (a0, a1, a2, a3, a4, b0, b1, b2, b3, b4, b5, b6, b7, b8)) n = kk at ih ⊢
    unfold f_X7_log_L76v1
    rw [if_neg (by rw [nI_leI (by omega) (by omega)]; omega)]
    dsimp only
    rw [nI_add, nI_add, pu_gd (show X + q < 12 by omega) (by omega), nI_clamp (by omega), pu_put (by omega), pu_cs, pu_l, nI_1]
    dsimp only
    rw [pn_lg_s]
    exact ih
theorem pu_log7_2 {N i K X C : Nat} {l : Int32} {a0 a1 a2 a3 a4 : Int32} {b0 b1 b2 b3 b4 b5 b6 b7 b8 : Nat → Int32} {f g0 g1 g2 g3 : Nat → Int64} (hi : i + K ≤ 24) (hK : X + K ≤ C) (hC : C ≤ 12) : ∀ (d q n : Nat), q + d = K → d < n → pq_w (fun _ _ _ _ _ => none) (f_X7_log_L76v2 N l (nI X) (nI i) (nI K) (a0, a1, a2, a3, a4, b0, b1, b2, b3, b4, b5, b6, b7, b8)) n (nI q) g0 g1 (pn_lg f l b8 X i q) g3 = some (nI K, g0, g1, pn_lg f l b8 X i K, g3, a0, a1, a2, a3, a4, b0, b1, b2, b3, b4, b5, b6, b7, b8)
  | 0, q, n, h1, h2 => by
    obtain ⟨n, rfl⟩ : ∃ t, n = t + 1 := ⟨n - 1, by omega⟩
    rw [pu_w]
    unfold f_X7_log_L76v2
    rw [if_pos (by rw [nI_leI (by omega) (by omega)]; omega), show q = K by omega]
  | d + 1, q, n, h1, h2 => by
    obtain ⟨n, rfl⟩ : ∃ t, n = t + 1 := ⟨n - 1, by omega⟩
    have ih := pu_log7_2 (N := N) (l := l) (a0 := a0) (a1 := a1) (a2 := a2) (a3 := a3) (a4 := a4) (b0 := b0) (b1 := b1) (b2 := b2) (b3 := b3) (b4 := b4) (b5 := b5) (b6 := b6) (b7 := b7) (b8 := b8) (f := f) (g0 := g0) (g1 := g1) (g2 := g2) (g3 := g3) hi hK hC d (q + 1) n (by omega) (by omega)
    rw [pu_w]
    generalize pq_w (fun _ _ _ _ _ => none) (f_X7_log_L76v2 N l (nI X) (nI i) (nI K) (a0, a1, a2, a3, a4, b0, b1, b2, b3, b4, b5, b6, b7, b8)) n = kk at ih ⊢
    unfold f_X7_log_L76v2
    rw [if_neg (by rw [nI_leI (by omega) (by omega)]; omega)]
    dsimp only
    rw [nI_add, nI_add, pu_gd (show X + q < 12 by omega) (by omega), nI_clamp (by omega), pu_put (by omega), pu_cs, pu_l, nI_1]
    dsimp only
    rw [pn_lg_s]
    exact ih
theorem pu_log7_3 {N i K X C : Nat} {l : Int32} {a0 a1 a2 a3 a4 : Int32} {b0 b1 b2 b3 b4 b5 b6 b7 b8 : Nat → Int32} {f g0 g1 g2 g3 : Nat → Int64} (hi : i + K ≤ 24) (hK : X + K ≤ C) (hC : C ≤ 12) : ∀ (d q n : Nat), q + d = K → d < n → pq_w (fun _ _ _ _ _ => none) (f_X7_log_L76v3 N l (nI X) (nI i) (nI K) (a0, a1, a2, a3, a4, b0, b1, b2, b3, b4, b5, b6, b7, b8)) n (nI q) g0 g1 g2 (pn_lg f l b8 X i q) = some (nI K, g0, g1, g2, pn_lg f l b8 X i K, a0, a1, a2, a3, a4, b0, b1, b2, b3, b4, b5, b6, b7, b8)
  | 0, q, n, h1, h2 => by
    obtain ⟨n, rfl⟩ : ∃ t, n = t + 1 := ⟨n - 1, by omega⟩
    rw [pu_w]
    unfold f_X7_log_L76v3
    rw [if_pos (by rw [nI_leI (by omega) (by omega)]; omega), show q = K by omega]
  | d + 1, q, n, h1, h2 => by
    obtain ⟨n, rfl⟩ : ∃ t, n = t + 1 := ⟨n - 1, by omega⟩
    have ih := pu_log7_3 (N := N) (l := l) (a0 := a0) (a1 := a1) (a2 := a2) (a3 := a3) (a4 := a4) (b0 := b0) (b1 := b1) (b2 := b2) (b3 := b3) (b4 := b4) (b5 := b5) (b6 := b6) (b7 := b7) (b8 := b8) (f := f) (g0 := g0) (g1 := g1) (g2 := g2) (g3 := g3) hi hK hC d (q + 1) n (by omega) (by omega)
    rw [pu_w]
    generalize pq_w (fun _ _ _ _ _ => none) (f_X7_log_L76v3 N l (nI X) (nI i) (nI K) (a0, a1, a2, a3, a4, b0, b1, b2, b3, b4, b5, b6, b7, b8)) n = kk at ih ⊢
    unfold f_X7_log_L76v3
    rw [if_neg (by rw [nI_leI (by omega) (by omega)]; omega)]
    dsimp only
    rw [nI_add, nI_add, pu_gd (show X + q < 12 by omega) (by omega), nI_clamp (by omega), pu_put (by omega), pu_cs, pu_l, nI_1]
    dsimp only
    rw [pn_lg_s]
    exact ih
set_option maxHeartbeats 4000000 in
theorem sim_log {xI : Nat → Int32} {xA : Nat → Nat → Int32} {xL : Nat → Nat → Int64} {aw : Nat → Nat → Int32} {mI : Nat → Int32} {mA : Nat → Nat → Int32} {mL : Nat → Int64} (hR : pq_R xI xA xL aw mI mA mL) (p1 : Int32) (p2 : Int32) (p3 : Int32) (p4 : Int32) : ∃ (zc : Int32 × (Nat → Int64) × (Nat → Int64) × (Nat → Int64) × (Nat → Int64) × Int32 × Int32 × Int32 × Int32 × Int32 × (Nat → Int32) × (Nat → Int32) × (Nat → Int32) × (Nat → Int32) × (Nat → Int32) × (Nat → Int32) × (Nat → Int32) × (Nat → Int32) × (Nat → Int32)) (zm : Int32 × (Nat → Int64) × (Nat → Int32)), f_X7_log pq_N (xI 25) (xI 26) (xI 27) (xL 0) (xI 28) (xI 29) (xI 30) (xL 1) (xI 31) (xI 32) (xI 33) (xL 2) (xI 34) (xI 35) (xI 36) (xL 3) (xI 10) (xI 11) (xI 12) (xI 13) (xI 14) (xA 18) (xA 19) (xA 20) (xA 21) (xA 22) (xA 23) (xA 24) (xA 25) (xA 26) (xI 15) (xI 16) (xI 17) (xI 18) (xI 19) (xA 27) (xA 28) (xA 29) (xA 30) (xA 31) (xA 32) (xA 33) (xA 34) (xA 35) p1 p2 p3 p4 = some zc ∧ f_X8_log pq_N (mA 0) (mA 1) mL (mA 6) (mA 8) p1 p2 p3 p4 = some zm ∧ zc.1 = zm.1 ∧ pq_R (va_up (va_up (va_up (va_up (va_up xI 15 zc.2.2.2.2.2.1) 16 zc.2.2.2.2.2.2.1) 17 zc.2.2.2.2.2.2.2.1) 18 zc.2.2.2.2.2.2.2.2.1) 19 zc.2.2.2.2.2.2.2.2.2.1) (va_up (va_up (va_up (va_up (va_up (va_up (va_up (va_up (va_up xA 27 zc.2.2.2.2.2.2.2.2.2.2.1) 28 zc.2.2.2.2.2.2.2.2.2.2.2.1) 29 zc.2.2.2.2.2.2.2.2.2.2.2.2.1) 30 zc.2.2.2.2.2.2.2.2.2.2.2.2.2.1) 31 zc.2.2.2.2.2.2.2.2.2.2.2.2.2.2.1) 32 zc.2.2.2.2.2.2.2.2.2.2.2.2.2.2.2.1) 33 zc.2.2.2.2.2.2.2.2.2.2.2.2.2.2.2.2.1) 34 zc.2.2.2.2.2.2.2.2.2.2.2.2.2.2.2.2.2.1) 35 zc.2.2.2.2.2.2.2.2.2.2.2.2.2.2.2.2.2.2) (va_up (va_up (va_up (va_up xL 0 zc.2.1) 1 zc.2.2.1) 2 zc.2.2.2.1) 3 zc.2.2.2.2.1) aw mI (va_up mA 8 zm.2.2) zm.2.1 := by
  obtain ⟨⟨r0, r1, r2, r3, r4⟩, k2, k3, k4⟩ := pu_now hR
  have same : pq_R (va_up (va_up (va_up (va_up (va_up xI 15 (xI 15)) 16 (xI 16)) 17 (xI 17)) 18 (xI 18)) 19 (xI 19)) (va_up (va_up (va_up (va_up (va_up (va_up (va_up (va_up (va_up xA 27 (xA 27)) 28 (xA 28)) 29 (xA 29)) 30 (xA 30)) 31 (xA 31)) 32 (xA 32)) 33 (xA 33)) 34 (xA 34)) 35 (xA 35)) (va_up (va_up (va_up (va_up xL 0 (xL 0)) 1 (xL 1)) 2 (xL 2)) 3 (xL 3)) aw mI (va_up mA 8 (mA 8)) mL := by
    simp only [pu_vid]; exact hR
  unfold f_X7_log f_X8_log
  have z0 : (0 : Int32).toInt = 0 := rfl
  have z1 : (1 : Int32).toInt = 1 := rfl
  have z12 : (12 : Int32).toInt = 12 := rfl
  rw [pu_sheet7, pu_cs, pu_sheet8, pu_cs, pu_lane7, pu_cs, pu_in3, pu_cs, pu_in, pu_cs, z1, z12]
  by_cases hv : 0 ≤ p1.toInt ∧ p1.toInt < 4
  · rw [pu_f1 hv, pu_f1 hv]
    by_cases hl : 0 ≤ p2.toInt ∧ p2.toInt < 4
    · rw [pu_f1 hl, pu_f1 hl]
      by_cases hn : 1 ≤ p4.toInt ∧ p4.toInt ≤ 12
      · rw [pu_f1 hn, if_neg (show ¬ p4 < 1 by rw [pu_lt, z1]; omega), if_pos (show p4 ≤ 12 by rw [pu_lei, z12]; omega)]
        obtain ⟨k, hk, ek⟩ := pu_k4 hv
        obtain ⟨r, e1, e2, hr⟩ := pu_refuse (N := pq_N) (p2 := p2) (p3 := p3) (p4 := p4) hk (hR.shs k hk)
        rw [ek, e2, pu_cs, pu_gd hk (by omega)]
        have key : ∀ (L : (Int32 × Int32 × Int32 × Int32 × Int32 × (Nat → Int32) × (Nat → Int32) × (Nat → Int32) × (Nat → Int32) × (Nat → Int32) × (Nat → Int32) × (Nat → Int32) × (Nat → Int32) × (Nat → Int32)) → Option (Int32 × (Nat → Int64) × (Nat → Int64) × (Nat → Int64) × (Nat → Int64) × Int32 × Int32 × Int32 × Int32 × Int32 × (Nat → Int32) × (Nat → Int32) × (Nat → Int32) × (Nat → Int32) × (Nat → Int32) × (Nat → Int32) × (Nat → Int32) × (Nat → Int32) × (Nat → Int32))), (∀ (i K X C : Nat) (z : Int32 × Int32 × Int32 × Int32 × Int32 × (Nat → Int32) × (Nat → Int32) × (Nat → Int32) × (Nat → Int32) × (Nat → Int32) × (Nat → Int32) × (Nat → Int32) × (Nat → Int32) × (Nat → Int32)), i + K ≤ 24 → X + K ≤ C → C ≤ 12 → p3 = nI i → p4 = nI K → xI 13 = nI X → ∃ zc, L z = some zc ∧ zc.1 = p4 ∧ zc.2.2.2.2.2 = z ∧ ∀ j, j < 4 → va_up (va_up (va_up (va_up xL 0 zc.2.1) 1 zc.2.2.1) 2 zc.2.2.2.1) 3 zc.2.2.2.2.1 j = va_up xL k (pn_lg (xL k) (xI (26 + 3 * k)) z.2.2.2.2.2.2.2.2.2.2.2.2.2 X i K) j) → ∃ zc zm, (pq_c (f_X5_refusal pq_N (xI (25 + 3 * k)) (xI (26 + 3 * k)) (xI (27 + 3 * k)) p2 p3 p4) fun r_4 => if r_4 = 0 then pq_c (f_X1_casesLeft pq_N (xI 12) (xI 13)) (fun r_5 => if p4 ≤ r_5 then pq_c (f_X7_hearInSpare pq_N (xI 10) (xI 11) (xI 12) (xI 13) (xI 14) (xA 18) (xA 19) (xA 20) (xA 21) (xA 22) (xA 23) (xA 24) (xA 25) (xA 26) (xI 15) (xI 16) (xI 17) (xI 18) (xI 19) (xA 27) (xA 28) (xA 29) (xA 30) (xA 31) (xA 32) (xA 33) (xA 34) (xA 35) p4) (fun r_6 => L r_6) else some ((-2 : Int32), xL 0, xL 1, xL 2, xL 3, xI 15, xI 16, xI 17, xI 18, xI 19, xA 27, xA 28, xA 29, xA 30, xA 31, xA 32, xA 33, xA 34, xA 35)) else some (r_4, xL 0, xL 1, xL 2, xL 3, xI 15, xI 16, xI 17, xI 18, xI 19, xA 27, xA 28, xA 29, xA 30, xA 31, xA 32, xA 33, xA 34, xA 35)) = some zc ∧ (if r = 0 then pq_c (f_X8_casesLeft pq_N (mA 6)) (fun r_5 => (if p4 ≤ r_5 then pq_c (f_X8_begin pq_N (mA 6) (mA 8)) (fun r_6 => pq_w (fun _ _ _ => none) (f_X8_log_L67 pq_N (nI k) p2 p3 p4) pq_N 0 mL r_6) else some ((-2), mL, mA 8))) else some (r, mL, mA 8)) = some zm ∧ zc.1 = zm.1 ∧ pq_R (va_up (va_up (va_up (va_up (va_up xI 15 zc.2.2.2.2.2.1) 16 zc.2.2.2.2.2.2.1) 17 zc.2.2.2.2.2.2.2.1) 18 zc.2.2.2.2.2.2.2.2.1) 19 zc.2.2.2.2.2.2.2.2.2.1) (va_up (va_up (va_up (va_up (va_up (va_up (va_up (va_up (va_up xA 27 zc.2.2.2.2.2.2.2.2.2.2.1) 28 zc.2.2.2.2.2.2.2.2.2.2.2.1) 29 zc.2.2.2.2.2.2.2.2.2.2.2.2.1) 30 zc.2.2.2.2.2.2.2.2.2.2.2.2.2.1) 31 zc.2.2.2.2.2.2.2.2.2.2.2.2.2.2.1) 32 zc.2.2.2.2.2.2.2.2.2.2.2.2.2.2.2.1) 33 zc.2.2.2.2.2.2.2.2.2.2.2.2.2.2.2.2.1) 34 zc.2.2.2.2.2.2.2.2.2.2.2.2.2.2.2.2.2.1) 35 zc.2.2.2.2.2.2.2.2.2.2.2.2.2.2.2.2.2.2) (va_up (va_up (va_up (va_up xL 0 zc.2.1) 1 zc.2.2.1) 2 zc.2.2.2.1) 3 zc.2.2.2.2.1) aw mI (va_up mA 8 zm.2.2) zm.2.1 := by
          intro L hL
          rw [e1, pu_cs]
          by_cases h0 : r = 0
          · obtain ⟨a1, a2, a3, i, K, Z, ei, en, hin, hZ, eZ, -⟩ := hr h0
            rw [if_pos h0, if_pos h0, r2, r3]
            rcases hR.now.2 with hno | hw
            · have hleft : f_X1_casesLeft pq_N (mA 6 4) (mA 6 0) = some 0 ∧ f_X8_casesLeft pq_N (mA 6) = some 0 := by
                unfold f_X1_casesLeft f_X8_casesLeft
                rw [pq_gd_i (i := 4) (by decide), pq_gd_i (i := 0) (by decide), show (4 : Int32).toNatClampNeg = 4 from rfl, show (0 : Int32).toNatClampNeg = 0 from rfl, hno.1, hno.2.2.2.2]
                exact ⟨rfl, rfl⟩
              have hnot : ¬ p4 ≤ 0 := by rw [pu_lei, z0]; omega
              rw [hleft.1, hleft.2, pu_cs, pu_cs, if_neg hnot, if_neg hnot]
              exact ⟨_, _, rfl, rfl, rfl, same⟩
            · obtain ⟨P, J, C, X, S, hW⟩ := pn_W.of hw
              have hC := pn_C.of hW hR.now.1
              obtain ⟨⟨p1', p2'⟩, ⟨j1, j2⟩, ⟨c1, c2⟩, x2, s2, ⟨eP, eJ, eC, eX, eS⟩, -⟩ := id hW
              obtain ⟨l1, l2⟩ := pu_left (N := pq_N) hW.v
              rw [l1, l2, pu_cs, pu_cs]
              by_cases hle : K ≤ C - X
              · have hle' : p4 ≤ nI (C - X) := by rw [en]; exact (nI_leI (by omega) (by omega)).mpr hle
                rw [if_pos hle', if_pos hle', pu_begin8 pu_N2, pu_cs]
                obtain ⟨q', g', v', w', b, eh, hC'⟩ := pu_his (N := pq_N) (K := K) (t := pn_br (mA 6) (mA 8) 0 0 83) (d0 := xI 15) (d1 := xI 16) (d2 := xI 17) (d3 := xI 18) (d4 := xI 19) (b0 := xA 27) (b1 := xA 28) (b2 := xA 29) (b3 := xA 30) (b4 := xA 31) (b5 := xA 32) (b6 := xA 33) (b7 := xA 34) (b8 := xA 35) (by have := pu_N2; omega) hW.v hC (by omega) pn_br_83
                rw [← en] at eh
                have eh' : f_X7_hearInSpare pq_N (xI 10) (xI 11) (xI 12) (xI 13) (xI 14) (xA 18) (xA 19) (xA 20) (xA 21) (xA 22) (xA 23) (xA 24) (xA 25) (xA 26) (xI 15) (xI 16) (xI 17) (xI 18) (xI 19) (xA 27) (xA 28) (xA 29) (xA 30) (xA 31) (xA 32) (xA 33) (xA 34) (xA 35) p4 = _ := eh
                rw [r2, r3] at eh'
                have em := pu_log8_loop (N := pq_N) (p2 := p2) (f := mL) (k := k) (i := i) (K := K) pu_N hk (by omega) (show X + K ≤ C by omega) K 0 pq_N (pn_br (mA 6) (mA 8) 0 0 83) S (by omega) (by have := pu_N2; omega) (pn_V_cg (fun i hi => pn_br_83 i (by omega)) hW.v) rfl
                rw [nI_0, pn_lg_0, ← ei, ← en] at em
                rw [eh', pu_cs, em]
                obtain ⟨zc, ez, f1, f2, f3⟩ := hL i K X C (nI P, nI J, nI C, nI X, q', b 0, g', v', b 3, b 4, b 5, b 6, b 7, w') (by omega) (by omega) c2 ei en (by rw [r3, eX])
                obtain ⟨-, g0, g1, g2, g3, g4, g5, g6, g7, g8⟩ := hC'
                refine ⟨zc, _, ez, rfl, f1, ?_⟩
                dsimp only at f3
                have hS : ∀ j, j < 4 → pq_sh (xI (25 + 3 * j)) (xI (26 + 3 * j)) (xI (27 + 3 * j)) (va_up (va_up (va_up (va_up xL 0 zc.2.1) 1 zc.2.2.1) 2 zc.2.2.2.1) 3 zc.2.2.2.2.1 j) (mA 0 j) (mA 1 j) (fun q => pn_lg mL p2 (fun c => pn_it (pn_br (mA 6) (mA 8) 0 0 83) K (71 + c)) X (24 * k + i) K (24 * j + q)) := by
                  refine pq_kX hR f3 ?_ ?_ a1
                  · intro q hq
                    have sk : ∀ q, q < 24 → xL k q = mL (24 * k + q) := by
                      rcases hR.shs k hk with ⟨c1, -⟩ | ⟨-, -, -, -, -, c6⟩
                      · rw [c1] at a1
                        exact absurd a1 (by decide)
                      · exact c6
                    unfold pn_lg
                    by_cases c : i ≤ q ∧ q < i + K
                    · rw [if_pos c, if_pos (by omega), a2]
                      have hc := g8 (X + (q - i)) (by omega)
                      have hc : w' (X + (q - i)) = pn_it (pn_br (mA 6) (mA 8) 0 0 83) K (71 + (X + (q - i))) := hc
                      rw [hc, show 24 * k + q - (24 * k + i) = q - i by omega]
                    · rw [if_neg c, if_neg (by omega), sk q hq]
                  · intro j hj hne q hq
                    unfold pn_lg
                    rw [if_neg (by omega)]
                refine ⟨pq_kT hR ?_ ?_ rfl ?_, pq_kN hR ?_ ?_ ?_, pq_kI hR ?_ ?_ ?_ ?_, pq_kH hR ?_ ?_ rfl rfl ?_ ?_, ?_⟩
                · simp (disch := omega) only [pu_vo]
                · simp (disch := omega) only [pu_vo]
                · simp (disch := omega) only [pu_vo]
                · intro f hf; simp (disch := omega) only [pu_vo]
                · intro f hf; simp (disch := omega) only [pu_vo]
                · simp (disch := omega) only [pu_vo]
                · intro f hf; simp (disch := omega) only [pu_vo]
                · intro f hf; simp (disch := omega) only [pu_vo]
                · simp (disch := omega) only [pu_vo]
                · simp (disch := omega) only [pu_vo]
                · simp (disch := omega) only [pu_vo]
                · simp (disch := omega) only [pu_vo]
                · simp (disch := omega) only [pu_vo]
                · simp (disch := omega) only [pu_vo]
                · intro j hj
                  have h := hS j hj
                  simp (disch := omega) only [pu_vo] at h ⊢
                  exact h
              · have hle' : ¬ p4 ≤ nI (C - X) := by rw [en, nI_leI (by omega) (by omega)]; exact hle
                rw [if_neg hle', if_neg hle']
                exact ⟨_, _, rfl, rfl, rfl, same⟩
          · rw [if_neg h0, if_neg h0]
            exact ⟨_, _, rfl, rfl, rfl, same⟩
        rcases (show k = 0 ∨ k = 1 ∨ k = 2 ∨ k = 3 by omega) with rfl | rfl | rfl | rfl
        · rw [if_pos (show nI 0 = 0 from rfl)]
          refine key (fun z => pq_w (fun _ _ _ _ _ => none) (f_X7_log_L76 pq_N (xI 26) (xI 13) p3 p4 z) pq_N 0 (xL 0) (xL 1) (xL 2) (xL 3)) ?_
          intro i K X C z h1 h2 h3 h4 h5 h6
          obtain ⟨a0, a1, a2, a3, a4, b0, b1, b2, b3, b4, b5, b6, b7, b8⟩ := z
          have e := pu_log7_0 (N := pq_N) (l := xI 26) (a0 := a0) (a1 := a1) (a2 := a2) (a3 := a3) (a4 := a4) (b0 := b0) (b1 := b1) (b2 := b2) (b3 := b3) (b4 := b4) (b5 := b5) (b6 := b6) (b7 := b7) (b8 := b8) (f := xL 0) (g0 := xL 0) (g1 := xL 1) (g2 := xL 2) (g3 := xL 3) h1 h2 h3 K 0 pq_N (by omega) (by have := pu_N2; omega)
          rw [nI_0, pn_lg_0, ← h4, ← h5, ← h6] at e
          refine ⟨_, e, rfl, rfl, fun j hj => ?_⟩
          rcases (show j = 0 ∨ j = 1 ∨ j = 2 ∨ j = 3 by omega) with rfl | rfl | rfl | rfl <;> rfl
        · rw [if_neg (show ¬ nI 1 = 0 by decide), if_pos (show nI 1 = 1 from rfl)]
          refine key (fun z => pq_w (fun _ _ _ _ _ => none) (f_X7_log_L76v1 pq_N (xI 29) (xI 13) p3 p4 z) pq_N 0 (xL 0) (xL 1) (xL 2) (xL 3)) ?_
          intro i K X C z h1 h2 h3 h4 h5 h6
          obtain ⟨a0, a1, a2, a3, a4, b0, b1, b2, b3, b4, b5, b6, b7, b8⟩ := z
          have e := pu_log7_1 (N := pq_N) (l := xI 29) (a0 := a0) (a1 := a1) (a2 := a2) (a3 := a3) (a4 := a4) (b0 := b0) (b1 := b1) (b2 := b2) (b3 := b3) (b4 := b4) (b5 := b5) (b6 := b6) (b7 := b7) (b8 := b8) (f := xL 1) (g0 := xL 0) (g1 := xL 1) (g2 := xL 2) (g3 := xL 3) h1 h2 h3 K 0 pq_N (by omega) (by have := pu_N2; omega)
          rw [nI_0, pn_lg_0, ← h4, ← h5, ← h6] at e
          refine ⟨_, e, rfl, rfl, fun j hj => ?_⟩
          rcases (show j = 0 ∨ j = 1 ∨ j = 2 ∨ j = 3 by omega) with rfl | rfl | rfl | rfl <;> rfl
        · rw [if_neg (show ¬ nI 2 = 0 by decide), if_neg (show ¬ nI 2 = 1 by decide), if_pos (show nI 2 = 2 from rfl)]
          refine key (fun z => pq_w (fun _ _ _ _ _ => none) (f_X7_log_L76v2 pq_N (xI 32) (xI 13) p3 p4 z) pq_N 0 (xL 0) (xL 1) (xL 2) (xL 3)) ?_
          intro i K X C z h1 h2 h3 h4 h5 h6
          obtain ⟨a0, a1, a2, a3, a4, b0, b1, b2, b3, b4, b5, b6, b7, b8⟩ := z
          have e := pu_log7_2 (N := pq_N) (l := xI 32) (a0 := a0) (a1 := a1) (a2 := a2) (a3 := a3) (a4 := a4) (b0 := b0) (b1 := b1) (b2 := b2) (b3 := b3) (b4 := b4) (b5 := b5) (b6 := b6) (b7 := b7) (b8 := b8) (f := xL 2) (g0 := xL 0) (g1 := xL 1) (g2 := xL 2) (g3 := xL 3) h1 h2 h3 K 0 pq_N (by omega) (by have := pu_N2; omega)
          rw [nI_0, pn_lg_0, ← h4, ← h5, ← h6] at e
          refine ⟨_, e, rfl, rfl, fun j hj => ?_⟩
          rcases (show j = 0 ∨ j = 1 ∨ j = 2 ∨ j = 3 by omega) with rfl | rfl | rfl | rfl <;> rfl
        · rw [if_neg (show ¬ nI 3 = 0 by decide), if_neg (show ¬ nI 3 = 1 by decide), if_neg (show ¬ nI 3 = 2 by decide), if_pos (show nI 3 = 3 from rfl)]
          refine key (fun z => pq_w (fun _ _ _ _ _ => none) (f_X7_log_L76v3 pq_N (xI 35) (xI 13) p3 p4 z) pq_N 0 (xL 0) (xL 1) (xL 2) (xL 3)) ?_
          intro i K X C z h1 h2 h3 h4 h5 h6
          obtain ⟨a0, a1, a2, a3, a4, b0, b1, b2, b3, b4, b5, b6, b7, b8⟩ := z
          have e := pu_log7_3 (N := pq_N) (l := xI 35) (a0 := a0) (a1 := a1) (a2 := a2) (a3 := a3) (a4 := a4) (b0 := b0) (b1 := b1) (b2 := b2) (b3 := b3) (b4 := b4) (b5 := b5) (b6 := b6) (b7 := b7) (b8 := b8) (f := xL 3) (g0 := xL 0) (g1 := xL 1) (g2 := xL 2) (g3 := xL 3) h1 h2 h3 K 0 pq_N (by omega) (by have := pu_N2; omega)
          rw [nI_0, pn_lg_0, ← h4, ← h5, ← h6] at e
          refine ⟨_, e, rfl, rfl, fun j hj => ?_⟩
          rcases (show j = 0 ∨ j = 1 ∨ j = 2 ∨ j = 3 by omega) with rfl | rfl | rfl | rfl <;> rfl
      · rw [pu_f0 hn]
        by_cases hl0 : p4 < 1
        · rw [if_pos hl0]
          exact ⟨_, _, rfl, rfl, rfl, same⟩
        · rw [if_neg hl0, if_neg (show ¬ p4 ≤ 12 by rw [pu_lt, z1] at hl0; rw [pu_lei, z12]; omega)]
          exact ⟨_, _, rfl, rfl, rfl, same⟩
    · rw [pu_f0 hl, pu_f0 hl]
      exact ⟨_, _, rfl, rfl, rfl, same⟩
  · rw [pu_f0 hv, pu_f0 hv]
    exact ⟨_, _, rfl, rfl, rfl, same⟩
