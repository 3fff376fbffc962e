/-! ===== decades ===== -/
theorem pn_C_next {x x' : Nat → Int32} {a : Nat → Nat → Int32} {s : Nat → Int32} {P J C Y : Nat} (hC : pn_C x a s P J C) (e0 : x' 0 = x 0) (e1 : x' 1 = x 1) (e2 : x' 2 = x 2) (e3 : x' 3 = nI Y) (e4 : x' 4 = x 4) : pn_C x' a (upd s 0 (nI Y)) P J C := by
  obtain ⟨⟨r0, r1, r2, r3, r4⟩, h0, h1, h2, h3, h4, h5, h6, h7, h8⟩ := hC
  have h : ∀ i, i ≠ 0 → upd s 0 (nI Y) i = s i := fun i hi => pu_un hi
  refine ⟨⟨by rw [e0, r0], by rw [e1, r1], by rw [e2, r2], by rw [e3, pu_us], by rw [e4, r4, h 1 (by omega)]⟩, ?_, ?_, ?_, ?_, ?_, ?_, ?_, ?_, ?_⟩
  · intro i hi; rw [h _ (by omega)]; exact h0 i hi
  · intro i hi; rw [h _ (by omega)]; exact h1 i hi
  · intro i hi; rw [h _ (by omega)]; exact h2 i hi
  · intro i hi; rw [h _ (by omega)]; exact h3 i hi
  · intro i hi; rw [h _ (by omega)]; exact h4 i hi
  · intro i hi; rw [h _ (by omega)]; exact h5 i hi
  · intro i hi; rw [h _ (by omega)]; exact h6 i hi
  · intro i hi; rw [h _ (by omega)]; exact h7 i hi
  · intro i hi; rw [h _ (by omega)]; exact h8 i hi
def pn_dr (x : Int64) : Int64 := ((16807 : Int64) * x) - ((16807 : Int64) * x) / (2147483647 : Int64) * (2147483647 : Int64)
def pn_dq (x : Int64) : Int64 := (x / (8 : Int64)) - (x / (8 : Int64)) / (5 : Int64) * (5 : Int64)
def pn_dt (x : Int64) : Int32 := if (lg_cmp (pn_dq x) 0) = 0 then 1 else if (lg_cmp (pn_dq x) 1) = 0 then 2 else 0
def pn_dm (N : Nat) (p3 : Int32) (s : Nat → Int32) : Option (Int32 × (Nat → Int32)) := if p3 = 0 then pq_c (f_X8_griefs N s) (fun r_7 => some (r_7, s)) else some (s 1, s)
theorem pn_dr_e (x : Int64) : ((16807 : Int64) * x) - ((16807 : Int64) * x) / (2147483647 : Int64) * (2147483647 : Int64) = pn_dr x := rfl
theorem pn_dq_e (x : Int64) : (x / (8 : Int64)) - (x / (8 : Int64)) / (5 : Int64) * (5 : Int64) = pn_dq x := rfl
theorem pu_draw7 {N : Nat} {b : Nat → Nat → Int32} {J C K X Y i : Nat} {x x' y' : Int64} {q t' : Int32} {g v w : Nat → Int32} {kk : Int64 → Int32 → Int32 → Int32 → (Nat → Int32) → (Nat → Int32) → (Nat → Int32) → Option (Int32 × (Nat → Int32) × (Nat → Int32) × (Nat → Int32))} {z : Int32 × (Nat → Int32) × (Nat → Int32) × (Nat → Int32)} (hx' : ((16807 : Int64) * x) - ((16807 : Int64) * x) / (2147483647 : Int64) * (2147483647 : Int64) = x') (hy' : (x' / (8 : Int64)) - (x' / (8 : Int64)) / (5 : Int64) * (5 : Int64) = y') (ht' : (if (lg_cmp y' 0) = 0 then (1 : Int32) else if (lg_cmp y' 1) = 0 then 2 else 0) = t') (hX : X ≤ C) (hC : C ≤ 12) (hK : K ≤ 60) (hi : i < K) (hY : Y = if X = C then 0 else X) (ez : f_X1_settle N (nI J) q (b 0) g v (b 3) (b 4) (b 5) (b 6) (b 7) w (nI Y) t' = some z) : f_X1_hearByDraws_L12 N (nI J) (nI C) (b 0) (b 3) (b 4) (b 5) (b 6) (b 7) (nI K) kk x (nI X) (nI i) q g v w = kk x' (nI (Y + 1)) (nI (i + 1)) z.1 z.2.1 z.2.2.1 z.2.2.2 := by
  unfold f_X1_hearByDraws_L12
  rw [if_neg (by rw [nI_leI (by omega) (by omega)]; omega)]
  simp only [pu_j, pu_l, hx', hy']
  have hc : ∀ y : Int32, y = t' → ∀ u : Int32, u = nI Y → (pq_c (f_X1_settle N (nI J) q (b 0) g v (b 3) (b 4) (b 5) (b 6) (b 7) w u y) fun r_4 => kk x' (u + 1) (nI i + 1) r_4.1 r_4.2.1 r_4.2.2.1 r_4.2.2.2) = kk x' (nI (Y + 1)) (nI (i + 1)) z.1 z.2.1 z.2.2.1 z.2.2.2 := by
    intro y hy u hu
    rw [hy, hu, ez, pu_cs, nI_1, nI_1]
  have hd : ∀ u : Int32, u = nI Y → (if (lg_cmp y' 0) = 0 then (pq_c (f_X1_settle N (nI J) q (b 0) g v (b 3) (b 4) (b 5) (b 6) (b 7) w u 1) fun r_4 => kk x' (u + 1) (nI i + 1) r_4.1 r_4.2.1 r_4.2.2.1 r_4.2.2.2) else if (lg_cmp y' 1) = 0 then (pq_c (f_X1_settle N (nI J) q (b 0) g v (b 3) (b 4) (b 5) (b 6) (b 7) w u 2) fun r_4 => kk x' (u + 1) (nI i + 1) r_4.1 r_4.2.1 r_4.2.2.1 r_4.2.2.2) else (pq_c (f_X1_settle N (nI J) q (b 0) g v (b 3) (b 4) (b 5) (b 6) (b 7) w u 0) fun r_4 => kk x' (u + 1) (nI i + 1) r_4.1 r_4.2.1 r_4.2.2.1 r_4.2.2.2)) = kk x' (nI (Y + 1)) (nI (i + 1)) z.1 z.2.1 z.2.2.1 z.2.2.2 := by
    intro u hu
    by_cases h0 : (lg_cmp y' 0) = 0
    · rw [if_pos h0]
      rw [if_pos h0] at ht'
      exact hc 1 ht' u hu
    · rw [if_neg h0]
      rw [if_neg h0] at ht'
      by_cases h1 : (lg_cmp y' 1) = 0
      · rw [if_pos h1]
        rw [if_pos h1] at ht'
        exact hc 2 ht' u hu
      · rw [if_neg h1]
        rw [if_neg h1] at ht'
        exact hc 0 ht' u hu
  by_cases h : X = C
  · rw [if_pos h] at hY
    rw [if_neg (by rw [nI_ltI (by omega) (by omega)]; omega)]
    exact hd 0 (by rw [hY]; exact nI_0.symm)
  · rw [if_neg h] at hY
    rw [if_pos (by rw [nI_ltI (by omega) (by omega)]; omega)]
    exact hd (nI X) (by rw [hY])
theorem pu_draw8 {N : Nat} {s : Nat → Int32} {C K X Y i : Nat} {x : Int64} {p3 : Int32} {kk : Int64 → Int32 → (Nat → Int32) → Option (Int32 × (Nat → Int32))} {z : Int32 × (Nat → Int32)} (hX : X ≤ C) (hC : C ≤ 12) (hK : K ≤ 60) (hi : i < K) (e0 : s 0 = nI X) (e4 : s 4 = nI C) (hY : Y = if X = C then 0 else X) (hYC : Y < 12) (ez : f_X8_hears N (upd s 0 (nI Y)) (pn_t (upd s 0 (nI Y)) Y (pn_dt (pn_dr x))) = some z) : f_X8_decades_L52 N (nI K) p3 kk x (nI i) s = kk (pn_dr x) (nI (i + 1)) z.2 := by
  unfold f_X8_decades_L52
  rw [if_neg (by rw [nI_leI (by omega) (by omega)]; omega)]
  simp only [pu_j, pu_l, pq_gd_i (i := 0) (n := 83) (by decide), pq_gd_i (i := 4) (n := 83) (by decide), show (0 : Int32).toNatClampNeg = 0 from rfl, show (4 : Int32).toNatClampNeg = 4 from rfl, e0, e4, Int64.mul_comm x 16807, pn_dr_e, pn_dq_e]
  have hd : ∀ (y : Int32), y = nI Y → (if (lg_cmp (pn_dq (pn_dr x)) 0) = 0 then pq_gd ((35 : Int32) + upd s 0 y 0) 83 (pq_c (f_X8_hears N (upd s 0 y) (upd s 0 y ((35 : Int32) + upd s 0 y 0).toNatClampNeg)) fun r_12 => kk (pn_dr x) (nI i + 1) r_12.2) else if (lg_cmp (pn_dq (pn_dr x)) 1) = 0 then pq_gd ((47 : Int32) + upd s 0 y 0) 83 (pq_c (f_X8_hears N (upd s 0 y) (upd s 0 y ((47 : Int32) + upd s 0 y 0).toNatClampNeg)) fun r_12 => kk (pn_dr x) (nI i + 1) r_12.2) else (pq_c (f_X8_hears N (upd s 0 y) (-4)) fun r_12 => kk (pn_dr x) (nI i + 1) r_12.2)) = kk (pn_dr x) (nI (i + 1)) z.2 := by
    intro y hy
    subst hy
    simp (disch := omega) only [pu_us, pu_lit 35, pu_lit 47, nI_add, pu_gd, nI_clamp]
    unfold pn_t pn_dt at ez
    by_cases h0 : (lg_cmp (pn_dq (pn_dr x)) 0) = 0
    · rw [if_pos h0]
      rw [if_pos h0, if_pos rfl] at ez
      rw [ez, pu_cs, nI_1]
    · rw [if_neg h0]
      by_cases h1 : (lg_cmp (pn_dq (pn_dr x)) 1) = 0
      · rw [if_pos h1]
        rw [if_neg h0, if_pos h1, if_neg (by decide), if_pos rfl] at ez
        rw [ez, pu_cs, nI_1]
      · rw [if_neg h1]
        rw [if_neg h0, if_neg h1, if_neg (by decide), if_neg (by decide)] at ez
        rw [ez, pu_cs, nI_1]
  by_cases h : X = C
  · rw [if_pos h] at hY
    rw [if_pos (by rw [h])]
    exact hd 0 (by rw [hY]; rfl)
  · rw [if_neg h] at hY
    rw [if_neg (by rw [nI_eq (by omega) (by omega)]; exact h)]
    exact hd (nI X) (by rw [hY])
theorem pu_dec_loop {N : Nat} {p3 : Int32} {b : Nat → Nat → Int32} {P J C K : Nat} (hN : 10 < N) (hK : K ≤ 60) : ∀ (d i n m : Nat) (x : Int64) (s : Nat → Int32) (X S : Nat) (q : Int32) (g v w : Nat → Int32), i + d = K → d < n → d < m → pn_V s P J C X S → pn_C (pn_mx P J C X q) (pn_ma b g v w) s P J C → ∃ q' g' v' w' s' X' S', pq_w (fun _ _ _ _ _ _ _ => none) (f_X1_hearByDraws_L12 N (nI J) (nI C) (b 0) (b 3) (b 4) (b 5) (b 6) (b 7) (nI K)) n x (nI X) (nI i) q g v w = some (q', g', v', w') ∧ pq_w (fun _ _ _ => none) (f_X8_decades_L52 N (nI K) p3) m x (nI i) s = pn_dm N p3 s' ∧ pn_V s' P J C X' S' ∧ pn_C (pn_mx P J C X' q') (pn_ma b g' v' w') s' P J C
  | 0, i, n, m, x, s, X, S, q, g, v, w, h1, h2, h3, hV, hC => by
    obtain ⟨n, rfl⟩ : ∃ t, n = t + 1 := ⟨n - 1, by omega⟩
    obtain ⟨m, rfl⟩ : ∃ t, m = t + 1 := ⟨m - 1, by omega⟩
    refine ⟨q, g, v, w, s, X, S, ?_, ?_, hV, hC⟩
    · rw [pu_w]
      unfold f_X1_hearByDraws_L12
      rw [if_pos (by rw [nI_leI (by omega) (by omega)]; omega)]
    · rw [pu_w]
      unfold f_X8_decades_L52 pn_dm
      rw [if_pos (by rw [nI_leI (by omega) (by omega)]; omega), pq_gd_i (by decide)]
      rfl
  | d + 1, i, n, m, x, s, X, S, q, g, v, w, h1, h2, h3, hV, hC => by
    obtain ⟨n, rfl⟩ : ∃ t, n = t + 1 := ⟨n - 1, by omega⟩
    obtain ⟨m, rfl⟩ : ∃ t, m = t + 1 := ⟨m - 1, by omega⟩
    obtain ⟨⟨p1', p2'⟩, ⟨j1, j2⟩, ⟨c1, c2⟩, x2, s2, ⟨eP, eJ, eC, eX, eS⟩, -⟩ := id hV
    obtain ⟨Y, hY⟩ : ∃ Y, Y = if X = C then 0 else X := ⟨_, rfl⟩
    have hYC : Y < C := by rw [hY]; split <;> omega
    have hV1 := pn_V_next (Y := Y) hV (by omega)
    have hC1 : pn_C (pn_mx P J C Y q) (pn_ma b g v w) (upd s 0 (nI Y)) P J C := pn_C_next hC rfl rfl rfl rfl rfl
    obtain ⟨z, ez, -, hz⟩ := pu_hs (N := N) (p2 := pn_dt (pn_dr x)) hN hV1 hC1 hYC
    obtain ⟨w0, lo, S', -, -, -, -, -, -, -, em, hV', -, -⟩ := pu_h8 (N := N) hN hV1 hYC (pn_t (upd s 0 (nI Y)) Y (pn_dt (pn_dr x)))
    have hC' := hz (pn_mx P J C (Y + 1) z.1) (pn_ma b z.2.1 z.2.2.1 z.2.2.2) rfl rfl rfl rfl rfl rfl rfl rfl rfl rfl rfl rfl rfl rfl
    obtain ⟨q', g', v', w', s', X', S2, ih1, ih2, ih3, ih4⟩ := pu_dec_loop (p3 := p3) (b := b) hN hK d (i + 1) n m (pn_dr x) _ (Y + 1) S' z.1 z.2.1 z.2.2.1 z.2.2.2 (by omega) (by omega) (by omega) hV' hC'
    refine ⟨q', g', v', w', s', X', S2, ?_, ?_, ih3, ih4⟩
    · have ez' : f_X1_settle N (nI J) q (b 0) g v (b 3) (b 4) (b 5) (b 6) (b 7) w (nI Y) (pn_dt (pn_dr x)) = some z := ez
      rw [pu_w, pu_draw7 (x' := pn_dr x) (pn_dr_e x) (pn_dq_e _) rfl x2 c2 hK (show i < K by omega) hY ez']
      exact ih1
    · rw [pu_w, pu_draw8 x2 c2 hK (by omega) eX eC hY (by omega) em]
      exact ih2
set_option maxHeartbeats 2000000 in
theorem sim_decades {xI : Nat → Int32} {xA : Nat → Nat → Int32} {xL : Nat → Nat → Int64} {aw : Nat → Nat → Int32} {mI : Nat → Int32} {mA : Nat → Nat → Int32} {mL : Nat → Int64} (hR : pq_R xI xA xL aw mI mA mL) (p1 : Int32) (p2 : Int32) (p3 : Int32) : ∃ (zc : Int32 × Int32 × Int32 × Int32 × Int32 × Int32 × (Nat → Int32) × (Nat → Int32) × (Nat → Int32) × (Nat → Int32) × (Nat → Int32) × (Nat → Int32) × (Nat → Int32) × (Nat → Int32) × (Nat → Int32)) (zm : Int32 × (Nat → Int32)), f_X7_decades pq_N (xI 10) (xI 11) (xI 12) (xI 13) (xI 14) (xA 18) (xA 19) (xA 20) (xA 21) (xA 22) (xA 23) (xA 24) (xA 25) (xA 26) (xI 15) (xI 16) (xI 17) (xI 18) (xI 19) (xA 27) (xA 28) (xA 29) (xA 30) (xA 31) (xA 32) (xA 33) (xA 34) (xA 35) p1 p2 p3 = some zc ∧ f_X8_decades pq_N (mA 6) (mA 8) p1 p2 p3 = some zm ∧ zc.1 = zm.1 ∧ pq_R (va_up (va_up (va_up (va_up (va_up xI 15 zc.2.1) 16 zc.2.2.1) 17 zc.2.2.2.1) 18 zc.2.2.2.2.1) 19 zc.2.2.2.2.2.1) (va_up (va_up (va_up (va_up (va_up (va_up (va_up (va_up (va_up xA 27 zc.2.2.2.2.2.2.1) 28 zc.2.2.2.2.2.2.2.1) 29 zc.2.2.2.2.2.2.2.2.1) 30 zc.2.2.2.2.2.2.2.2.2.1) 31 zc.2.2.2.2.2.2.2.2.2.2.1) 32 zc.2.2.2.2.2.2.2.2.2.2.2.1) 33 zc.2.2.2.2.2.2.2.2.2.2.2.2.1) 34 zc.2.2.2.2.2.2.2.2.2.2.2.2.2.1) 35 zc.2.2.2.2.2.2.2.2.2.2.2.2.2.2) xL aw mI (va_up mA 8 zm.2) mL := by
  obtain ⟨⟨r0, r1, r2, r3, r4⟩, k2, k3, k4⟩ := pu_now hR
  have same : pq_R (va_up (va_up (va_up (va_up (va_up xI 15 (xI 15)) 16 (xI 16)) 17 (xI 17)) 18 (xI 18)) 19 (xI 19)) (va_up (va_up (va_up (va_up (va_up (va_up (va_up (va_up (va_up xA 27 (xA 27)) 28 (xA 28)) 29 (xA 29)) 30 (xA 30)) 31 (xA 31)) 32 (xA 32)) 33 (xA 33)) 34 (xA 34)) 35 (xA 35)) xL aw mI (va_up mA 8 (mA 8)) mL := by
    simp only [pu_vid]; exact hR
  unfold f_X7_decades f_X8_decades
  have z0 : (0 : Int32).toInt = 0 := rfl
  have z1 : (1 : Int32).toInt = 1 := rfl
  have z60 : (60 : Int32).toInt = 60 := rfl
  have z9 : (999999 : Int32).toInt = 999999 := rfl
  rw [pu_in, pu_cs, z0, z60, pu_in, pu_cs, z9, z1, pu_in, pu_cs, z0, z1, pu_fs, pu_cs]
  by_cases hv : 0 ≤ p1.toInt ∧ p1.toInt ≤ 60
  · rw [pu_f1 hv, if_neg (show ¬ p1 < 0 by rw [pu_lt, z0]; omega), if_neg (show ¬ 60 < p1 by rw [pu_lt, z60]; omega)]
    by_cases hs : 1 ≤ p2.toInt ∧ p2.toInt ≤ 999999
    · rw [pu_f1 hs, if_neg (show ¬ p2 < 1 by rw [pu_lt, z1]; omega), if_neg (show ¬ 999999 < p2 by rw [pu_lt, z9]; omega)]
      by_cases hv2 : 0 ≤ p3.toInt ∧ p3.toInt ≤ 1
      · rw [pu_f1 hv2, pu_f1 hv2]
        rcases pu_there1 (N := pq_N) hR.now.2 with ⟨-, e1, e2⟩ | ⟨hw, e1, e2⟩
        · rw [r2, e1, e2, pu_cs, pu_cs, if_pos rfl, if_pos rfl]
          exact ⟨_, _, rfl, rfl, rfl, same⟩
        · obtain ⟨P, J, C, X, S, hW⟩ := pn_W.of hw
          have hC := pn_C.of hW hR.now.1
          obtain ⟨⟨p1', p2'⟩, ⟨j1, j2⟩, ⟨c1, c2⟩, x2, s2, ⟨eP, eJ, eC, eX, eS⟩, -⟩ := id hW
          obtain ⟨K, hK, eK⟩ := pu_le (n := 60) hv.1 (by omega)
          have hth : f_X1_isThere pq_N (xI 12) = some 1 := by rw [r2]; exact e1
          rw [hth, e2, pu_cs, pu_cs, if_neg (show ¬ (1 : Int32) = 0 by decide), if_neg (show ¬ (1 : Int32) = 0 by decide), pu_become, pu_cs, pu_begin8 pu_N2, pu_cs, pu_l, eK]
          have hC' : pn_C (pn_mx P J C X (xI 14)) (pn_ma (fun f => if f = 0 then va_cpy (xA 18) (xA 27) 0 0 6 else if f = 1 then va_cpy (xA 19) (xA 28) 0 0 6 else if f = 2 then va_cpy (xA 20) (xA 29) 0 0 6 else if f = 3 then va_cpy (xA 21) (xA 30) 0 0 6 else if f = 4 then va_cpy (xA 22) (xA 31) 0 0 6 else if f = 5 then va_cpy (xA 23) (xA 32) 0 0 12 else if f = 6 then va_cpy (xA 24) (xA 33) 0 0 12 else if f = 7 then va_cpy (xA 25) (xA 34) 0 0 12 else va_cpy (xA 26) (xA 35) 0 0 12) (va_cpy (xA 19) (xA 28) 0 0 6) (va_cpy (xA 20) (xA 29) 0 0 6) (va_cpy (xA 26) (xA 35) 0 0 12)) (pn_br (mA 6) (mA 8) 0 0 83) P J C := by
            refine pn_C_cg p2' j2 c2 hC ?_ ?_ ?_ pn_br_83
            · intro f hf
              rcases (show f = 0 ∨ f = 1 ∨ f = 2 ∨ f = 3 ∨ f = 4 by omega) with rfl | rfl | rfl | rfl | rfl
              · exact hC.1.1.symm
              · exact hC.1.2.1.symm
              · exact hC.1.2.2.1.symm
              · exact (hC.1.2.2.2.1.trans eX).symm
              · rfl
            · intro f hf i hi
              rcases (show f = 0 ∨ f = 1 ∨ f = 2 ∨ f = 3 ∨ f = 4 by omega) with rfl | rfl | rfl | rfl | rfl <;> exact pu_cpy hi
            · intro f hf hf2 i hi
              rcases (show f = 5 ∨ f = 6 ∨ f = 7 ∨ f = 8 by omega) with rfl | rfl | rfl | rfl <;> exact pu_cpy hi
          obtain ⟨q', g', v', w', s', X', S', ih1, ih2, ih3, ih4⟩ := pu_dec_loop (N := pq_N) (p3 := p3) pu_N hK K 0 pq_N pq_N p2.toInt64 _ X S (xI 14) _ _ _ (by omega) (by have := pu_N2; omega) (by have := pu_N2; omega) (pn_V_cg (fun i hi => pn_br_83 i (by omega)) hW.v) hC'
          have hd : f_X1_hearByDraws pq_N (xI 11) (xI 12) (xI 13) (xI 14) (va_cpy (xA 18) (xA 27) 0 0 6) (va_cpy (xA 19) (xA 28) 0 0 6) (va_cpy (xA 20) (xA 29) 0 0 6) (va_cpy (xA 21) (xA 30) 0 0 6) (va_cpy (xA 22) (xA 31) 0 0 6) (va_cpy (xA 23) (xA 32) 0 0 12) (va_cpy (xA 24) (xA 33) 0 0 12) (va_cpy (xA 25) (xA 34) 0 0 12) (va_cpy (xA 26) (xA 35) 0 0 12) (nI K) p2 = some (q', g', v', w') := by
            unfold f_X1_hearByDraws
            rw [pu_l, r1, r2, r3, eJ, eC, eX]
            exact ih1
          have hm : pq_w (fun _ _ _ => none) (f_X8_decades_L52 pq_N (nI K) p3) pq_N p2.toInt64 0 (pn_br (mA 6) (mA 8) 0 0 83) = pn_dm pq_N p3 s' := ih2
          dsimp only
          rw [hd, pu_cs, hm]
          obtain ⟨⟨y0, y1, y2, y3, y4⟩, g0, g1, g2, g3, g4, g5, g6, g7, g8⟩ := ih4
          have fin : ∀ (v0 v1 : Int32), v0 = v1 → ∃ zc zm, some (v0, xI 10, xI 11, xI 12, xI 13, q', va_cpy (xA 18) (xA 27) 0 0 6, g', v', va_cpy (xA 21) (xA 30) 0 0 6, va_cpy (xA 22) (xA 31) 0 0 6, va_cpy (xA 23) (xA 32) 0 0 12, va_cpy (xA 24) (xA 33) 0 0 12, va_cpy (xA 25) (xA 34) 0 0 12, w') = some zc ∧ some (v1, s') = some zm ∧ zc.1 = zm.1 ∧ pq_R (va_up (va_up (va_up (va_up (va_up xI 15 zc.2.1) 16 zc.2.2.1) 17 zc.2.2.2.1) 18 zc.2.2.2.2.1) 19 zc.2.2.2.2.2.1) (va_up (va_up (va_up (va_up (va_up (va_up (va_up (va_up (va_up xA 27 zc.2.2.2.2.2.2.1) 28 zc.2.2.2.2.2.2.2.1) 29 zc.2.2.2.2.2.2.2.2.1) 30 zc.2.2.2.2.2.2.2.2.2.1) 31 zc.2.2.2.2.2.2.2.2.2.2.1) 32 zc.2.2.2.2.2.2.2.2.2.2.2.1) 33 zc.2.2.2.2.2.2.2.2.2.2.2.2.1) 34 zc.2.2.2.2.2.2.2.2.2.2.2.2.2.1) 35 zc.2.2.2.2.2.2.2.2.2.2.2.2.2.2) xL aw mI (va_up mA 8 zm.2) mL := by
            intro v0 v1 e
            refine ⟨_, _, rfl, rfl, e, ?_⟩
            dsimp only
            refine pq_kF hR ?_ ?_ ?_ ?_
            · intro k hk; simp (disch := omega) only [pu_vo]
            · intro k hk; simp (disch := omega) only [pu_vo]
            · intro k hk; rfl
            · intro k hk; simp (disch := omega) only [pu_vo]
          unfold pn_dm
          by_cases hp : p3 = 0
          · rw [if_pos hp, if_pos hp]
            have a1 : f_X1_allGrievance pq_N (xI 10) g' = some (pn_su (fun i => s' (11 + i)) P) := by
              rw [r0, eP, ← pn_su_cg (g := g') (fun i hi => g1 i hi)]
              exact pu_all1_loop p2' P 0 pq_N (by omega) (by have := pu_N2; omega)
            have a2 : f_X8_griefs pq_N s' = some (pn_su (fun i => s' (11 + i)) P) := pu_all8_loop p2' ih3.2.2.2.2.2.1.1 P 0 pq_N (by omega) (by have := pu_N2; omega)
            rw [a1, a2, pu_cs, pu_cs]
            exact fin _ _ rfl
          · rw [if_neg hp, if_neg hp]
            exact fin _ _ y4
      · rw [pu_f0 hv2, pu_f0 hv2]
        exact ⟨_, _, rfl, rfl, rfl, same⟩
    · rw [pu_f0 hs]
      by_cases hl0 : p2 < 1
      · rw [if_pos hl0]
        exact ⟨_, _, rfl, rfl, rfl, same⟩
      · rw [if_neg hl0, if_pos (show 999999 < p2 by rw [pu_lt, z1] at hl0; rw [pu_lt, z9]; omega)]
        exact ⟨_, _, rfl, rfl, rfl, same⟩
  · rw [pu_f0 hv]
    by_cases hl0 : p1 < 0
    · rw [if_pos hl0]
      exact ⟨_, _, rfl, rfl, rfl, same⟩
    · rw [if_neg hl0, if_pos (show 60 < p1 by rw [pu_lt, z0] at hl0; rw [pu_lt, z60]; omega)]
      exact ⟨_, _, rfl, rfl, rfl, same⟩
