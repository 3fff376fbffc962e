/-! ===== ahead ===== -/
theorem pu_fs {N : Nat} {v : Int32} : f_X7_isFirstOrSecond N v = some (if 0 ≤ v.toInt ∧ v.toInt ≤ 1 then 1 else 0) := by
  unfold f_X7_isFirstOrSecond
  rw [pu_j, pu_b1, pu_b0]
  by_cases h0 : v = 0
  · subst h0; rfl
  · rw [if_neg h0]
    by_cases h1 : v = 1
    · subst h1; rfl
    · rw [if_neg h1, if_neg]
      intro h
      rcases pu_01 h with e | e
      · exact h0 e
      · exact h1 e
theorem pu_begin8 {N : Nat} {now tried : Nat → Int32} (hN : 2000 < N) : f_X8_begin N now tried = some (pn_br now tried 0 0 83) := by
  unfold f_X8_begin
  have e3 := pu_bring (N := N) (n0 := 83) (n2 := 83) (i := 0) (j := 0) (n := 83) (a := now) (b := tried) (by omega) (by omega) (by omega) (by omega) (by omega)
  rw [nI_0] at e3
  have e4 : f_X8_bring N 83 83 now tried 0 0 83 = some (pn_br now tried 0 0 83) := e3
  rw [e4, pu_cs]
theorem pn_br_83 {a b : Nat → Int32} : ∀ i, i < 83 → pn_br a b 0 0 83 i = a i := by
  intro i hi
  unfold pn_br
  rw [if_pos (by omega), show 0 + (i - 0) = i by omega]
def pn_it (s : Nat → Int32) : Nat → (Nat → Int32)
  | 0 => s
  | d + 1 => pn_it (pn_h s (-4)) d
theorem pn_it_V {P J C : Nat} : ∀ (d : Nat) {s : Nat → Int32} {X S : Nat}, pn_V s P J C X S → X + d ≤ C → ∃ S', pn_V (pn_it s d) P J C (X + d) S'
  | 0, s, X, S, h, _ => ⟨S, h⟩
  | d + 1, s, X, S, h, hc => by
    obtain ⟨w, lo, S', -, -, -, -, -, -, -, -, hV, -, -⟩ := pu_h8 (N := 11) (by omega) h (by omega) (-4)
    obtain ⟨S2, h2⟩ := pn_it_V d hV (by omega)
    refine ⟨S2, ?_⟩
    rw [show X + (d + 1) = X + 1 + d by omega]
    exact h2
theorem pn_it_won {P J C : Nat} : ∀ (d : Nat) {s : Nat → Int32} {X S : Nat}, pn_V s P J C X S → X + d ≤ C → ∀ k, k < X → pn_it s d (71 + k) = s (71 + k)
  | 0, s, X, S, _, _, k, _ => rfl
  | d + 1, s, X, S, h, hc, k, hk => by
    obtain ⟨w, lo, S', -, -, -, -, -, -, -, -, hV, -, ho⟩ := pu_h8 (N := 11) (by omega) h (by omega) (-4)
    have := pn_it_won d hV (by omega) k (by omega)
    show pn_it (pn_h s (-4)) d (71 + k) = _
    rw [this, ho _ (by omega) (by omega) (by omega) (by omega)]
def pn_mx (P J C X : Nat) (q : Int32) : Nat → Int32 := fun f => if f = 0 then nI P else if f = 1 then nI J else if f = 2 then nI C else if f = 3 then nI X else q
def pn_ma (b : Nat → Nat → Int32) (g v w : Nat → Int32) : Nat → Nat → Int32 := fun f => if f = 1 then g else if f = 2 then v else if f = 8 then w else b f
theorem pu_his_loop {N : Nat} {x3 x4 : Int32} {b : Nat → Nat → Int32} {P J C X K : Nat} (hN : 10 < N) (hK : X + K ≤ C) : ∀ (d i n : Nat) (s : Nat → Int32) (S : Nat) (q : Int32) (g v w : Nat → Int32), i + d = K → d < n → pn_V s P J C (X + i) S → pn_C (pn_mx P J C (X + i) q) (pn_ma b g v w) s P J C → ∃ q' g' v' w', pq_w (fun _ _ _ _ _ => none) (f_X7_hearInSpare_L13 N (nI X) (nI K) (nI P, nI J, nI C, x3, x4, b 0, b 1, b 2, b 3, b 4, b 5, b 6, b 7, b 8)) n (nI i) q g v w = some (nI P, nI J, nI C, x3, q', b 0, g', v', b 3, b 4, b 5, b 6, b 7, w') ∧ pn_C (pn_mx P J C (X + K) q') (pn_ma b g' v' w') (pn_it s d) P J C
  | 0, i, n, s, S, q, g, v, w, h1, h2, hV, hC => by
    obtain ⟨n, rfl⟩ : ∃ t, n = t + 1 := ⟨n - 1, by omega⟩
    have hb : K ≤ 12 := by have := hV.2.2.1; omega
    rw [pu_w]
    unfold f_X7_hearInSpare_L13
    rw [if_pos (by rw [nI_leI (by omega) (by omega)]; omega)]
    refine ⟨q, g, v, w, rfl, ?_⟩
    rw [show K = i by omega]
    exact hC
  | d + 1, i, n, s, S, q, g, v, w, h1, h2, hV, hC => by
    obtain ⟨n, rfl⟩ : ∃ t, n = t + 1 := ⟨n - 1, by omega⟩
    have hb : K ≤ 12 := by have := hV.2.2.1; omega
    have hb2 := hV.2.2.1
    obtain ⟨z, ez, -, hz⟩ := pu_hs (N := N) (p2 := 0) hN hV hC (by omega)
    obtain ⟨w0, lo, S', -, -, -, -, -, -, -, -, hV', -, -⟩ := pu_h8 (N := N) hN hV (by omega) (-4)
    have hC' := hz (pn_mx P J C (X + i + 1) z.1) (pn_ma b z.2.1 z.2.2.1 z.2.2.2) rfl rfl rfl rfl rfl rfl rfl rfl rfl rfl rfl rfl rfl rfl
    have ih := pu_his_loop (x3 := x3) (x4 := x4) (b := b) (P := P) (J := J) hN hK d (i + 1) n (pn_h s (-4)) S' z.1 z.2.1 z.2.2.1 z.2.2.2 (by omega) (by omega) hV' hC'
    rw [pu_w]
    generalize pq_w (fun _ _ _ _ _ => none) (f_X7_hearInSpare_L13 N (nI X) (nI K) (nI P, nI J, nI C, x3, x4, b 0, b 1, b 2, b 3, b 4, b 5, b 6, b 7, b 8)) n = kk at ih ⊢
    unfold f_X7_hearInSpare_L13
    rw [if_neg (by rw [nI_leI (by omega) (by omega)]; omega)]
    dsimp only
    have ez' : f_X1_settle N (nI J) q (b 0) g v (b 3) (b 4) (b 5) (b 6) (b 7) w (nI (X + i)) 0 = some z := ez
    rw [nI_add, ez', pu_cs, pu_l, nI_1]
    exact ih
theorem pu_ahead8_loop {N : Nat} {p2 : Int32} {P J C X K : Nat} (hN : 10 < N) (hK : X + K ≤ C) : ∀ (d i n : Nat) (s : Nat → Int32) (S : Nat) (u : Int32), i + d = K → d < n → pn_V s P J C (X + i) S → pq_w (fun _ _ _ => none) (f_X8_ahead_L52 N (nI K) p2) n u (nI i) s = some (if p2 = 0 then (if d = 0 then u else pn_it s d (71 + (X + K - 1))) else pn_it s d 1, pn_it s d)
  | 0, i, n, s, S, u, h1, h2, hV => by
    obtain ⟨n, rfl⟩ : ∃ t, n = t + 1 := ⟨n - 1, by omega⟩
    have hb := hV.2.2.1
    rw [pu_w]
    unfold f_X8_ahead_L52
    rw [if_pos (by rw [nI_leI (by omega) (by omega)]; omega), pq_gd_i (by decide)]
    by_cases h : p2 = 0
    · rw [if_pos h, if_pos h, if_pos rfl]; rfl
    · rw [if_neg h, if_neg h]; rfl
  | d + 1, i, n, s, S, u, h1, h2, hV => by
    obtain ⟨n, rfl⟩ : ∃ t, n = t + 1 := ⟨n - 1, by omega⟩
    have hb := hV.2.2.1
    obtain ⟨w0, lo, S', -, -, -, -, -, -, -, eh, hV', hw, -⟩ := pu_h8 (N := N) hN hV (by omega) (-4)
    have ih := pu_ahead8_loop (p2 := p2) hN hK d (i + 1) n (pn_h s (-4)) S' (nI w0) (by omega) (by omega) hV'
    rw [pu_w]
    generalize pq_w (fun _ _ _ => none) (f_X8_ahead_L52 N (nI K) p2) n = kk at ih ⊢
    unfold f_X8_ahead_L52
    rw [if_neg (by rw [nI_leI (by omega) (by omega)]; omega), eh, pu_cs, pu_l, nI_1]
    dsimp only
    rw [ih]
    rw [if_neg (show ¬ d + 1 = 0 by omega)]
    by_cases hd : d = 0
    · subst hd
      rw [if_pos rfl]
      show some (if p2 = 0 then nI w0 else pn_h s (-4) 1, pn_h s (-4)) = some (if p2 = 0 then pn_h s (-4) (71 + (X + K - 1)) else pn_h s (-4) 1, pn_h s (-4))
      rw [show X + K - 1 = X + i by omega, hw]
    · rw [if_neg hd]
      rfl
/-- the class hears ahead in its spare circuit -/
theorem pu_his {N : Nat} {x : Nat → Int32} {a : Nat → Nat → Int32} {s t : Nat → Int32} {P J C X S K : Nat} {d0 d1 d2 d3 d4 : Int32} {b0 b1 b2 b3 b4 b5 b6 b7 b8 : Nat → Int32} (hN : 20 < N) (hW : pn_V s P J C X S) (hC : pn_C x a s P J C) (hK : X + K ≤ C) (ht : ∀ i, i < 83 → t i = s i) :
    ∃ (q' : Int32) (g' v' w' : Nat → Int32) (b : Nat → Nat → Int32), f_X7_hearInSpare N (x 0) (x 1) (x 2) (x 3) (x 4) (a 0) (a 1) (a 2) (a 3) (a 4) (a 5) (a 6) (a 7) (a 8) d0 d1 d2 d3 d4 b0 b1 b2 b3 b4 b5 b6 b7 b8 (nI K) = some (nI P, nI J, nI C, nI X, q', b 0, g', v', b 3, b 4, b 5, b 6, b 7, w') ∧ pn_C (pn_mx P J C (X + K) q') (pn_ma b g' v' w') (pn_it t K) P J C := by
  obtain ⟨⟨p1, p2'⟩, ⟨j1, j2⟩, ⟨c1, c2⟩, x2, s2, ⟨eP, eJ, eC, eX, eS⟩, -⟩ := id hW
  obtain ⟨⟨r0, r1, r2, r3, r4⟩, -⟩ := id hC
  unfold f_X7_hearInSpare
  rw [pu_become, pu_cs, r0, r1, r2, r3, eX]
  have hC' : pn_C (pn_mx P J C (X + 0) (x 4)) (pn_ma (fun f => if f = 0 then va_cpy (a 0) b0 0 0 6 else if f = 1 then va_cpy (a 1) b1 0 0 6 else if f = 2 then va_cpy (a 2) b2 0 0 6 else if f = 3 then va_cpy (a 3) b3 0 0 6 else if f = 4 then va_cpy (a 4) b4 0 0 6 else if f = 5 then va_cpy (a 5) b5 0 0 12 else if f = 6 then va_cpy (a 6) b6 0 0 12 else if f = 7 then va_cpy (a 7) b7 0 0 12 else va_cpy (a 8) b8 0 0 12) (va_cpy (a 1) b1 0 0 6) (va_cpy (a 2) b2 0 0 6) (va_cpy (a 8) b8 0 0 12)) t P J C := by
    refine pn_C_cg p2' j2 c2 hC ?_ ?_ ?_ ht
    · intro f hf
      rcases (show f = 0 ∨ f = 1 ∨ f = 2 ∨ f = 3 ∨ f = 4 by omega) with rfl | rfl | rfl | rfl | rfl
      · exact r0.symm
      · exact r1.symm
      · exact r2.symm
      · rw [r3, eX]; rfl
      · rfl
    · intro f hf i hi
      rcases (show f = 0 ∨ f = 1 ∨ f = 2 ∨ f = 3 ∨ f = 4 by omega) with rfl | rfl | rfl | rfl | rfl <;> exact pu_cpy hi
    · intro f hf hf2 i hi
      rcases (show f = 5 ∨ f = 6 ∨ f = 7 ∨ f = 8 by omega) with rfl | rfl | rfl | rfl <;> exact pu_cpy hi
  obtain ⟨q', g', v', w', e, hf⟩ := pu_his_loop (x3 := nI X) (x4 := x 4) (K := K) (show 10 < N by omega) hK K 0 N t S (x 4) _ _ _ (by omega) (by omega) (pn_V_cg (fun i hi => ht i (by omega)) hW) hC'
  exact ⟨q', g', v', w', (fun f => if f = 0 then va_cpy (a 0) b0 0 0 6 else if f = 1 then va_cpy (a 1) b1 0 0 6 else if f = 2 then va_cpy (a 2) b2 0 0 6 else if f = 3 then va_cpy (a 3) b3 0 0 6 else if f = 4 then va_cpy (a 4) b4 0 0 6 else if f = 5 then va_cpy (a 5) b5 0 0 12 else if f = 6 then va_cpy (a 6) b6 0 0 12 else if f = 7 then va_cpy (a 7) b7 0 0 12 else va_cpy (a 8) b8 0 0 12), e, hf⟩
theorem pu_left {N : Nat} {s : Nat → Int32} {P J C X S : Nat} (hW : pn_V s P J C X S) : f_X1_casesLeft N (s 4) (s 0) = some (nI (C - X)) ∧ f_X8_casesLeft N s = some (nI (C - X)) := by
  obtain ⟨⟨p1, p2'⟩, ⟨j1, j2⟩, ⟨c1, c2⟩, x2, s2, ⟨eP, eJ, eC, eX, eS⟩, -⟩ := id hW
  unfold f_X1_casesLeft f_X8_casesLeft
  rw [pq_gd_i (i := 4) (by decide), pq_gd_i (i := 0) (by decide), show (4 : Int32).toNatClampNeg = 4 from rfl, show (0 : Int32).toNatClampNeg = 0 from rfl, eC, eX, pk_sub (by omega)]
  exact ⟨rfl, rfl⟩
set_option maxHeartbeats 2000000 in
theorem sim_ahead {xI : Nat → Int32} {xA : Nat → Nat → Int32} {xL : Nat → Nat → Int64} {aw : Nat → Nat → Int32} {mI : Nat → Int32} {mA : Nat → Nat → Int32} {mL : Nat → Int64} (hR : pq_R xI xA xL aw mI mA mL) (p1 : Int32) (p2 : Int32) : ∃ (zc : Int32 × Int32 × Int32 × Int32 × Int32 × Int32 × (Nat → Int32) × (Nat → Int32) × (Nat → Int32) × (Nat → Int32) × (Nat → Int32) × (Nat → Int32) × (Nat → Int32) × (Nat → Int32) × (Nat → Int32)) (zm : Int32 × (Nat → Int32)), f_X7_ahead pq_N (xI 10) (xI 11) (xI 12) (xI 13) (xI 14) (xA 18) (xA 19) (xA 20) (xA 21) (xA 22) (xA 23) (xA 24) (xA 25) (xA 26) (xI 15) (xI 16) (xI 17) (xI 18) (xI 19) (xA 27) (xA 28) (xA 29) (xA 30) (xA 31) (xA 32) (xA 33) (xA 34) (xA 35) p1 p2 = some zc ∧ f_X8_ahead pq_N (mA 6) (mA 8) p1 p2 = some zm ∧ zc.1 = zm.1 ∧ pq_R (va_up (va_up (va_up (va_up (va_up xI 15 zc.2.1) 16 zc.2.2.1) 17 zc.2.2.2.1) 18 zc.2.2.2.2.1) 19 zc.2.2.2.2.2.1) (va_up (va_up (va_up (va_up (va_up (va_up (va_up (va_up (va_up xA 27 zc.2.2.2.2.2.2.1) 28 zc.2.2.2.2.2.2.2.1) 29 zc.2.2.2.2.2.2.2.2.1) 30 zc.2.2.2.2.2.2.2.2.2.1) 31 zc.2.2.2.2.2.2.2.2.2.2.1) 32 zc.2.2.2.2.2.2.2.2.2.2.2.1) 33 zc.2.2.2.2.2.2.2.2.2.2.2.2.1) 34 zc.2.2.2.2.2.2.2.2.2.2.2.2.2.1) 35 zc.2.2.2.2.2.2.2.2.2.2.2.2.2.2) xL aw mI (va_up mA 8 zm.2) mL := by
  obtain ⟨⟨r0, r1, r2, r3, r4⟩, k2, k3, k4⟩ := pu_now hR
  have same : pq_R (va_up (va_up (va_up (va_up (va_up xI 15 (xI 15)) 16 (xI 16)) 17 (xI 17)) 18 (xI 18)) 19 (xI 19)) (va_up (va_up (va_up (va_up (va_up (va_up (va_up (va_up (va_up xA 27 (xA 27)) 28 (xA 28)) 29 (xA 29)) 30 (xA 30)) 31 (xA 31)) 32 (xA 32)) 33 (xA 33)) 34 (xA 34)) 35 (xA 35)) xL aw mI (va_up mA 8 (mA 8)) mL := by
    simp only [pu_vid]; exact hR
  unfold f_X7_ahead f_X8_ahead
  have z0 : (0 : Int32).toInt = 0 := rfl
  have z1 : (1 : Int32).toInt = 1 := rfl
  have z12 : (12 : Int32).toInt = 12 := rfl
  rw [pu_in, pu_cs, z0, z12, pu_in, pu_cs, z0, z1, pu_fs, pu_cs]
  by_cases hv : 0 ≤ p1.toInt ∧ p1.toInt ≤ 12
  · rw [pu_f1 hv, if_neg (show ¬ p1 < 0 by rw [pu_lt, z0]; omega), if_neg (show ¬ 12 < p1 by rw [pu_lt, z12]; omega)]
    by_cases hv2 : 0 ≤ p2.toInt ∧ p2.toInt ≤ 1
    · rw [pu_f1 hv2, pu_f1 hv2]
      rcases pu_there1 (N := pq_N) hR.now.2 with ⟨-, e1, e2⟩ | ⟨hw, e1, e2⟩
      · rw [r2, e1, e2, pu_cs, pu_cs, if_pos rfl, if_pos rfl]
        exact ⟨_, _, rfl, rfl, rfl, same⟩
      · obtain ⟨P, J, C, X, S, hW⟩ := pn_W.of hw
        have hC := pn_C.of hW hR.now.1
        obtain ⟨⟨p1', p2'⟩, ⟨j1, j2⟩, ⟨c1, c2⟩, x2, s2, ⟨eP, eJ, eC, eX, eS⟩, -⟩ := id hW
        obtain ⟨l1, l2⟩ := pu_left (N := pq_N) hW.v
        obtain ⟨K, hK, eK⟩ := pu_le (n := 12) hv.1 (by omega)
        have hth : f_X1_isThere pq_N (xI 12) = some 1 := by rw [r2]; exact e1
        have hle : f_X1_casesLeft pq_N (xI 12) (xI 13) = some (nI (C - X)) := by rw [r2, r3]; exact l1
        rw [hth, e2, pu_cs, pu_cs, if_neg (show ¬ (1 : Int32) = 0 by decide), if_neg (show ¬ (1 : Int32) = 0 by decide), hle, l2, pu_cs, pu_cs, eK]
        by_cases hle : K ≤ C - X
        · have := (nI_leI (a := K) (b := C - X) (by omega) (by omega)).mpr hle
          rw [if_pos this, if_pos this, pu_begin8 pu_N2, pu_cs]
          obtain ⟨q', g', v', w', b, eh, hC'⟩ := pu_his (N := pq_N) (K := K) (t := pn_br (mA 6) (mA 8) 0 0 83) (d0 := xI 15) (d1 := xI 16) (d2 := xI 17) (d3 := xI 18) (d4 := xI 19) (b0 := xA 27) (b1 := xA 28) (b2 := xA 29) (b3 := xA 30) (b4 := xA 31) (b5 := xA 32) (b6 := xA 33) (b7 := xA 34) (b8 := xA 35) (by have := pu_N2; omega) hW.v hC (by omega) pn_br_83
          have eh' : f_X7_hearInSpare pq_N (xI 10) (xI 11) (xI 12) (xI 13) (xI 14) (xA 18) (xA 19) (xA 20) (xA 21) (xA 22) (xA 23) (xA 24) (xA 25) (xA 26) (xI 15) (xI 16) (xI 17) (xI 18) (xI 19) (xA 27) (xA 28) (xA 29) (xA 30) (xA 31) (xA 32) (xA 33) (xA 34) (xA 35) (nI K) = _ := eh
          have em := pu_ahead8_loop (N := pq_N) (p2 := p2) (K := K) pu_N (show X + K ≤ C by omega) K 0 pq_N (pn_br (mA 6) (mA 8) 0 0 83) S (-4) (by omega) (by have := pu_N2; omega) (pn_V_cg (fun i hi => pn_br_83 i (by omega)) hW.v)
          rw [nI_0] at em
          rw [eh', pu_cs, em]
          dsimp only
          obtain ⟨⟨y0, y1, y2, y3, y4⟩, g0, g1, g2, g3, g4, g5, g6, g7, g8⟩ := hC'
          have fin : ∀ (v0 v1 : Int32), v0 = v1 → ∃ zc zm, some (v0, nI P, nI J, nI C, nI X, q', b 0, g', v', b 3, b 4, b 5, b 6, b 7, w') = some zc ∧ some (v1, pn_it (pn_br (mA 6) (mA 8) 0 0 83) K) = some zm ∧ zc.1 = zm.1 ∧ pq_R (va_up (va_up (va_up (va_up (va_up xI 15 zc.2.1) 16 zc.2.2.1) 17 zc.2.2.2.1) 18 zc.2.2.2.2.1) 19 zc.2.2.2.2.2.1) (va_up (va_up (va_up (va_up (va_up (va_up (va_up (va_up (va_up xA 27 zc.2.2.2.2.2.2.1) 28 zc.2.2.2.2.2.2.2.1) 29 zc.2.2.2.2.2.2.2.2.1) 30 zc.2.2.2.2.2.2.2.2.2.1) 31 zc.2.2.2.2.2.2.2.2.2.2.1) 32 zc.2.2.2.2.2.2.2.2.2.2.2.1) 33 zc.2.2.2.2.2.2.2.2.2.2.2.2.1) 34 zc.2.2.2.2.2.2.2.2.2.2.2.2.2.1) 35 zc.2.2.2.2.2.2.2.2.2.2.2.2.2.2) xL aw mI (va_up mA 8 zm.2) mL := by
            intro v0 v1 e
            refine ⟨_, _, rfl, rfl, e, ?_⟩
            dsimp only
            refine pq_kF hR ?_ ?_ ?_ ?_
            · intro k hk; simp (disch := omega) only [pu_vo]
            · intro k hk; simp (disch := omega) only [pu_vo]
            · intro k hk; rfl
            · intro k hk; simp (disch := omega) only [pu_vo]
          by_cases hp : p2 = 1
          · subst hp
            rw [if_pos rfl, if_neg (show ¬ (1 : Int32) = 0 by decide)]
            exact fin _ _ y4
          · have hp0 : p2 = 0 := (pu_01 hv2).resolve_right hp
            subst hp0
            rw [if_neg (show ¬ (0 : Int32) = 1 by decide), if_pos (show (0 : Int32) = 0 from rfl)]
            by_cases hK0 : K = 0
            · subst hK0
              rw [if_pos (show nI 0 = 0 from rfl), if_pos rfl]
              exact fin _ _ rfl
            · rw [if_neg (show ¬ nI K = 0 by rw [pu_lit 0, nI_eq (by omega) (by omega)]; exact hK0), if_neg hK0, r3, eX, nI_add, pu_lit 1, pk_sub (by omega), pu_gd (by omega) (by omega), nI_clamp (by omega)]
              exact fin _ _ (g8 _ (by omega))
        · have := fun h => hle ((nI_leI (a := K) (b := C - X) (by omega) (by omega)).mp h)
          rw [if_neg this, if_neg this]
          exact ⟨_, _, rfl, rfl, rfl, same⟩
    · rw [pu_f0 hv2, pu_f0 hv2]
      exact ⟨_, _, rfl, rfl, rfl, same⟩
  · rw [pu_f0 hv]
    by_cases hl0 : p1 < 0
    · rw [if_pos hl0]
      exact ⟨_, _, rfl, rfl, rfl, same⟩
    · rw [if_neg hl0, if_pos (show 12 < p1 by rw [pu_lt, z0] at hl0; rw [pu_lt, z12]; omega)]
      exact ⟨_, _, rfl, rfl, rfl, same⟩
