/-! the whole circuit -/
theorem pc_zero {N n : Nat} {tp : Nat → Int32} (hn : n ≤ 130) : ∀ (d i m : Nat) (rd : Nat → Int32), i + d = 83 → d < m → (∀ q, q < i → rd q = 0) → ∃ s0, pq_w (fun _ _ => none) (f_X8_isRead_L2 N (nI n) tp) m (nI i) rd = (if pc_b tp n 0 = 99 then pq_w (fun _ _ _ => none) (f_X8_isRead_L39 N (nI n) tp) N 1 (nI 1) s0 else some (0, nI 0, s0)) ∧ ∀ q, q < 83 → s0 q = 0
  | 0, i, m, rd, h1, h2, h3 => by
    obtain ⟨m, rfl⟩ : ∃ t, m = t + 1 := ⟨m - 1, by omega⟩
    rw [pu_w]
    unfold f_X8_isRead_L2
    rw [if_pos (by rw [pu_lit 83, nI_leI (by omega) (by omega)]; omega)]
    refine ⟨rd, ?_, fun q hq => h3 q (by omega)⟩
    rw [pu_lit 0]
    by_cases c : pc_b tp n 0 = 99
    · rw [pc_t8 hn (Nat.zero_le n) c, pu_cs, if_pos c]
      rfl
    · rw [pc_u8 hn (Nat.zero_le n) c, pu_cs, if_neg c]
      rfl
  | d + 1, i, m, rd, h1, h2, h3 => by
    obtain ⟨m, rfl⟩ : ∃ t, m = t + 1 := ⟨m - 1, by omega⟩
    have ih := pc_zero (N := N) (tp := tp) hn d (i + 1) m (upd rd i 0) (by omega) (by omega) (fun q hq => by
      by_cases c : q = i
      · rw [c, pu_us]
      · rw [pu_un c]; exact h3 q (by omega))
    rw [pu_w]
    generalize pq_w (fun _ _ => none) (f_X8_isRead_L2 N (nI n) tp) m = kk at ih ⊢
    unfold f_X8_isRead_L2
    rw [if_neg (by rw [pu_lit 83, nI_leI (by omega) (by omega)]; omega), pu_gd (by omega) (by omega), pu_l, pu_l, nI_1, nI_clamp (by omega)]
    exact ih
theorem pc_read {N n : Nat} {xb tp rd : Nat → Int32} {pl0 pos0 d0 d1 d2 d3 d4 : Int32} {b0 b1 b2 b3 b4 b5 b6 b7 b8 : Nat → Int32} (hN : 200 < N) (hn : n ≤ 130) (hb : ∀ i, i < n → xb i = tp i) :
    (∃ p' P' J' C' X' S' a0 a1 a2 a3 a4 a5 a6 a7 a8 s', f_X6_readInto N (nI n) pl0 xb d0 d1 d2 d3 d4 b0 b1 b2 b3 b4 b5 b6 b7 b8 = some (0, nI p', P', J', C', X', S', a0, a1, a2, a3, a4, a5, a6, a7, a8) ∧ f_X8_isRead N (nI n) pos0 tp rd = some (0, nI p', s')) ∨
    (∃ p' P J C S a0 a1 a2 a3 a4 a5 a6 a7 a8 s', f_X6_readInto N (nI n) pl0 xb d0 d1 d2 d3 d4 b0 b1 b2 b3 b4 b5 b6 b7 b8 = some (1, nI p', nI P, nI J, nI C, 0, nI S, a0, a1, a2, a3, a4, a5, a6, a7, a8) ∧ f_X8_isRead N (nI n) pos0 tp rd = some (1, nI p', s') ∧ pn_W s' P J C 0 S ∧ pn_C (fun f => if f = 0 then nI P else if f = 1 then nI J else if f = 2 then nI C else if f = 3 then 0 else nI S) (fun f => if f = 0 then a0 else if f = 1 then a1 else if f = 2 then a2 else if f = 3 then a3 else if f = 4 then a4 else if f = 5 then a5 else if f = 6 then a6 else if f = 7 then a7 else a8) s' P J C) := by
  have h10 : (1 : Int32) = 0 ↔ False := ⟨fun e => by revert e; decide, fun e => e.elim⟩
  obtain ⟨s0, e0, z0⟩ := pc_zero (N := N) (tp := tp) hn 83 0 N rd (by omega) (by omega) (fun q hq => absurd hq (by omega))
  have ec : f_X1_clear N d0 d1 d2 d3 d4 = some (0, 0, 0, 0, -4) := rfl
  have er : f_X8_isRead N (nI n) pos0 tp rd = (if pc_b tp n 0 = 99 then pq_w (fun _ _ _ => none) (f_X8_isRead_L39 N (nI n) tp) N 1 (nI 1) s0 else some (0, nI 0, s0)) := e0
  rw [er]
  unfold f_X6_readInto
  rw [ec, pu_cs]
  by_cases c99 : pc_b tp n 0 = 99
  · have hpl := pc_lt c99 (by decide)
    have t : f_X6_takes N (nI n) 0 xb 99 = some (1, nI (0 + 1)) := pc_t6 (p := 0) hn (Nat.zero_le n) hb c99
    rw [if_pos c99, t, pu_cs]
    simp only [h10, if_false]
    have hP0 : pc_P s0 0 b0 b1 b2 := ⟨z0 2 (by omega), fun q hq => absurd hq (by omega)⟩
    rcases pc_par (N := N) hn hb 5 0 N N 1 b0 b1 b2 s0 (by omega) (by omega) (by omega) (by omega) hP0 with ⟨p1, P', k1, g1, w1, s1, c1, c2⟩ | ⟨p1, P, k1, g1, w1, s1, hP, hp1, c1, c2, hPP, hf1⟩
    · have c1' : f_X6_readParties N (nI n) (nI (0 + 1)) xb 0 b0 b1 b2 = some (0, nI p1, P', k1, g1, w1) := c1
      rw [c1', c2, pu_cs]
      simp only [if_true, pu_b0]
      left
      exact ⟨_, _, _, _, _, _, _, _, _, _, _, _, _, _, _, _, rfl, rfl⟩
    · have c1' : f_X6_readParties N (nI n) (nI (0 + 1)) xb 0 b0 b1 b2 = some (1, nI p1, nI P, k1, g1, w1) := c1
      rw [c1', c2, pu_cs]
      simp only [h10, if_false]
      have hJ0 : pc_J s1 P 0 b3 b4 := ⟨by rw [hf1 3 (by omega) (by omega)]; exact z0 3 (by omega), fun q hq => absurd hq (by omega)⟩
      rcases pc_jud (N := N) hn hb (show 1 ≤ P ∧ P ≤ 6 by omega) 5 0 N N p1 b3 b4 s1 (by omega) (by omega) (by omega) hp1 hPP.1 hJ0 with ⟨p2, J', l2, v2, s2, c3, c4⟩ | ⟨p2, J, l2, v2, s2, hJ, hp2, c3, c4, hJJ, hf2⟩
      · have c3' : f_X6_readJudges N (nI n) (nI p1) xb (nI P) 0 b3 b4 = some (0, nI p2, J', l2, v2) := c3
        rw [c3', c4, pu_cs]
        simp only [if_true, pu_b0]
        left
        exact ⟨_, _, _, _, _, _, _, _, _, _, _, _, _, _, _, _, rfl, rfl⟩
      · have c3' : f_X6_readJudges N (nI n) (nI p1) xb (nI P) 0 b3 b4 = some (1, nI p2, nI J, l2, v2) := c3
        rw [c3', c4, pu_cs]
        simp only [h10, if_false]
        have hK0 : pc_K s2 P 0 b5 b6 b7 b8 := ⟨by rw [hf2 4 (by omega) (by omega), hf1 4 (by omega) (by omega)]; exact z0 4 (by omega), fun q hq => absurd hq (by omega)⟩
        rcases pc_cas (N := N) hn hb (show 1 ≤ P ∧ P ≤ 6 by omega) hJ 11 0 N N p2 b5 b6 b7 b8 s2 (by omega) (by omega) (by omega) hp2 (by rw [hf2 2 (by omega) (by omega)]; exact hPP.1) hJJ.1 hK0 with ⟨p3, C', l3, d3', w3, n3, s3, c5, c6⟩ | ⟨p3, C, l3, d3', w3, n3, s3, hC, hp3, c5, c6, hKK, hf3⟩
        · have c5' : f_X6_readCases N (nI n) (nI p2) xb (nI P) 0 b5 b6 b7 b8 = some (0, nI p3, C', l3, d3', w3, n3) := c5
          rw [c5', c6, pu_cs]
          simp only [if_true, pu_b0]
          left
          exact ⟨_, _, _, _, _, _, _, _, _, _, _, _, _, _, _, _, rfl, rfl⟩
        · have c5' : f_X6_readCases N (nI n) (nI p2) xb (nI P) 0 b5 b6 b7 b8 = some (1, nI p3, nI C, l3, d3', w3, n3) := c5
          rw [c5', c6, pu_cs]
          simp only [h10, if_false]
          cases hq : pc_fg tp n p3 (J - 1) with
          | none =>
            rw [pc_z0 hq]
            have f6 : f_X6_figureBelow N (nI n) (nI p3) xb (nI J) = some (-1, nI p3) := pc_g6 (k := J - 1) (m := J) (by omega) (by omega) hn hp3 hb hq
            have es : f_X6_readSits N (nI n) (nI p3) xb (nI J) (-4) = some (0, nI p3, -1) := by
              unfold f_X6_readSits
              rw [f6, pu_cs]
              rfl
            rw [es, pu_cs]
            simp only [if_true, pu_b0]
            left
            exact ⟨_, _, _, _, _, _, _, _, _, _, _, _, _, _, _, _, rfl, rfl⟩
          | some S =>
            rw [pc_z1 hq]
            obtain ⟨hS, hp4, -⟩ := pc_fg_some hq
            have f6 : f_X6_figureBelow N (nI n) (nI p3) xb (nI J) = some (nI S, nI (p3 + 1)) := pc_f6 (k := J - 1) (m := J) (by omega) (by omega) hn hp3 hb hq
            have mS : (nI S < 0) = False := eq_false (nI_pos (by omega))
            have es : f_X6_readSits N (nI n) (nI p3) xb (nI J) (-4) = some (1, nI (p3 + 1), nI S) := by
              unfold f_X6_readSits
              rw [f6, pu_cs]
              simp only [mS, if_false, pu_b1]
            have en : (nI (p3 + 1) = nI n) = (p3 + 1 = n) := propext (nI_eq (by omega) (by omega))
            rw [es, pu_cs]
            simp only [h10, if_false, en, pu_b0, pu_b1]
            by_cases cn : p3 + 1 = n
            · rw [if_pos cn, if_pos cn]
              right
              have o : ∀ q, q ≠ 1 → upd s3 1 (nI S) q = s3 q := fun q hq => pu_un hq
              have o2 : ∀ q, q ≠ 1 → q ≠ 4 → (q < 3 ∨ (3 < q ∧ q < 23)) → upd s3 1 (nI S) q = s1 q := fun q h1 h2 h3 => by rw [o q h1, hf3 q h2 (by omega), hf2 q (by omega) (by omega)]
              have o3 : ∀ q, 23 ≤ q → q < 35 → upd s3 1 (nI S) q = s2 q := fun q h1 h2 => by rw [o q (by omega), hf3 q (by omega) h2]
              refine ⟨p3 + 1, P, J, C, S, _, _, _, _, _, _, _, _, _, upd s3 1 (nI S), rfl, rfl, ?_, ?_⟩
              · refine ⟨hP, hJ, hC, Nat.zero_le C, by omega, ⟨by rw [o2 2 (by omega) (by omega) (by omega)]; exact hPP.1, by rw [o 3 (by omega), hf3 3 (by omega) (by omega)]; exact hJJ.1, by rw [o 4 (by omega)]; exact hKK.1, by rw [o2 0 (by omega) (by omega) (by omega), hf1 0 (by omega) (by omega)]; exact z0 0 (by omega), pu_us⟩, ?_, ?_, ?_, ?_, ?_, ?_, ?_, ?_⟩
                · intro i hi; rw [o2 (5 + i) (by omega) (by omega) (by omega)]; exact (hPP.2 i hi).1
                · intro i hi
                  rw [o2 (11 + i) (by omega) (by omega) (by omega)]
                  obtain ⟨g, hg, eg⟩ := (hPP.2 i hi).2.2.1
                  exact ⟨g, by omega, eg⟩
                · intro i hi; rw [o3 (23 + i) (by omega) (by omega)]; exact (hJJ.2 i hi).1
                · intro i hi; rw [o3 (29 + i) (by omega) (by omega)]; exact (hJJ.2 i hi).2.2.1
                · intro i hi; rw [o (35 + i) (by omega), o (47 + i) (by omega)]; exact (hKK.2 i hi).1
                · intro i hi; rw [o (59 + i) (by omega)]; exact (hKK.2 i hi).2.2.2.1
                · intro i hi; exact absurd hi (by omega)
                · intro i _ hi; rw [o (71 + i) (by omega)]; exact (hKK.2 i hi).2.2.2.2.2.1
              · refine ⟨⟨rfl, rfl, rfl, ?_, pu_us.symm⟩, ?_, ?_, ?_, ?_, ?_, ?_, ?_, ?_, ?_⟩
                · rw [o2 0 (by omega) (by omega) (by omega), hf1 0 (by omega) (by omega), z0 0 (by omega)]
                  rfl
                · intro i hi; show k1 i = _; rw [o2 (5 + i) (by omega) (by omega) (by omega)]; exact (hPP.2 i hi).2.1
                · intro i hi; show g1 i = _; rw [o2 (11 + i) (by omega) (by omega) (by omega)]; exact (hPP.2 i hi).2.2.2.1
                · intro i hi; show w1 i = _; rw [o2 (17 + i) (by omega) (by omega) (by omega), hf1 (17 + i) (by omega) (by omega), z0 (17 + i) (by omega)]; exact (hPP.2 i hi).2.2.2.2
                · intro i hi; show l2 i = _; rw [o3 (23 + i) (by omega) (by omega)]; exact (hJJ.2 i hi).2.1
                · intro i hi; show v2 i = _; rw [o3 (29 + i) (by omega) (by omega)]; exact (hJJ.2 i hi).2.2.2
                · intro i hi; show l3 i = _; rw [o (35 + i) (by omega)]; exact (hKK.2 i hi).2.1
                · intro i hi; show d3' i = _; rw [o (47 + i) (by omega)]; exact (hKK.2 i hi).2.2.1
                · intro i hi; show w3 i = _; rw [o (59 + i) (by omega)]; exact (hKK.2 i hi).2.2.2.2.1
                · intro i hi; show n3 i = _; rw [o (71 + i) (by omega), (hKK.2 i hi).2.2.2.2.2.1]; exact (hKK.2 i hi).2.2.2.2.2.2
            · rw [if_neg cn, if_neg cn]
              left
              exact ⟨_, _, _, _, _, _, _, _, _, _, _, _, _, _, _, _, rfl, rfl⟩
  · have t : f_X6_takes N (nI n) 0 xb 99 = some (0, nI 0) := pc_u6 (p := 0) hn (Nat.zero_le n) hb c99
    rw [if_neg c99, t, pu_cs]
    simp only [if_true, pu_b0]
    left
    exact ⟨_, _, _, _, _, _, _, _, _, _, _, _, _, _, _, _, rfl, rfl⟩
set_option maxHeartbeats 4000000 in
theorem sim_circuit {xI : Nat → Int32} {xA : Nat → Nat → Int32} {xL : Nat → Nat → Int64} {aw : Nat → Nat → Int32} {mI : Nat → Int32} {mA : Nat → Nat → Int32} {mL : Nat → Int64} (hR : pq_R xI xA xL aw mI mA mL) (a0 : Nat → Nat) : ∃ (zc : Int32 × Int32 × Int32 × Int32 × Int32 × Int32 × Int32 × Int32 × Int32 × (Nat → Int32) × (Nat → Int32) × (Nat → Int32) × (Nat → Int32) × (Nat → Int32) × (Nat → Int32) × (Nat → Int32) × (Nat → Int32) × (Nat → Int32) × Nat × Nat) (zm : Int32 × Int32 × Int32 × Int32 × (Nat → Int32) × (Nat → Int32)), f_X7_circuit pq_N a0 (xI 20) (xI 21) (xA 36) (xI 22) (xI 12) (xI 15) (xI 16) (xI 17) (xI 18) (xI 19) (xA 27) (xA 28) (xA 29) (xA 30) (xA 31) (xA 32) (xA 33) (xA 34) (xA 35) = some zc ∧ f_X8_circuit pq_N (mI 3) (mI 5) (mI 12) (mA 4) (mA 6) (mA 7) = some zm ∧ zc.1 = zm.1 ∧ ((zc.2.2.2.2.2.2.2.2.2.2.2.2.2.2.2.2.2.2.1 = a0 6 ∧ zc.2.2.2.2.2.2.2.2.2.2.2.2.2.2.2.2.2.2.2 = a0 7 ∧ pq_R (va_up (va_up (va_up (va_up (va_up (va_up (va_up (va_up xI 20 zc.2.1) 21 zc.2.2.1) 22 zc.2.2.2.1) 15 zc.2.2.2.2.1) 16 zc.2.2.2.2.2.1) 17 zc.2.2.2.2.2.2.1) 18 zc.2.2.2.2.2.2.2.1) 19 zc.2.2.2.2.2.2.2.2.1) (va_up (va_up (va_up (va_up (va_up (va_up (va_up (va_up (va_up xA 27 zc.2.2.2.2.2.2.2.2.2.1) 28 zc.2.2.2.2.2.2.2.2.2.2.1) 29 zc.2.2.2.2.2.2.2.2.2.2.2.1) 30 zc.2.2.2.2.2.2.2.2.2.2.2.2.1) 31 zc.2.2.2.2.2.2.2.2.2.2.2.2.2.1) 32 zc.2.2.2.2.2.2.2.2.2.2.2.2.2.2.1) 33 zc.2.2.2.2.2.2.2.2.2.2.2.2.2.2.2.1) 34 zc.2.2.2.2.2.2.2.2.2.2.2.2.2.2.2.2.1) 35 zc.2.2.2.2.2.2.2.2.2.2.2.2.2.2.2.2.2.1) xL aw (va_up (va_up (va_up mI 3 zm.2.1) 5 zm.2.2.1) 12 zm.2.2.2.1) (va_up (va_up mA 6 zm.2.2.2.2.1) 7 zm.2.2.2.2.2) mL) ∨ (zc.2.2.2.2.2.2.2.2.2.2.2.2.2.2.2.2.2.2.1 = a0 7 ∧ zc.2.2.2.2.2.2.2.2.2.2.2.2.2.2.2.2.2.2.2 = a0 6 ∧ pq_R (pq_swI (va_up (va_up (va_up (va_up (va_up (va_up (va_up (va_up xI 20 zc.2.1) 21 zc.2.2.1) 22 zc.2.2.2.1) 15 zc.2.2.2.2.1) 16 zc.2.2.2.2.2.1) 17 zc.2.2.2.2.2.2.1) 18 zc.2.2.2.2.2.2.2.1) 19 zc.2.2.2.2.2.2.2.2.1)) (pq_swA (va_up (va_up (va_up (va_up (va_up (va_up (va_up (va_up (va_up xA 27 zc.2.2.2.2.2.2.2.2.2.1) 28 zc.2.2.2.2.2.2.2.2.2.2.1) 29 zc.2.2.2.2.2.2.2.2.2.2.2.1) 30 zc.2.2.2.2.2.2.2.2.2.2.2.2.1) 31 zc.2.2.2.2.2.2.2.2.2.2.2.2.2.1) 32 zc.2.2.2.2.2.2.2.2.2.2.2.2.2.2.1) 33 zc.2.2.2.2.2.2.2.2.2.2.2.2.2.2.2.1) 34 zc.2.2.2.2.2.2.2.2.2.2.2.2.2.2.2.2.1) 35 zc.2.2.2.2.2.2.2.2.2.2.2.2.2.2.2.2.2.1)) xL aw (va_up (va_up (va_up mI 3 zm.2.1) 5 zm.2.2.1) 12 zm.2.2.2.1) (va_up (va_up mA 6 zm.2.2.2.2.1) 7 zm.2.2.2.2.2) mL)) := by
  obtain ⟨t1, ⟨t2, t3⟩, t4⟩ := hR.tape
  obtain ⟨n, hn, en⟩ := pu_le (n := 130) t2 (by omega)
  have tn : (nI n).toInt = n := nI_toInt (by omega)
  rw [en, tn] at t4
  have hbt : ∀ i, i < n → xA 36 i = mA 4 i := fun i hi => t4 i (by omega)
  have hN := pu_N2
  unfold f_X7_circuit f_X8_circuit
  rw [t1, en]
  have z0 : (0 : Int32).toInt = 0 := rfl
  rcases pc_read (N := pq_N) (n := n) (xb := xA 36) (tp := mA 4) (rd := mA 7) (pl0 := xI 21) (pos0 := mI 5) (d0 := xI 15) (d1 := xI 16) (d2 := xI 17) (d3 := xI 18) (d4 := xI 19) (b0 := xA 27) (b1 := xA 28) (b2 := xA 29) (b3 := xA 30) (b4 := xA 31) (b5 := xA 32) (b6 := xA 33) (b7 := xA 34) (b8 := xA 35) (by omega) hn hbt with ⟨p', P', J', C', X', S', a0', a1, a2, a3, a4, a5, a6, a7, a8, s', e1, e2⟩ | ⟨p', P, J, C, S, a0', a1, a2, a3, a4, a5, a6, a7, a8, s', e1, e2, hW, hC⟩
  · rw [e1, e2, pu_cs, pu_cs]
    dsimp only
    rw [if_pos rfl, if_pos rfl]
    refine ⟨_, _, rfl, rfl, rfl, Or.inl ⟨rfl, rfl, ?_⟩⟩
    dsimp only
    refine ⟨⟨?_, ?_, ?_⟩, pq_kN hR (fun f hf => by simp (disch := omega) only [pu_vo]) (fun f hf => by simp (disch := omega) only [pu_vo]) (by simp (disch := omega) only [pu_vo, pu_vs]), pq_kI hR (fun f hf => by simp (disch := omega) only [pu_vo]) (fun f hf => by simp (disch := omega) only [pu_vo]) (by simp (disch := omega) only [pu_vo]) (by simp (disch := omega) only [pu_vo]), pq_kH hR (by simp (disch := omega) only [pu_vo, pu_vs]) (by simp (disch := omega) only [pu_vo]) (by simp (disch := omega) only [pu_vo, pu_vs]) rfl (by simp (disch := omega) only [pu_vo, pu_vs]) (by simp (disch := omega) only [pu_vo]), pq_kS hR (fun k h1 h2 => by simp (disch := omega) only [pu_vo]) (fun k hk => rfl) (by simp (disch := omega) only [pu_vo]) (by simp (disch := omega) only [pu_vo]) rfl⟩
    · simp (disch := omega) only [pu_vo, pu_vs]
    · simp (disch := omega) only [pu_vo, pu_vs]
      rw [z0]
      omega
    · intro i hi
      simp (disch := omega) only [pu_vo, pu_vs] at hi
      rw [z0] at hi
      omega
  · have eb : f_X8_bring pq_N 83 83 s' (mA 6) 0 0 83 = some (pn_br s' (mA 6) 0 0 83) := pu_bring (i := 0) (j := 0) (n := 83) (by omega) (by omega) (by omega) (by omega) (by omega)
    rw [e1, e2, pu_cs, pu_cs]
    dsimp only
    rw [if_neg (by decide), if_neg (by decide), eb, pu_cs, pq_gd_i (i := 4) (by decide)]
    obtain ⟨q1, q2, q3, q4⟩ := pu_hist hR
    have hWn : pn_W (pn_br s' (mA 6) 0 0 83) P J C 0 S := pn_W_cg (fun i hi => pn_br_83 i hi) hW
    obtain ⟨⟨p1, p2⟩, ⟨j1, j2⟩, ⟨c1, c2⟩, x2, s2, ⟨eP, eJ, eC, eX, eS⟩, -⟩ := id hW
    have hCn := pn_C_cg (x' := fun f => if f = 0 then nI P else if f = 1 then nI J else if f = 2 then nI C else if f = 3 then 0 else nI S) (a' := fun f => if f = 0 then a0' else if f = 1 then a1 else if f = 2 then a2 else if f = 3 then a3 else if f = 4 then a4 else if f = 5 then a5 else if f = 6 then a6 else if f = 7 then a7 else a8) (t := pn_br s' (mA 6) 0 0 83) p2 j2 c2 hC (fun f hf => rfl) (fun f hf i hi => rfl) (fun f h1 h2 i hi => rfl) (fun i hi => pn_br_83 i hi)
    have hrc := pn_C.rc hWn hCn
    refine ⟨_, _, rfl, rfl, ?_, Or.inr ⟨rfl, rfl, ?_⟩⟩
    · show nI C = pn_br s' (mA 6) 0 0 83 4
      rw [pn_br_83 4 (by omega), eC]
    · dsimp only
      refine ⟨⟨?_, ?_, ?_⟩, ⟨?_, Or.inr ?_⟩, pq_kI hR (fun k hk => ?_) (fun k hk => ?_) (by simp (disch := omega) only [pu_vo]) (by simp (disch := omega) only [pu_vo]), ⟨?_, ?_⟩, pq_kS hR (fun k h1 h2 => ?_) (fun k hk => rfl) (by simp (disch := omega) only [pu_vo]) (by simp (disch := omega) only [pu_vo]) rfl⟩
      · unfold pq_swI
        rw [if_neg (by omega), if_neg (by omega)]
        simp (disch := omega) only [pu_vo, pu_vs]
      · simp (disch := omega) only [pu_vo, pu_vs]
        rw [z0]
        omega
      · intro i hi
        simp (disch := omega) only [pu_vo, pu_vs] at hi
        rw [z0] at hi
        omega
      · have em : va_up (va_up mA 6 (pn_br s' (mA 6) 0 0 83)) 7 s' 6 = pn_br s' (mA 6) 0 0 83 := by simp (disch := omega) only [pu_vo, pu_vs]
        rw [em]
        refine pq_rc_cg (x := fun f => if f = 0 then nI P else if f = 1 then nI J else if f = 2 then nI C else if f = 3 then 0 else nI S) (a := fun f => if f = 0 then a0' else if f = 1 then a1 else if f = 2 then a2 else if f = 3 then a3 else if f = 4 then a4 else if f = 5 then a5 else if f = 6 then a6 else if f = 7 then a7 else a8) (fun f hf => ?_) (fun f hf => ?_) hrc
        · rcases (show f = 0 ∨ f = 1 ∨ f = 2 ∨ f = 3 ∨ f = 4 by omega) with rfl | rfl | rfl | rfl | rfl <;> rfl
        · rcases (show f = 0 ∨ f = 1 ∨ f = 2 ∨ f = 3 ∨ f = 4 ∨ f = 5 ∨ f = 6 ∨ f = 7 ∨ f = 8 by omega) with rfl | rfl | rfl | rfl | rfl | rfl | rfl | rfl | rfl <;> rfl
      · have em : va_up (va_up mA 6 (pn_br s' (mA 6) 0 0 83)) 7 s' 6 = pn_br s' (mA 6) 0 0 83 := by simp (disch := omega) only [pu_vo, pu_vs]
        rw [em]
        exact hWn.wf
      · unfold pq_swI
        rw [if_neg (by omega), if_neg (by omega)]
        simp (disch := omega) only [pu_vo]
      · unfold pq_swA
        rw [if_neg (by omega), if_neg (by omega)]
        simp (disch := omega) only [pu_vo]
      · unfold pq_swI
        rw [if_neg (by omega), if_neg (by omega)]
        simp (disch := omega) only [pu_vo, pu_vs]
      · obtain ⟨hK, -, e23, -, hh⟩ := q4
        have e22 : ∀ Y : Nat → Int32, pq_swI Y 22 = Y 22 := fun Y => rfl
        have e23' : ∀ Y : Nat → Int32, pq_swI Y 23 = Y 23 := fun Y => rfl
        rw [e22, e23']
        simp (disch := omega) only [pu_vo, pu_vs]
        refine ⟨by rw [z0]; omega, ?_, fun j hj => absurd hj (by rw [z0]; omega)⟩
        rw [e23, nI_toInt (by omega)]
        omega
      · unfold pq_swI
        rw [if_neg (by omega), if_neg (by omega)]
        simp (disch := omega) only [pu_vo]
