/-! ===== copy ===== -/
theorem pn_cpy_0 {f : Nat → Int64} {sp dp : Nat} : va_cpy f f sp dp 0 = f := by
  funext k
  unfold va_cpy
  rw [if_neg (by omega)]
theorem pn_cpy_s {f : Nat → Int64} {sp dp q : Nat} (h : sp + q < dp ∨ dp ≤ sp) : vp_updL (va_cpy f f sp dp q) (dp + q) (va_cpy f f sp dp q (sp + q)) = va_cpy f f sp dp (q + 1) := by
  have e : va_cpy f f sp dp q (sp + q) = f (sp + q) := by
    unfold va_cpy
    rw [if_neg (by omega)]
  rw [e]
  funext k
  by_cases g : k = dp + q
  · subst g
    rw [pu_ul]
    unfold va_cpy
    rw [if_pos (by omega), show sp + (dp + q - dp) = sp + q by omega]
  · rw [pu_ulo g]
    unfold va_cpy
    by_cases g2 : dp ≤ k ∧ k < dp + q
    · rw [if_pos g2, if_pos (by omega)]
    · rw [if_neg g2, if_neg (by omega)]
def pn_cpb (f : Nat → Int64) (sp dp n q : Nat) : Nat → Int64 := fun k => if dp + (n - q) ≤ k ∧ k < dp + n then f (sp + (k - dp)) else f k
theorem pn_cpb_0 {f : Nat → Int64} {sp dp n : Nat} : pn_cpb f sp dp n 0 = f := by
  funext k
  unfold pn_cpb
  rw [if_neg (by omega)]
theorem pn_cpb_n {f : Nat → Int64} {sp dp n : Nat} : pn_cpb f sp dp n n = va_cpy f f sp dp n := by
  funext k
  unfold pn_cpb va_cpy
  rw [show dp + (n - n) = dp by omega]
theorem pn_cpb_s {f : Nat → Int64} {sp dp n q : Nat} (hq : q < n) (h : sp ≤ dp) : vp_updL (pn_cpb f sp dp n q) (dp + (n - 1 - q)) (pn_cpb f sp dp n q (sp + (n - 1 - q))) = pn_cpb f sp dp n (q + 1) := by
  have e : pn_cpb f sp dp n q (sp + (n - 1 - q)) = f (sp + (n - 1 - q)) := by
    unfold pn_cpb
    rw [if_neg (by omega)]
  rw [e]
  funext k
  by_cases g : k = dp + (n - 1 - q)
  · subst g
    rw [pu_ul]
    unfold pn_cpb
    rw [if_pos (by omega), show sp + (dp + (n - 1 - q) - dp) = sp + (n - 1 - q) by omega]
  · rw [pu_ulo g]
    unfold pn_cpb
    by_cases g2 : dp + (n - q) ≤ k ∧ k < dp + n
    · rw [if_pos g2, if_pos (by omega)]
    · rw [if_neg g2, if_neg (by omega)]
theorem pu_copy0_loop {N k m i j n : Nat} {f : Nat → Int64} (hk : k < 4) (hm : m < 4) (hi : i + n ≤ 24) (hj : j + n ≤ 24) (h : 24 * k + i + n ≤ 24 * m + j ∨ 24 * m + j ≤ 24 * k + i) : ∀ (d q t : Nat), q + d = n → d < t → pq_w (fun _ _ => none) (f_X8_copy_L110 N (nI k) (nI i) (nI m) (nI j) (nI n) 0) t (nI q) (va_cpy f f (24 * k + i) (24 * m + j) q) = some (nI n, va_cpy f f (24 * k + i) (24 * m + j) n)
  | 0, q, t, e1, e2 => by
    obtain ⟨t, rfl⟩ : ∃ u, t = u + 1 := ⟨t - 1, by omega⟩
    rw [pu_w]
    unfold f_X8_copy_L110
    rw [if_pos (by rw [nI_leI (by omega) (by omega)]; omega), show q = n by omega]
  | d + 1, q, t, e1, e2 => by
    obtain ⟨t, rfl⟩ : ∃ u, t = u + 1 := ⟨t - 1, by omega⟩
    have ih := pu_copy0_loop (N := N) (f := f) hk hm hi hj h d (q + 1) t (by omega) (by omega)
    rw [pu_w]
    generalize pq_w (fun _ _ => none) (f_X8_copy_L110 N (nI k) (nI i) (nI m) (nI j) (nI n) 0) t = kk at ih ⊢
    unfold f_X8_copy_L110
    rw [if_neg (by rw [nI_leI (by omega) (by omega)]; omega), pu_j, if_pos rfl]
    simp (disch := omega) only [pu_lit 24, pk_mul, nI_add, pu_gd, nI_clamp, pu_l, nI_1]
    rw [pn_cpy_s (by omega)]
    exact ih
theorem pu_copy1_loop {N k m i j n : Nat} {f : Nat → Int64} (hk : k < 4) (hm : m < 4) (hi : i + n ≤ 24) (hj : j + n ≤ 24) (h : 24 * k + i ≤ 24 * m + j) : ∀ (d q t : Nat), q + d = n → d < t → pq_w (fun _ _ => none) (f_X8_copy_L110 N (nI k) (nI i) (nI m) (nI j) (nI n) 1) t (nI q) (pn_cpb f (24 * k + i) (24 * m + j) n q) = some (nI n, va_cpy f f (24 * k + i) (24 * m + j) n)
  | 0, q, t, e1, e2 => by
    obtain ⟨t, rfl⟩ : ∃ u, t = u + 1 := ⟨t - 1, by omega⟩
    rw [pu_w]
    unfold f_X8_copy_L110
    rw [if_pos (by rw [nI_leI (by omega) (by omega)]; omega), show q = n by omega, pn_cpb_n]
  | d + 1, q, t, e1, e2 => by
    obtain ⟨t, rfl⟩ : ∃ u, t = u + 1 := ⟨t - 1, by omega⟩
    have ih := pu_copy1_loop (N := N) (f := f) hk hm hi hj h d (q + 1) t (by omega) (by omega)
    rw [pu_w]
    generalize pq_w (fun _ _ => none) (f_X8_copy_L110 N (nI k) (nI i) (nI m) (nI j) (nI n) 1) t = kk at ih ⊢
    unfold f_X8_copy_L110
    rw [if_neg (by rw [nI_leI (by omega) (by omega)]; omega), pu_j, if_neg (show ¬ (1 : Int32) = 0 by decide), pu_lit 1, pk_sub (show 1 ≤ n by omega), pk_sub (show q ≤ n - 1 by omega)]
    simp (disch := omega) only [pu_lit 24, pk_mul, nI_add, pu_gd, nI_clamp, pu_l]
    rw [pn_cpb_s (by omega) h]
    exact ih
set_option maxHeartbeats 4000000 in
theorem sim_copy {xI : Nat → Int32} {xA : Nat → Nat → Int32} {xL : Nat → Nat → Int64} {aw : Nat → Nat → Int32} {mI : Nat → Int32} {mA : Nat → Nat → Int32} {mL : Nat → Int64} (hR : pq_R xI xA xL aw mI mA mL) (p1 : Int32) (p2 : Int32) (p3 : Int32) (p4 : Int32) (p5 : Int32) : ∃ (zc : Int32 × (Nat → Int64) × (Nat → Int64) × (Nat → Int64) × (Nat → Int64)) (zm : Int32 × (Nat → Int64)), f_X7_copy pq_N (xI 25) (xI 26) (xI 27) (xL 0) (xI 28) (xI 29) (xI 30) (xL 1) (xI 31) (xI 32) (xI 33) (xL 2) (xI 34) (xI 35) (xI 36) (xL 3) p1 p2 p3 p4 p5 = some zc ∧ f_X8_copy pq_N (mA 0) (mA 1) mL p1 p2 p3 p4 p5 = some zm ∧ zc.1 = zm.1 ∧ pq_R xI xA (va_up (va_up (va_up (va_up xL 0 zc.2.1) 1 zc.2.2.1) 2 zc.2.2.2.1) 3 zc.2.2.2.2) aw mI mA zm.2 := by
  have same : pq_R xI xA (va_up (va_up (va_up (va_up xL 0 (xL 0)) 1 (xL 1)) 2 (xL 2)) 3 (xL 3)) aw mI mA mL := by
    simp only [pu_vid]; exact hR
  unfold f_X7_copy f_X8_copy
  rw [pu_sheet7, pu_cs, pu_sheet8, pu_cs, pu_sheet7, pu_cs, pu_sheet8, pu_cs]
  have z0 : (0 : Int32).toInt = 0 := rfl
  by_cases hv : 0 ≤ p1.toInt ∧ p1.toInt < 4
  · rw [pu_f1 hv, pu_f1 hv]
    by_cases hv3 : 0 ≤ p3.toInt ∧ p3.toInt < 4
    · rw [pu_f1 hv3, pu_f1 hv3]
      obtain ⟨k, hk, ek⟩ := pu_k4 hv
      obtain ⟨m, hm, em⟩ := pu_k4 hv3
      rw [ek, em]
      have key : ∀ (G : (Nat → Int64) → Int32 × (Nat → Int64) × (Nat → Int64) × (Nat → Int64) × (Nat → Int64)), (∀ q, (G q).1 = p5 ∧ ∀ j, j < 4 → va_up (va_up (va_up (va_up xL 0 (G q).2.1) 1 (G q).2.2.1) 2 (G q).2.2.2.1) 3 (G q).2.2.2.2 j = va_up xL m q j) → ∃ zc zm, (if xI (25 + 3 * k) = 0 then some ((-11 : Int32), xL 0, xL 1, xL 2, xL 3) else (if xI (25 + 3 * m) = 0 then some ((-11 : Int32), xL 0, xL 1, xL 2, xL 3) else (if xI (26 + 3 * k) = xI (26 + 3 * m) then pq_c (f_X5_reaches pq_N (xI (27 + 3 * k)) p2 p5) (fun r_5 => (if r_5 = 0 then some ((-13 : Int32), xL 0, xL 1, xL 2, xL 3) else pq_c (f_X5_reaches pq_N (xI (27 + 3 * m)) p4 p5) (fun r_6 => (if r_6 = 0 then some ((-13 : Int32), xL 0, xL 1, xL 2, xL 3) else pq_cp p2 p4 p5 24 24 (pq_l (va_cpy (xL k) (xL m) (p2 : Int32).toNatClampNeg (p4 : Int32).toNatClampNeg (p5 : Int32).toNatClampNeg) (fun q => some (G q))))))) else some ((-12 : Int32), xL 0, xL 1, xL 2, xL 3)))) = some zc ∧ (pq_gd (nI k) 4 ((if (mA 0 (nI k : Int32).toNatClampNeg) < 0 then some ((-11), mL) else pq_gd (nI m) 4 ((if 0 ≤ (mA 0 (nI m : Int32).toNatClampNeg) then pq_gd (nI k) 4 (pq_gd (nI m) 4 ((if (mA 0 (nI k : Int32).toNatClampNeg) = (mA 0 (nI m : Int32).toNatClampNeg) then pq_gd (nI k) 4 (pq_c (f_X8_isPart pq_N p2 p5 (mA 1 (nI k : Int32).toNatClampNeg)) (fun r_3 => (if r_3 = 0 then some ((-13), mL) else pq_gd (nI m) 4 (pq_c (f_X8_isPart pq_N p4 p5 (mA 1 (nI m : Int32).toNatClampNeg)) (fun r_4 => (if r_4 = 0 then some ((-13), mL) else pq_j (fun (y0_J105 : Int32) => (pq_w (fun _ _ => none) (f_X8_copy_L110 pq_N (nI k) p2 (nI m) p4 p5 y0_J105) pq_N 0 mL : Option (Int32 × (Nat → Int64)))) (fun kJ105 => pq_j (kJ105 0 : Option (Int32 × (Nat → Int64))) (fun kJ104 => (if nI k = nI m then (if p4 ≤ p2 then kJ104 else kJ105 1) else kJ104))))))))) else some ((-12), mL)))) else some ((-11), mL)))))) = some zm ∧ zc.1 = zm.1 ∧ pq_R xI xA (va_up (va_up (va_up (va_up xL 0 zc.2.1) 1 zc.2.2.1) 2 zc.2.2.2.1) 3 zc.2.2.2.2) aw mI mA zm.2 := by
        intro G hG
        simp (disch := omega) only [pu_gd, nI_clamp, pu_j]
        rcases pu_lanes (hR.shs k hk) with ⟨a1, a2⟩ | ⟨a1, a2, a3, a4, a5, ZK, aZ, aE⟩
        · rw [if_pos a1, if_pos (show mA 0 k < 0 by rw [pu_lt, z0]; omega)]
          exact ⟨_, _, rfl, rfl, rfl, same⟩
        rw [if_neg (show ¬ xI (25 + 3 * k) = 0 by rw [a1]; decide), if_neg (show ¬ mA 0 k < 0 by rw [pu_lt, z0]; omega)]
        rcases pu_lanes (hR.shs m hm) with ⟨b1, b2⟩ | ⟨b1, b2, b3, b4, b5, ZM, bZ, bE⟩
        · rw [if_pos b1, if_neg (show ¬ 0 ≤ mA 0 m by rw [pu_lei, z0]; omega)]
          exact ⟨_, _, rfl, rfl, rfl, same⟩
        rw [if_neg (show ¬ xI (25 + 3 * m) = 0 by rw [b1]; decide), if_pos (show 0 ≤ mA 0 m by rw [pu_lei, z0]; omega), a2, b2, a3, b3]
        by_cases hl : xI (26 + 3 * k) = xI (26 + 3 * m)
        · have tk : (xI (27 + 3 * k)).toInt = ZK := by rw [aE]; exact nI_toInt (by omega)
          have tm : (xI (27 + 3 * m)).toInt = ZM := by rw [bE]; exact nI_toInt (by omega)
          rw [if_pos hl, if_pos hl, pu_reaches (by omega), pu_cs, pu_isPart (by omega), pu_cs, pu_reaches (by omega), pu_cs, pu_isPart (by omega), pu_cs]
          by_cases g : 0 ≤ p2.toInt ∧ 0 ≤ p5.toInt ∧ p2.toInt + p5.toInt ≤ (xI (27 + 3 * k)).toInt
          · rw [pu_f1 g, pu_f1 g]
            by_cases g' : 0 ≤ p4.toInt ∧ 0 ≤ p5.toInt ∧ p4.toInt + p5.toInt ≤ (xI (27 + 3 * m)).toInt
            · rw [pu_f1 g', pu_f1 g']
              obtain ⟨i, hi, ei⟩ := pu_le (n := 24) (x := p2) g.1 (by omega)
              obtain ⟨n, hn, en⟩ := pu_le (n := 24) (x := p5) g.2.1 (by omega)
              obtain ⟨j, hj, ej⟩ := pu_le (n := 24) (x := p4) g'.1 (by omega)
              have ti : p2.toInt = i := by rw [ei]; exact nI_toInt (by omega)
              have tn : p5.toInt = n := by rw [en]; exact nI_toInt (by omega)
              have tj : p4.toInt = j := by rw [ej]; exact nI_toInt (by omega)
              have hcp : ∀ (w : Option (Int32 × (Nat → Int64) × (Nat → Int64) × (Nat → Int64) × (Nat → Int64))), pq_cp p2 p4 p5 24 24 w = w := fun w => if_pos (by rw [ti, tn, tj]; omega)
              rw [hcp, pu_l, ei, ej, en, nI_clamp (by omega), nI_clamp (by omega), nI_clamp (by omega)]
              have hmod : (if nI k = nI m then (if nI j ≤ nI i then pq_w (fun _ _ => none) (f_X8_copy_L110 pq_N (nI k) (nI i) (nI m) (nI j) (nI n) 0) pq_N 0 mL else pq_w (fun _ _ => none) (f_X8_copy_L110 pq_N (nI k) (nI i) (nI m) (nI j) (nI n) 1) pq_N 0 mL) else pq_w (fun _ _ => none) (f_X8_copy_L110 pq_N (nI k) (nI i) (nI m) (nI j) (nI n) 0) pq_N 0 mL) = some (nI n, va_cpy mL mL (24 * k + i) (24 * m + j) n) := by
                have l0 : (24 * k + i + n ≤ 24 * m + j ∨ 24 * m + j ≤ 24 * k + i) → pq_w (fun _ _ => none) (f_X8_copy_L110 pq_N (nI k) (nI i) (nI m) (nI j) (nI n) 0) pq_N 0 mL = some (nI n, va_cpy mL mL (24 * k + i) (24 * m + j) n) := by
                  intro h
                  have e := pu_copy0_loop (N := pq_N) (f := mL) (n := n) (i := i) (j := j) hk hm (by omega) (by omega) h n 0 pq_N (by omega) (by have := pu_N2; omega)
                  rw [pn_cpy_0, nI_0] at e
                  exact e
                by_cases hkm : k = m
                · rw [if_pos (by rw [hkm])]
                  by_cases hji : j ≤ i
                  · rw [if_pos ((nI_leI (by omega) (by omega)).mpr hji)]
                    exact l0 (by omega)
                  · rw [if_neg (by rw [nI_leI (by omega) (by omega)]; exact hji)]
                    have e := pu_copy1_loop (N := pq_N) (f := mL) (n := n) (i := i) (j := j) hk hm (by omega) (by omega) (by omega) n 0 pq_N (by omega) (by have := pu_N2; omega)
                    rw [pn_cpb_0, nI_0] at e
                    exact e
                · rw [if_neg (by rw [nI_eq (by omega) (by omega)]; exact hkm)]
                  exact l0 (by omega)
              rw [hmod]
              obtain ⟨g1, g2⟩ := hG (va_cpy (xL k) (xL m) i j n)
              refine ⟨_, _, rfl, rfl, by rw [g1, en], hR.1, hR.2.1, hR.2.2.1, hR.2.2.2.1, ?_⟩
              have sk : ∀ q, q < 24 → xL k q = mL (24 * k + q) := by
                rcases hR.shs k hk with ⟨c1, -⟩ | ⟨-, -, -, -, -, c6⟩
                · rw [c1] at a1
                  exact absurd a1 (by decide)
                · exact c6
              have sm : ∀ q, q < 24 → xL m q = mL (24 * m + q) := by
                rcases hR.shs m hm with ⟨c1, -⟩ | ⟨-, -, -, -, -, c6⟩
                · rw [c1] at b1
                  exact absurd b1 (by decide)
                · exact c6
              refine pq_kX hR g2 ?_ ?_ b1
              · intro q hq
                show va_cpy (xL k) (xL m) i j n q = va_cpy mL mL (24 * k + i) (24 * m + j) n (24 * m + q)
                unfold va_cpy
                by_cases c : j ≤ q ∧ q < j + n
                · rw [if_pos c, if_pos (by omega), sk _ (by omega)]
                  congr 1
                  omega
                · rw [if_neg c, if_neg (by omega), sm q hq]
              · intro j' hj' hne q hq
                show va_cpy mL mL (24 * k + i) (24 * m + j) n (24 * j' + q) = _
                unfold va_cpy
                rw [if_neg (by omega)]
            · rw [pu_f0 g', pu_f0 g']
              exact ⟨_, _, rfl, rfl, rfl, same⟩
          · rw [pu_f0 g, pu_f0 g]
            exact ⟨_, _, rfl, rfl, rfl, same⟩
        · rw [if_neg hl, if_neg hl]
          exact ⟨_, _, rfl, rfl, rfl, same⟩
      rw [pu_gd (i := k) (n := 4) (α := Int32 × (Nat → Int64) × (Nat → Int64) × (Nat → Int64) × (Nat → Int64)) hk (by omega)]
      rcases (show k = 0 ∨ k = 1 ∨ k = 2 ∨ k = 3 by omega) with rfl | rfl | rfl | rfl
      · rw [if_pos (show nI 0 = 0 from rfl), pu_gd (i := m) (n := 4) (α := Int32 × (Nat → Int64) × (Nat → Int64) × (Nat → Int64) × (Nat → Int64)) hm (by omega)]
        rcases (show m = 0 ∨ m = 1 ∨ m = 2 ∨ m = 3 by omega) with rfl | rfl | rfl | rfl
        · rw [if_pos (show nI 0 = 0 from rfl)]
          refine key (fun q => _) ?_
          intro q
          refine ⟨rfl, fun j hj => ?_⟩
          rcases (show j = 0 ∨ j = 1 ∨ j = 2 ∨ j = 3 by omega) with rfl | rfl | rfl | rfl <;> rfl
        · rw [if_neg (show ¬ nI 1 = 0 by decide), if_pos (show nI 1 = 1 from rfl)]
          refine key (fun q => _) ?_
          intro q
          refine ⟨rfl, fun j hj => ?_⟩
          rcases (show j = 0 ∨ j = 1 ∨ j = 2 ∨ j = 3 by omega) with rfl | rfl | rfl | rfl <;> rfl
        · rw [if_neg (show ¬ nI 2 = 0 by decide), if_neg (show ¬ nI 2 = 1 by decide), if_pos (show nI 2 = 2 from rfl)]
          refine key (fun q => _) ?_
          intro q
          refine ⟨rfl, fun j hj => ?_⟩
          rcases (show j = 0 ∨ j = 1 ∨ j = 2 ∨ j = 3 by omega) with rfl | rfl | rfl | rfl <;> rfl
        · rw [if_neg (show ¬ nI 3 = 0 by decide), if_neg (show ¬ nI 3 = 1 by decide), if_neg (show ¬ nI 3 = 2 by decide), if_pos (show nI 3 = 3 from rfl)]
          refine key (fun q => _) ?_
          intro q
          refine ⟨rfl, fun j hj => ?_⟩
          rcases (show j = 0 ∨ j = 1 ∨ j = 2 ∨ j = 3 by omega) with rfl | rfl | rfl | rfl <;> rfl
      · rw [if_neg (show ¬ nI 1 = 0 by decide), if_pos (show nI 1 = 1 from rfl), pu_gd (i := m) (n := 4) (α := Int32 × (Nat → Int64) × (Nat → Int64) × (Nat → Int64) × (Nat → Int64)) hm (by omega)]
        rcases (show m = 0 ∨ m = 1 ∨ m = 2 ∨ m = 3 by omega) with rfl | rfl | rfl | rfl
        · rw [if_pos (show nI 0 = 0 from rfl)]
          refine key (fun q => _) ?_
          intro q
          refine ⟨rfl, fun j hj => ?_⟩
          rcases (show j = 0 ∨ j = 1 ∨ j = 2 ∨ j = 3 by omega) with rfl | rfl | rfl | rfl <;> rfl
        · rw [if_neg (show ¬ nI 1 = 0 by decide), if_pos (show nI 1 = 1 from rfl)]
          refine key (fun q => _) ?_
          intro q
          refine ⟨rfl, fun j hj => ?_⟩
          rcases (show j = 0 ∨ j = 1 ∨ j = 2 ∨ j = 3 by omega) with rfl | rfl | rfl | rfl <;> rfl
        · rw [if_neg (show ¬ nI 2 = 0 by decide), if_neg (show ¬ nI 2 = 1 by decide), if_pos (show nI 2 = 2 from rfl)]
          refine key (fun q => _) ?_
          intro q
          refine ⟨rfl, fun j hj => ?_⟩
          rcases (show j = 0 ∨ j = 1 ∨ j = 2 ∨ j = 3 by omega) with rfl | rfl | rfl | rfl <;> rfl
        · rw [if_neg (show ¬ nI 3 = 0 by decide), if_neg (show ¬ nI 3 = 1 by decide), if_neg (show ¬ nI 3 = 2 by decide), if_pos (show nI 3 = 3 from rfl)]
          refine key (fun q => _) ?_
          intro q
          refine ⟨rfl, fun j hj => ?_⟩
          rcases (show j = 0 ∨ j = 1 ∨ j = 2 ∨ j = 3 by omega) with rfl | rfl | rfl | rfl <;> rfl
      · rw [if_neg (show ¬ nI 2 = 0 by decide), if_neg (show ¬ nI 2 = 1 by decide), if_pos (show nI 2 = 2 from rfl), pu_gd (i := m) (n := 4) (α := Int32 × (Nat → Int64) × (Nat → Int64) × (Nat → Int64) × (Nat → Int64)) hm (by omega)]
        rcases (show m = 0 ∨ m = 1 ∨ m = 2 ∨ m = 3 by omega) with rfl | rfl | rfl | rfl
        · rw [if_pos (show nI 0 = 0 from rfl)]
          refine key (fun q => _) ?_
          intro q
          refine ⟨rfl, fun j hj => ?_⟩
          rcases (show j = 0 ∨ j = 1 ∨ j = 2 ∨ j = 3 by omega) with rfl | rfl | rfl | rfl <;> rfl
        · rw [if_neg (show ¬ nI 1 = 0 by decide), if_pos (show nI 1 = 1 from rfl)]
          refine key (fun q => _) ?_
          intro q
          refine ⟨rfl, fun j hj => ?_⟩
          rcases (show j = 0 ∨ j = 1 ∨ j = 2 ∨ j = 3 by omega) with rfl | rfl | rfl | rfl <;> rfl
        · rw [if_neg (show ¬ nI 2 = 0 by decide), if_neg (show ¬ nI 2 = 1 by decide), if_pos (show nI 2 = 2 from rfl)]
          refine key (fun q => _) ?_
          intro q
          refine ⟨rfl, fun j hj => ?_⟩
          rcases (show j = 0 ∨ j = 1 ∨ j = 2 ∨ j = 3 by omega) with rfl | rfl | rfl | rfl <;> rfl
        · rw [if_neg (show ¬ nI 3 = 0 by decide), if_neg (show ¬ nI 3 = 1 by decide), if_neg (show ¬ nI 3 = 2 by decide), if_pos (show nI 3 = 3 from rfl)]
          refine key (fun q => _) ?_
          intro q
          refine ⟨rfl, fun j hj => ?_⟩
          rcases (show j = 0 ∨ j = 1 ∨ j = 2 ∨ j = 3 by omega) with rfl | rfl | rfl | rfl <;> rfl
      · rw [if_neg (show ¬ nI 3 = 0 by decide), if_neg (show ¬ nI 3 = 1 by decide), if_neg (show ¬ nI 3 = 2 by decide), if_pos (show nI 3 = 3 from rfl), pu_gd (i := m) (n := 4) (α := Int32 × (Nat → Int64) × (Nat → Int64) × (Nat → Int64) × (Nat → Int64)) hm (by omega)]
        rcases (show m = 0 ∨ m = 1 ∨ m = 2 ∨ m = 3 by omega) with rfl | rfl | rfl | rfl
        · rw [if_pos (show nI 0 = 0 from rfl)]
          refine key (fun q => _) ?_
          intro q
          refine ⟨rfl, fun j hj => ?_⟩
          rcases (show j = 0 ∨ j = 1 ∨ j = 2 ∨ j = 3 by omega) with rfl | rfl | rfl | rfl <;> rfl
        · rw [if_neg (show ¬ nI 1 = 0 by decide), if_pos (show nI 1 = 1 from rfl)]
          refine key (fun q => _) ?_
          intro q
          refine ⟨rfl, fun j hj => ?_⟩
          rcases (show j = 0 ∨ j = 1 ∨ j = 2 ∨ j = 3 by omega) with rfl | rfl | rfl | rfl <;> rfl
        · rw [if_neg (show ¬ nI 2 = 0 by decide), if_neg (show ¬ nI 2 = 1 by decide), if_pos (show nI 2 = 2 from rfl)]
          refine key (fun q => _) ?_
          intro q
          refine ⟨rfl, fun j hj => ?_⟩
          rcases (show j = 0 ∨ j = 1 ∨ j = 2 ∨ j = 3 by omega) with rfl | rfl | rfl | rfl <;> rfl
        · rw [if_neg (show ¬ nI 3 = 0 by decide), if_neg (show ¬ nI 3 = 1 by decide), if_neg (show ¬ nI 3 = 2 by decide), if_pos (show nI 3 = 3 from rfl)]
          refine key (fun q => _) ?_
          intro q
          refine ⟨rfl, fun j hj => ?_⟩
          rcases (show j = 0 ∨ j = 1 ∨ j = 2 ∨ j = 3 by omega) with rfl | rfl | rfl | rfl <;> rfl
    · rw [pu_f0 hv3, pu_f0 hv3]
      exact ⟨_, _, rfl, rfl, rfl, same⟩
  · rw [pu_f0 hv, pu_f0 hv]
    exact ⟨_, _, rfl, rfl, rfl, same⟩
